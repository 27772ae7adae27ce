/-! Names -/
/-- what the scope's row holds: places of symbols -/
def Ns (σ : mv_H) : Prop := 0 ≤ (mv_i σ 13 7).toInt ∧ (mv_i σ 13 7).toInt ≤ 64 ∧ ∀ i, i < (mv_i σ 13 7).toNatClampNeg → 0 ≤ (mv_a σ 19 i).toInt ∧ (mv_a σ 19 i).toInt < 16448
/-- kinds may have been forgotten -/
def Nf (σ τ : mv_H) : Prop := ∀ j, mv_a τ 14 j = mv_a σ 14 j ∨ mv_a τ 14 j = 0
theorem Nf.rf {σ : mv_H} : Nf σ σ := fun _ => Or.inl rfl
theorem Nf.tr {σ τ υ : mv_H} (h : Nf σ τ) (g : Nf τ υ) : Nf σ υ := fun j => by
  rcases g j with e | e
  · rw [e]; exact h j
  · exact Or.inr e
theorem Nf.z {σ τ : mv_H} (h : Nf σ τ) (k : Nat) : Nf σ (mv_sa τ 14 k 0) := fun j => by
  rw [rd_a]
  split
  · exact Or.inr rfl
  · exact h j
def y_Names_know : MethodName := ⟨"MachineLoom$Names", "know", "(III)V"⟩
abbrev b_Names_know : ByteArray := prog_6_method_3_code
theorem kc_Names_know : Cond.code y_Names_know b_Names_know 4 (Option.none : Option Jvm.ClassFile.FieldType) ∈ ma := ma_of (tb_6 _ (List.mem_of_getElem? (i := 128) rfl)) rfl
theorem k_135 : (Jvm.Cond.fieldLink "MachineLoom$Names" (9 : Nat) "MachineLoom$Names" "kinds" "[I") ∈ ma := ma_of (tb_1 _ (List.mem_of_getElem? (i := 135) rfl)) rfl
theorem k_136 : (Jvm.Cond.fieldLink "MachineLoom$Names" (15 : Nat) "MachineLoom$Names" "indexes" "[I") ∈ ma := ma_of (tb_1 _ (List.mem_of_getElem? (i := 136) rfl)) rfl
theorem d_Names_know_0 : decode b_Names_know 0 = .ok (.aload_n 0, 1) := by decide +kernel
theorem d_Names_know_1 : decode b_Names_know 1 = .ok (.getfield 9, 3) := by decide +kernel
theorem d_Names_know_4 : decode b_Names_know 4 = .ok (.iload_n 1, 1) := by decide +kernel
theorem d_Names_know_5 : decode b_Names_know 5 = .ok (.iload_n 2, 1) := by decide +kernel
theorem d_Names_know_6 : decode b_Names_know 6 = .ok (.iastore, 1) := by decide +kernel
theorem d_Names_know_7 : decode b_Names_know 7 = .ok (.aload_n 0, 1) := by decide +kernel
theorem d_Names_know_8 : decode b_Names_know 8 = .ok (.getfield 15, 3) := by decide +kernel
theorem d_Names_know_11 : decode b_Names_know 11 = .ok (.iload_n 1, 1) := by decide +kernel
theorem d_Names_know_12 : decode b_Names_know 12 = .ok (.iload_n 3, 1) := by decide +kernel
theorem d_Names_know_13 : decode b_Names_know 13 = .ok (.iastore, 1) := by decide +kernel
theorem d_Names_know_14 : decode b_Names_know 14 = .ok (.return_, 1) := by decide +kernel
set_option maxHeartbeats 4000000 in
set_option maxRecDepth 100000 in
theorem c_Names_know (l : Launch) {dA : FieldType → ClassId} {D : va_G} {al : Nat → Nat} {ext : mv_Sh} {sk sv : Nat → Nat} (hi : mv_inj (mg dA D al ext)) (σ : mv_H) (s9 k x : Int32) (hsh : mh (mv_r σ)) (g0 : 0 ≤ s9.toInt) (g1 : s9.toInt < 16448) : mv_C l y_Names_know (Cond.code y_Names_know b_Names_know 4 (Option.none : Option Jvm.ClassFile.FieldType) :: ma) ({ frames := 0, cells := 0, slots := 0, locals := 0 }) (mg dA D al ext) (mK sk sv) [.ref (al 13), .int s9, .int k, .int x] σ (mv_Rv (fun σ1 => σ1 = mv_sa (mv_sa σ 14 s9.toNatClampNeg k) 15 s9.toNatClampNeg x)) := by
  refine mv_C.ofV (cc := b_Names_know) (nL := 4) (ret := (Option.none : Option Jvm.ClassFile.FieldType)) (by decide +kernel) rfl hi (Nat.le_of_ble_eq_true rfl) ?_
  intro p e s m below meth c B hNs hr hnm hno
  refine mv_aload_n (pc := 0) B d_Names_know_0 rfl 0 rfl ?_
  refine mv_getR (pc := 1) (ci := 4) (C := R_Names) (T := F_Names) (N := 10) B 1 rfl rfl (by decide) i_Names (B.2.2.2.1 _ k_135) rfl (hsh _ 1 _ rfl) d_Names_know_1 ?_
  refine mv_iload_n (pc := 4) B d_Names_know_4 rfl 1 rfl ?_
  refine mv_iload_n (pc := 5) B d_Names_know_5 rfl 2 rfl ?_
  refine mv_iast (pc := 6) B rfl (i32_in g0 g1) d_Names_know_6 ?_
  refine mv_aload_n (pc := 7) B d_Names_know_7 rfl 0 rfl ?_
  refine mv_getR (pc := 8) (ci := 4) (C := R_Names) (T := F_Names) (N := 10) B 2 rfl rfl (by decide) i_Names (B.2.2.2.1 _ k_136) rfl (hsh _ 2 _ rfl) d_Names_know_8 ?_
  refine mv_iload_n (pc := 11) B d_Names_know_11 rfl 1 rfl ?_
  refine mv_iload_n (pc := 12) B d_Names_know_12 rfl 3 rfl ?_
  refine mv_iast (pc := 13) B rfl (i32_in g0 g1) d_Names_know_13 ?_
  exact mv_vret (pc := 14) B hr d_Names_know_14 (Nat.le_refl _) (Nat.le_refl _) ⟨rfl, rfl⟩
def y_Names_kindOf : MethodName := ⟨"MachineLoom$Names", "kindOf", "(I)I"⟩
abbrev b_Names_kindOf : ByteArray := prog_6_method_4_code
theorem kc_Names_kindOf : Cond.code y_Names_kindOf b_Names_kindOf 2 (Option.some Jvm.ClassFile.FieldType.int) ∈ ma := ma_of (tb_6 _ (List.mem_of_getElem? (i := 119) rfl)) rfl
theorem k_141 : (Jvm.Cond.fieldLink "MachineLoom$Names" (22 : Nat) "MachineLoom$Names" "letters" "[I") ∈ ma := ma_of (tb_1 _ (List.mem_of_getElem? (i := 141) rfl)) rfl
theorem k_134 : (Jvm.Cond.fieldLink "MachineLoom$Names" (35 : Nat) "MachineLoom$Names" "symbols" "LMachineLoom$Symbols;") ∈ ma := ma_of (tb_1 _ (List.mem_of_getElem? (i := 134) rfl)) rfl
theorem k_1320 : (Jvm.Cond.methodLink "MachineLoom$Names" (57 : Nat) ({ cls := "MachineLoom$Symbols", name := "letter", desc := "(I)I" } : Jvm.MethodName)) ∈ ma := ma_of (tb_6 _ (List.mem_of_getElem? (i := 120) rfl)) rfl
theorem k_1321 : (Jvm.Cond.instanceMethod ({ cls := "MachineLoom$Symbols", name := "letter", desc := "(I)I" } : Jvm.MethodName)) ∈ ma := ma_of (tb_6 _ (List.mem_of_getElem? (i := 121) rfl)) rfl
theorem k_1322 : (Jvm.Cond.selects "MachineLoom$Symbols" ({ cls := "MachineLoom$Symbols", name := "letter", desc := "(I)I" } : Jvm.MethodName) ({ cls := "MachineLoom$Symbols", name := "letter", desc := "(I)I" } : Jvm.MethodName)) ∈ ma := ma_of (tb_6 _ (List.mem_of_getElem? (i := 122) rfl)) rfl
theorem d_Names_kindOf_0 : decode b_Names_kindOf 0 = .ok (.aload_n 0, 1) := by decide +kernel
theorem d_Names_kindOf_1 : decode b_Names_kindOf 1 = .ok (.getfield 22, 3) := by decide +kernel
theorem d_Names_kindOf_4 : decode b_Names_kindOf 4 = .ok (.aload_n 0, 1) := by decide +kernel
theorem d_Names_kindOf_5 : decode b_Names_kindOf 5 = .ok (.getfield 35, 3) := by decide +kernel
theorem d_Names_kindOf_8 : decode b_Names_kindOf 8 = .ok (.iload_n 1, 1) := by decide +kernel
theorem d_Names_kindOf_9 : decode b_Names_kindOf 9 = .ok (.invokevirtual 57, 3) := by decide +kernel
theorem d_Names_kindOf_12 : decode b_Names_kindOf 12 = .ok (.iaload, 1) := by decide +kernel
theorem d_Names_kindOf_13 : decode b_Names_kindOf 13 = .ok (.ifCond .le (7), 3) := by decide +kernel
theorem d_Names_kindOf_16 : decode b_Names_kindOf 16 = .ok (.iconst 4, 1) := by decide +kernel
theorem d_Names_kindOf_17 : decode b_Names_kindOf 17 = .ok (.goto (9), 3) := by decide +kernel
theorem d_Names_kindOf_20 : decode b_Names_kindOf 20 = .ok (.aload_n 0, 1) := by decide +kernel
theorem d_Names_kindOf_21 : decode b_Names_kindOf 21 = .ok (.getfield 9, 3) := by decide +kernel
theorem d_Names_kindOf_24 : decode b_Names_kindOf 24 = .ok (.iload_n 1, 1) := by decide +kernel
theorem d_Names_kindOf_25 : decode b_Names_kindOf 25 = .ok (.iaload, 1) := by decide +kernel
theorem d_Names_kindOf_26 : decode b_Names_kindOf 26 = .ok (.ireturn, 1) := by decide +kernel
set_option maxHeartbeats 4000000 in
set_option maxRecDepth 100000 in
theorem c_Names_kindOf (l : Launch) {dA : FieldType → ClassId} {D : va_G} {al : Nat → Nat} {ext : mv_Sh} {sk sv : Nat → Nat} (hi : mv_inj (mg dA D al ext)) (σ : mv_H) (s9 : Int32) (hsh : mh (mv_r σ)) (n z : Nat) (hSy : Sy σ n z) (g0 : 0 ≤ s9.toInt) (g1 : s9.toInt < n) : mv_C l y_Names_kindOf (Cond.code y_Names_kindOf b_Names_kindOf 2 (Option.some Jvm.ClassFile.FieldType.int) :: ma) ({ frames := 1, cells := 0, slots := 0, locals := 22 }) (mg dA D al ext) (mK sk sv) [.ref (al 13), .int s9] σ (mv_Ri (fun v σ1 => σ1 = σ ∧ (v = 4 ∨ v = mv_a σ 14 s9.toNatClampNeg))) := by
  refine mv_C.ofV (cc := b_Names_kindOf) (nL := 2) (ret := (Option.some Jvm.ClassFile.FieldType.int)) (by decide +kernel) rfl hi (Nat.le_of_ble_eq_true rfl) ?_
  intro p e s m below meth c B hNs hr hnm hno
  refine mv_aload_n (pc := 0) B d_Names_kindOf_0 rfl 0 rfl ?_
  refine mv_getR (pc := 1) (ci := 4) (C := R_Names) (T := F_Names) (N := 10) B 4 rfl rfl (by decide) i_Names (B.2.2.2.1 _ k_141) rfl (hsh _ 4 _ rfl) d_Names_kindOf_1 ?_
  refine mv_aload_n (pc := 4) B d_Names_kindOf_4 rfl 0 rfl ?_
  refine mv_getR (pc := 5) (ci := 4) (C := R_Names) (T := F_Names) (N := 10) B 0 rfl rfl (by decide) i_Names (B.2.2.2.1 _ k_134) rfl (hsh _ 0 _ rfl) d_Names_kindOf_5 ?_
  refine mv_iload_n (pc := 8) B d_Names_kindOf_8 rfl 1 rfl ?_
  refine mv_callVi (pc := 9) (n := 1) (ci := 3) (C := R_Symbols) B (mK_ok sk sv) hNs rfl rfl (c_Symbols_letter l hi _ _ n z hsh hSy g0 g1) rfl (ma_goodc kc_Symbols_letter) (B.2.2.2.1 _ k_1320) (B.2.2.2.1 _ k_1321) (B.2.2.2.1 _ k_1322) (B.2.2.2.1 _ k_4) ⟨by decide +kernel, by decide +kernel, by decide +kernel⟩ rfl d_Names_kindOf_9 rfl (Nat.le_of_ble_eq_true rfl) ⟨by decide, by decide⟩ ⟨by decide, by decide⟩ ⟨by decide, by decide⟩ (mv_noH hno _) (fun v9 σ9 h9 => ?_)
  obtain ⟨e9, z9⟩ := h9
  have e9 := e9.symm
  subst e9
  refine mv_iald (pc := 12) B rfl (i32_in z9.1 z9.2) d_Names_kindOf_12 ?_
  refine mv_if_le (pc := 13) (tgt := 20) B d_Names_kindOf_13 rfl (fun h13 => ?_) (fun h13 => ?_)
  · skip
    refine mv_aload_n (pc := 20) B d_Names_kindOf_20 rfl 0 rfl ?_
    refine mv_getR (pc := 21) (ci := 4) (C := R_Names) (T := F_Names) (N := 10) B 1 rfl rfl (by decide) i_Names (B.2.2.2.1 _ k_135) rfl (hsh _ 1 _ rfl) d_Names_kindOf_21 ?_
    refine mv_iload_n (pc := 24) B d_Names_kindOf_24 rfl 1 rfl ?_
    refine mv_iald (pc := 25) B rfl (i32_in g0 (by have := hSy.2.1; omega)) d_Names_kindOf_25 ?_
    exact mv_iret (pc := 26) B hr rfl d_Names_kindOf_26 (Nat.le_refl _) (Nat.le_refl _) ⟨_, rfl, rfl, by first | exact Or.inl rfl | exact Or.inr rfl⟩
  · skip
    refine mv_iconst (pc := 16) (v := 4) B d_Names_kindOf_16 (by decide) ?_
    refine mv_goto (pc := 17) (tgt := 26) B d_Names_kindOf_17 rfl ?_
    exact mv_iret (pc := 26) B hr rfl d_Names_kindOf_26 (Nat.le_refl _) (Nat.le_refl _) ⟨_, rfl, rfl, by first | exact Or.inl rfl | exact Or.inr rfl⟩
def y_Names_maskOf : MethodName := ⟨"MachineLoom$Names", "maskOf", "(I)J"⟩
abbrev b_Names_maskOf : ByteArray := prog_6_method_5_code
theorem kc_Names_maskOf : Cond.code y_Names_maskOf b_Names_maskOf 2 (Option.some Jvm.ClassFile.FieldType.long) ∈ ma := ma_of (tb_7 _ (List.mem_of_getElem? (i := 13) rfl)) rfl
theorem k_142 : (Jvm.Cond.fieldLink "MachineLoom$Names" (25 : Nat) "MachineLoom$Names" "masks" "[J") ∈ ma := ma_of (tb_1 _ (List.mem_of_getElem? (i := 142) rfl)) rfl
theorem d_Names_maskOf_0 : decode b_Names_maskOf 0 = .ok (.aload_n 0, 1) := by decide +kernel
theorem d_Names_maskOf_1 : decode b_Names_maskOf 1 = .ok (.getfield 25, 3) := by decide +kernel
theorem d_Names_maskOf_4 : decode b_Names_maskOf 4 = .ok (.aload_n 0, 1) := by decide +kernel
theorem d_Names_maskOf_5 : decode b_Names_maskOf 5 = .ok (.getfield 35, 3) := by decide +kernel
theorem d_Names_maskOf_8 : decode b_Names_maskOf 8 = .ok (.iload_n 1, 1) := by decide +kernel
theorem d_Names_maskOf_9 : decode b_Names_maskOf 9 = .ok (.invokevirtual 57, 3) := by decide +kernel
theorem d_Names_maskOf_12 : decode b_Names_maskOf 12 = .ok (.laload, 1) := by decide +kernel
theorem d_Names_maskOf_13 : decode b_Names_maskOf 13 = .ok (.lreturn, 1) := by decide +kernel
set_option maxHeartbeats 4000000 in
set_option maxRecDepth 100000 in
theorem c_Names_maskOf (l : Launch) {dA : FieldType → ClassId} {D : va_G} {al : Nat → Nat} {ext : mv_Sh} {sk sv : Nat → Nat} (hi : mv_inj (mg dA D al ext)) (σ : mv_H) (s9 : Int32) (hsh : mh (mv_r σ)) (n z : Nat) (hSy : Sy σ n z) (g0 : 0 ≤ s9.toInt) (g1 : s9.toInt < n) : mv_C l y_Names_maskOf (Cond.code y_Names_maskOf b_Names_maskOf 2 (Option.some Jvm.ClassFile.FieldType.long) :: ma) ({ frames := 1, cells := 0, slots := 0, locals := 22 }) (mg dA D al ext) (mK sk sv) [.ref (al 13), .int s9] σ (mv_Rl (fun v σ1 => σ1 = σ)) := by
  refine mv_C.ofV (cc := b_Names_maskOf) (nL := 2) (ret := (Option.some Jvm.ClassFile.FieldType.long)) (by decide +kernel) rfl hi (Nat.le_of_ble_eq_true rfl) ?_
  intro p e s m below meth c B hNs hr hnm hno
  refine mv_aload_n (pc := 0) B d_Names_maskOf_0 rfl 0 rfl ?_
  refine mv_getR (pc := 1) (ci := 4) (C := R_Names) (T := F_Names) (N := 10) B 5 rfl rfl (by decide) i_Names (B.2.2.2.1 _ k_142) rfl (hsh _ 5 _ rfl) d_Names_maskOf_1 ?_
  refine mv_aload_n (pc := 4) B d_Names_maskOf_4 rfl 0 rfl ?_
  refine mv_getR (pc := 5) (ci := 4) (C := R_Names) (T := F_Names) (N := 10) B 0 rfl rfl (by decide) i_Names (B.2.2.2.1 _ k_134) rfl (hsh _ 0 _ rfl) d_Names_maskOf_5 ?_
  refine mv_iload_n (pc := 8) B d_Names_maskOf_8 rfl 1 rfl ?_
  refine mv_callVi (pc := 9) (n := 1) (ci := 3) (C := R_Symbols) B (mK_ok sk sv) hNs rfl rfl (c_Symbols_letter l hi _ _ n z hsh hSy g0 g1) rfl (ma_goodc kc_Symbols_letter) (B.2.2.2.1 _ k_1320) (B.2.2.2.1 _ k_1321) (B.2.2.2.1 _ k_1322) (B.2.2.2.1 _ k_4) ⟨by decide +kernel, by decide +kernel, by decide +kernel⟩ rfl d_Names_maskOf_9 rfl (Nat.le_of_ble_eq_true rfl) ⟨by decide, by decide⟩ ⟨by decide, by decide⟩ ⟨by decide, by decide⟩ (mv_noH hno _) (fun v9 σ9 h9 => ?_)
  obtain ⟨e9, z9⟩ := h9
  have e9 := e9.symm
  subst e9
  refine mv_lald (pc := 12) B rfl (i32_in z9.1 z9.2) d_Names_maskOf_12 ?_
  exact mv_lret (pc := 13) B hr d_Names_maskOf_13 (Nat.le_refl _) (Nat.le_refl _) ⟨_, rfl, rfl⟩
def y_Names_addLet : MethodName := ⟨"MachineLoom$Names", "addLet", "(II)V"⟩
abbrev b_Names_addLet : ByteArray := prog_6_method_8_code
theorem kc_Names_addLet : Cond.code y_Names_addLet b_Names_addLet 3 (Option.none : Option Jvm.ClassFile.FieldType) ∈ ma := ma_of (tb_7 _ (List.mem_of_getElem? (i := 94) rfl)) rfl
theorem k_148 : (Jvm.Cond.fieldLink "MachineLoom$Names" (71 : Nat) "MachineLoom$Names" "lets" "I") ∈ ma := ma_of (tb_1 _ (List.mem_of_getElem? (i := 148) rfl)) rfl
theorem k_1535 : (Jvm.Cond.methodLink "MachineLoom$Names" (74 : Nat) ({ cls := "MachineLoom$Names", name := "know", desc := "(III)V" } : Jvm.MethodName)) ∈ ma := ma_of (tb_7 _ (List.mem_of_getElem? (i := 95) rfl)) rfl
theorem k_5 : (Jvm.Cond.initialized "MachineLoom$Names") ∈ ma := ma_of (tb_1 _ (List.mem_of_getElem? (i := 5) rfl)) rfl
theorem k_1326 : (Jvm.Cond.instanceMethod ({ cls := "MachineLoom$Names", name := "know", desc := "(III)V" } : Jvm.MethodName)) ∈ ma := ma_of (tb_6 _ (List.mem_of_getElem? (i := 126) rfl)) rfl
theorem k_1327 : (Jvm.Cond.selects "MachineLoom$Names" ({ cls := "MachineLoom$Names", name := "know", desc := "(III)V" } : Jvm.MethodName) ({ cls := "MachineLoom$Names", name := "know", desc := "(III)V" } : Jvm.MethodName)) ∈ ma := ma_of (tb_6 _ (List.mem_of_getElem? (i := 127) rfl)) rfl
theorem k_143 : (Jvm.Cond.fieldLink "MachineLoom$Names" (29 : Nat) "MachineLoom$Names" "scope" "[I") ∈ ma := ma_of (tb_1 _ (List.mem_of_getElem? (i := 143) rfl)) rfl
theorem k_144 : (Jvm.Cond.fieldLink "MachineLoom$Names" (78 : Nat) "MachineLoom$Names" "inScope" "I") ∈ ma := ma_of (tb_1 _ (List.mem_of_getElem? (i := 144) rfl)) rfl
theorem k_146 : (Jvm.Cond.fieldLink "MachineLoom$Names" (32 : Nat) "MachineLoom$Names" "letWidths" "[I") ∈ ma := ma_of (tb_1 _ (List.mem_of_getElem? (i := 146) rfl)) rfl
theorem d_Names_addLet_0 : decode b_Names_addLet 0 = .ok (.aload_n 0, 1) := by decide +kernel
theorem d_Names_addLet_1 : decode b_Names_addLet 1 = .ok (.iload_n 1, 1) := by decide +kernel
theorem d_Names_addLet_2 : decode b_Names_addLet 2 = .ok (.iconst 3, 1) := by decide +kernel
theorem d_Names_addLet_3 : decode b_Names_addLet 3 = .ok (.aload_n 0, 1) := by decide +kernel
theorem d_Names_addLet_4 : decode b_Names_addLet 4 = .ok (.getfield 71, 3) := by decide +kernel
theorem d_Names_addLet_7 : decode b_Names_addLet 7 = .ok (.invokevirtual 74, 3) := by decide +kernel
theorem d_Names_addLet_10 : decode b_Names_addLet 10 = .ok (.aload_n 0, 1) := by decide +kernel
theorem d_Names_addLet_11 : decode b_Names_addLet 11 = .ok (.getfield 29, 3) := by decide +kernel
theorem d_Names_addLet_14 : decode b_Names_addLet 14 = .ok (.aload_n 0, 1) := by decide +kernel
theorem d_Names_addLet_15 : decode b_Names_addLet 15 = .ok (.getfield 78, 3) := by decide +kernel
theorem d_Names_addLet_18 : decode b_Names_addLet 18 = .ok (.iload_n 1, 1) := by decide +kernel
theorem d_Names_addLet_19 : decode b_Names_addLet 19 = .ok (.iastore, 1) := by decide +kernel
theorem d_Names_addLet_20 : decode b_Names_addLet 20 = .ok (.aload_n 0, 1) := by decide +kernel
theorem d_Names_addLet_21 : decode b_Names_addLet 21 = .ok (.dup, 1) := by decide +kernel
theorem d_Names_addLet_22 : decode b_Names_addLet 22 = .ok (.getfield 78, 3) := by decide +kernel
theorem d_Names_addLet_25 : decode b_Names_addLet 25 = .ok (.iconst 1, 1) := by decide +kernel
theorem d_Names_addLet_26 : decode b_Names_addLet 26 = .ok (.iadd, 1) := by decide +kernel
theorem d_Names_addLet_27 : decode b_Names_addLet 27 = .ok (.putfield 78, 3) := by decide +kernel
theorem d_Names_addLet_30 : decode b_Names_addLet 30 = .ok (.aload_n 0, 1) := by decide +kernel
theorem d_Names_addLet_31 : decode b_Names_addLet 31 = .ok (.getfield 32, 3) := by decide +kernel
theorem d_Names_addLet_34 : decode b_Names_addLet 34 = .ok (.aload_n 0, 1) := by decide +kernel
theorem d_Names_addLet_35 : decode b_Names_addLet 35 = .ok (.getfield 71, 3) := by decide +kernel
theorem d_Names_addLet_38 : decode b_Names_addLet 38 = .ok (.iload_n 2, 1) := by decide +kernel
theorem d_Names_addLet_39 : decode b_Names_addLet 39 = .ok (.iastore, 1) := by decide +kernel
theorem d_Names_addLet_40 : decode b_Names_addLet 40 = .ok (.aload_n 0, 1) := by decide +kernel
theorem d_Names_addLet_41 : decode b_Names_addLet 41 = .ok (.dup, 1) := by decide +kernel
theorem d_Names_addLet_42 : decode b_Names_addLet 42 = .ok (.getfield 71, 3) := by decide +kernel
theorem d_Names_addLet_45 : decode b_Names_addLet 45 = .ok (.iconst 1, 1) := by decide +kernel
theorem d_Names_addLet_46 : decode b_Names_addLet 46 = .ok (.iadd, 1) := by decide +kernel
theorem d_Names_addLet_47 : decode b_Names_addLet 47 = .ok (.putfield 71, 3) := by decide +kernel
theorem d_Names_addLet_50 : decode b_Names_addLet 50 = .ok (.return_, 1) := by decide +kernel
set_option maxHeartbeats 4000000 in
set_option maxRecDepth 100000 in
theorem c_Names_addLet (l : Launch) {dA : FieldType → ClassId} {D : va_G} {al : Nat → Nat} {ext : mv_Sh} {sk sv : Nat → Nat} (hi : mv_inj (mg dA D al ext)) (σ : mv_H) (s9 w9 : Int32) (hsh : mh (mv_r σ)) (g0 : 0 ≤ s9.toInt) (g1 : s9.toInt < 16448) (g2 : 0 ≤ (mv_i σ 13 7).toInt) (g3 : (mv_i σ 13 7).toInt < 64) (g4 : 0 ≤ (mv_i σ 13 9).toInt) (g5 : (mv_i σ 13 9).toInt < 64) : mv_C l y_Names_addLet (Cond.code y_Names_addLet b_Names_addLet 3 (Option.none : Option Jvm.ClassFile.FieldType) :: ma) ({ frames := 1, cells := 0, slots := 0, locals := 23 }) (mg dA D al ext) (mK sk sv) [.ref (al 13), .int s9, .int w9] σ (mv_Rv (fun σ1 => σ1 = mv_si (mv_sa (mv_si (mv_sa (mv_sa (mv_sa σ 14 s9.toNatClampNeg 3) 15 s9.toNatClampNeg (mv_i σ 13 9)) 19 (mv_i σ 13 7).toNatClampNeg s9) 13 7 (mv_i σ 13 7 + 1)) 20 (mv_i σ 13 9).toNatClampNeg w9) 13 9 (mv_i σ 13 9 + 1))) := by
  refine mv_C.ofV (cc := b_Names_addLet) (nL := 3) (ret := (Option.none : Option Jvm.ClassFile.FieldType)) (by decide +kernel) rfl hi (Nat.le_of_ble_eq_true rfl) ?_
  intro p e s m below meth c B hNs hr hnm hno
  refine mv_aload_n (pc := 0) B d_Names_addLet_0 rfl 0 rfl ?_
  refine mv_iload_n (pc := 1) B d_Names_addLet_1 rfl 1 rfl ?_
  refine mv_iconst (pc := 2) (v := 3) B d_Names_addLet_2 (by decide) ?_
  refine mv_aload_n (pc := 3) B d_Names_addLet_3 rfl 0 rfl ?_
  refine mv_getI (pc := 4) (ci := 4) (C := R_Names) (T := F_Names) (N := 10) B 9 rfl rfl (by decide) i_Names (B.2.2.2.1 _ k_148) rfl d_Names_addLet_4 ?_
  refine mv_callVv (pc := 7) (n := 3) (ci := 4) (C := R_Names) B (mK_ok sk sv) hNs rfl rfl (c_Names_know l hi _ _ _ _ hsh g0 g1) rfl (ma_goodc kc_Names_know) (B.2.2.2.1 _ k_1535) (B.2.2.2.1 _ k_1326) (B.2.2.2.1 _ k_1327) (B.2.2.2.1 _ k_5) ⟨by decide +kernel, by decide +kernel, by decide +kernel⟩ rfl d_Names_addLet_7 rfl (Nat.le_of_ble_eq_true rfl) ⟨by decide, by decide⟩ ⟨by decide, by decide⟩ ⟨by decide, by decide⟩ (mv_noH hno _) (fun σ7 h7 => ?_)
  subst h7
  refine mv_aload_n (pc := 10) B d_Names_addLet_10 rfl 0 rfl ?_
  refine mv_getR (pc := 11) (ci := 4) (C := R_Names) (T := F_Names) (N := 10) B 6 rfl rfl (by decide) i_Names (B.2.2.2.1 _ k_143) rfl (hsh _ 6 _ rfl) d_Names_addLet_11 ?_
  refine mv_aload_n (pc := 14) B d_Names_addLet_14 rfl 0 rfl ?_
  refine mv_getI (pc := 15) (ci := 4) (C := R_Names) (T := F_Names) (N := 10) B 7 rfl rfl (by decide) i_Names (B.2.2.2.1 _ k_144) rfl d_Names_addLet_15 ?_
  refine mv_iload_n (pc := 18) B d_Names_addLet_18 rfl 1 rfl ?_
  refine mv_iast (pc := 19) B rfl (i32_in g2 g3) d_Names_addLet_19 ?_
  refine mv_aload_n (pc := 20) B d_Names_addLet_20 rfl 0 rfl ?_
  refine mv_dup (pc := 21) B d_Names_addLet_21 rfl ?_
  refine mv_getI (pc := 22) (ci := 4) (C := R_Names) (T := F_Names) (N := 10) B 7 rfl rfl (by decide) i_Names (B.2.2.2.1 _ k_144) rfl d_Names_addLet_22 ?_
  refine mv_iconst (pc := 25) (v := 1) B d_Names_addLet_25 (by decide) ?_
  refine mv_iadd (pc := 26) B d_Names_addLet_26 ?_
  refine mv_putI (pc := 27) (ci := 4) (C := R_Names) (T := F_Names) (N := 10) B 7 rfl rfl (by decide) i_Names t_Names_ok n_Names (B.2.2.2.1 _ k_144) rfl rfl rfl rfl d_Names_addLet_27 ?_
  refine mv_aload_n (pc := 30) B d_Names_addLet_30 rfl 0 rfl ?_
  refine mv_getR (pc := 31) (ci := 4) (C := R_Names) (T := F_Names) (N := 10) B 8 rfl rfl (by decide) i_Names (B.2.2.2.1 _ k_146) rfl (hsh _ 8 _ rfl) d_Names_addLet_31 ?_
  refine mv_aload_n (pc := 34) B d_Names_addLet_34 rfl 0 rfl ?_
  refine mv_getI (pc := 35) (ci := 4) (C := R_Names) (T := F_Names) (N := 10) B 9 rfl rfl (by decide) i_Names (B.2.2.2.1 _ k_148) rfl d_Names_addLet_35 ?_
  refine mv_iload_n (pc := 38) B d_Names_addLet_38 rfl 2 rfl ?_
  refine mv_iast (pc := 39) B rfl (i32_in g4 g5) d_Names_addLet_39 ?_
  refine mv_aload_n (pc := 40) B d_Names_addLet_40 rfl 0 rfl ?_
  refine mv_dup (pc := 41) B d_Names_addLet_41 rfl ?_
  refine mv_getI (pc := 42) (ci := 4) (C := R_Names) (T := F_Names) (N := 10) B 9 rfl rfl (by decide) i_Names (B.2.2.2.1 _ k_148) rfl d_Names_addLet_42 ?_
  refine mv_iconst (pc := 45) (v := 1) B d_Names_addLet_45 (by decide) ?_
  refine mv_iadd (pc := 46) B d_Names_addLet_46 ?_
  refine mv_putI (pc := 47) (ci := 4) (C := R_Names) (T := F_Names) (N := 10) B 9 rfl rfl (by decide) i_Names t_Names_ok n_Names (B.2.2.2.1 _ k_148) rfl rfl rfl rfl d_Names_addLet_47 ?_
  exact mv_vret (pc := 50) B hr d_Names_addLet_50 (Nat.le_refl _) (Nat.le_refl _) ⟨rfl, rfl⟩
def y_Names_forget : MethodName := ⟨"MachineLoom$Names", "forget", "(I)V"⟩
abbrev b_Names_forget : ByteArray := prog_6_method_9_code
theorem kc_Names_forget : Cond.code y_Names_forget b_Names_forget 3 (Option.none : Option Jvm.ClassFile.FieldType) ∈ ma := ma_of (tb_6 _ (List.mem_of_getElem? (i := 61) rfl)) rfl
theorem d_Names_forget_0 : decode b_Names_forget 0 = .ok (.iload_n 1, 1) := by decide +kernel
theorem d_Names_forget_1 : decode b_Names_forget 1 = .ok (.istore_n 2, 1) := by decide +kernel
theorem d_Names_forget_2 : decode b_Names_forget 2 = .ok (.iload_n 2, 1) := by decide +kernel
theorem d_Names_forget_3 : decode b_Names_forget 3 = .ok (.aload_n 0, 1) := by decide +kernel
theorem d_Names_forget_4 : decode b_Names_forget 4 = .ok (.getfield 78, 3) := by decide +kernel
theorem d_Names_forget_7 : decode b_Names_forget 7 = .ok (.if_icmp .ge (21), 3) := by decide +kernel
theorem d_Names_forget_10 : decode b_Names_forget 10 = .ok (.aload_n 0, 1) := by decide +kernel
theorem d_Names_forget_11 : decode b_Names_forget 11 = .ok (.getfield 9, 3) := by decide +kernel
theorem d_Names_forget_14 : decode b_Names_forget 14 = .ok (.aload_n 0, 1) := by decide +kernel
theorem d_Names_forget_15 : decode b_Names_forget 15 = .ok (.getfield 29, 3) := by decide +kernel
theorem d_Names_forget_18 : decode b_Names_forget 18 = .ok (.iload_n 2, 1) := by decide +kernel
theorem d_Names_forget_19 : decode b_Names_forget 19 = .ok (.iaload, 1) := by decide +kernel
theorem d_Names_forget_20 : decode b_Names_forget 20 = .ok (.iconst 0, 1) := by decide +kernel
theorem d_Names_forget_21 : decode b_Names_forget 21 = .ok (.iastore, 1) := by decide +kernel
theorem d_Names_forget_22 : decode b_Names_forget 22 = .ok (.iinc 2 (1), 3) := by decide +kernel
theorem d_Names_forget_25 : decode b_Names_forget 25 = .ok (.goto (-23), 3) := by decide +kernel
theorem d_Names_forget_28 : decode b_Names_forget 28 = .ok (.aload_n 0, 1) := by decide +kernel
theorem d_Names_forget_29 : decode b_Names_forget 29 = .ok (.iload_n 1, 1) := by decide +kernel
theorem d_Names_forget_30 : decode b_Names_forget 30 = .ok (.putfield 78, 3) := by decide +kernel
theorem d_Names_forget_33 : decode b_Names_forget 33 = .ok (.return_, 1) := by decide +kernel
set_option maxHeartbeats 4000000 in
set_option maxRecDepth 100000 in
theorem c_Names_forget (l : Launch) {dA : FieldType → ClassId} {D : va_G} {al : Nat → Nat} {ext : mv_Sh} {sk sv : Nat → Nat} (hi : mv_inj (mg dA D al ext)) (σ : mv_H) (k : Int32) (hsh : mh (mv_r σ)) (hNs9 : Ns σ) (g0 : 0 ≤ k.toInt) : mv_C l y_Names_forget (Cond.code y_Names_forget b_Names_forget 3 (Option.none : Option Jvm.ClassFile.FieldType) :: ma) ({ frames := 0, cells := 0, slots := 0, locals := 0 }) (mg dA D al ext) (mK sk sv) [.ref (al 13), .int k] σ (mv_Rv (fun σ1 => Fr (fun o k => o = 13 ∧ k = 7) (fun o => o = 14) (fun _ => False) σ σ1 ∧ Nf σ σ1 ∧ mv_i σ1 13 7 = k)) := by
  refine mv_C.ofV (cc := b_Names_forget) (nL := 3) (ret := (Option.none : Option Jvm.ClassFile.FieldType)) (by decide +kernel) rfl hi (Nat.le_of_ble_eq_true rfl) ?_
  intro p e s m below meth c B hNs hr hnm hno
  have hn0 := hNs9.1
  have hn1 := hNs9.2.1
  have lp : ∀ (nn : Nat) (τ : mv_H) (j : Int32) (q0 : 0 ≤ j.toInt) (qi : mv_i τ 13 7 = mv_i σ 13 7) (qh : mh (mv_r τ)) (qf : Fr (fun o k => o = 13 ∧ k = 7) (fun o => o = 14) (fun _ => False) σ τ) (qn : Nf σ τ), (64 - j.toInt).toNat < nn → mv_V p l e ({ frames := 0, cells := 0, slots := 0, locals := 0 }) s m ([.ref (al 13), .int k] : List Value).toArray below meth c (mg dA D al ext) 3 0 0 (mv_Q (mg dA D al ext) below s 0 0 (mv_Rv (fun σ1 => Fr (fun o k => o = 13 ∧ k = 7) (fun o => o = 14) (fun _ => False) σ σ1 ∧ Nf σ σ1 ∧ mv_i σ1 13 7 = k))) τ 2 [(2, .int j), (0, .ref (al 13)), (1, .int k)] [] := by
    intro nn
    induction nn with
    | zero => intro τ j q0 qi qh qf qn hm; exact absurd hm (Nat.not_lt_zero _)
    | succ nn ih =>
      intro τ j q0 qi qh qf qn hm
      refine mv_iload_n (pc := 2) B d_Names_forget_2 rfl 0 rfl ?_
      refine mv_aload_n (pc := 3) B d_Names_forget_3 rfl 1 rfl ?_
      refine mv_getI (pc := 4) (ci := 4) (C := R_Names) (T := F_Names) (N := 10) B 7 rfl rfl (by decide) i_Names (B.2.2.2.1 _ k_144) rfl d_Names_forget_4 ?_
      refine mv_icmp_ge (pc := 7) (tgt := 28) B d_Names_forget_7 rfl (fun h7 => ?_) (fun h7 => ?_)
      · skip
        refine mv_aload_n (pc := 28) B d_Names_forget_28 rfl 1 rfl ?_
        refine mv_iload_n (pc := 29) B d_Names_forget_29 rfl 2 rfl ?_
        refine mv_putI (pc := 30) (ci := 4) (C := R_Names) (T := F_Names) (N := 10) B 7 rfl rfl (by decide) i_Names t_Names_ok n_Names (B.2.2.2.1 _ k_144) rfl rfl rfl rfl d_Names_forget_30 ?_
        exact mv_vret (pc := 33) B hr d_Names_forget_33 (Nat.le_refl _) (Nat.le_refl _) ⟨rfl, qf.si (by decide), fun j => qn j, mv_u_same (mv_i τ) 13 7 k⟩
      · skip
        rw [Int32.le_iff_toInt_le, qi] at h7
        have ej := i32_cl q0
        have en := i32_cl (x := mv_i σ 13 7) (by omega)
        have hs := hNs9.2.2 j.toNatClampNeg (by omega)
        have es : mv_a τ 19 j.toNatClampNeg = mv_a σ 19 j.toNatClampNeg := by rw [qf.2.1 19 (by decide)]
        refine mv_aload_n (pc := 10) B d_Names_forget_10 rfl 1 rfl ?_
        refine mv_getR (pc := 11) (ci := 4) (C := R_Names) (T := F_Names) (N := 10) B 1 rfl rfl (by decide) i_Names (B.2.2.2.1 _ k_135) rfl (qh _ 1 _ rfl) d_Names_forget_11 ?_
        refine mv_aload_n (pc := 14) B d_Names_forget_14 rfl 1 rfl ?_
        refine mv_getR (pc := 15) (ci := 4) (C := R_Names) (T := F_Names) (N := 10) B 6 rfl rfl (by decide) i_Names (B.2.2.2.1 _ k_143) rfl (qh _ 6 _ rfl) d_Names_forget_15 ?_
        refine mv_iload_n (pc := 18) B d_Names_forget_18 rfl 0 rfl ?_
        refine mv_iald (pc := 19) B rfl (i32_in q0 (by omega)) d_Names_forget_19 ?_
        refine mv_iconst (pc := 20) (v := 0) B d_Names_forget_20 (by decide) ?_
        refine mv_iast (pc := 21) B rfl (i32_in (by rw [es]; exact hs.1) (by rw [es]; exact hs.2)) d_Names_forget_21 ?_
        refine mv_iinc (pc := 22) (j := 0) (v := 1) B d_Names_forget_22 rfl (by decide) (by decide) rfl ?_
        refine mv_goto (pc := 25) (tgt := 2) B d_Names_forget_25 rfl ?_
        refine mv_lpick [0, 1, 2] rfl ?_
        exact ih _ _ (by rw [i32_inc (by omega)]; omega) qi qh (qf.sa rfl) (qn.z _) (by rw [i32_inc (by omega)]; omega)
  refine mv_iload_n (pc := 0) B d_Names_forget_0 rfl 1 rfl ?_
  refine mv_istore_n (pc := 1) B d_Names_forget_1 rfl (by decide) rfl ?_
  refine mv_lpick [0, 1, 2] rfl ?_
  exact lp _ _ _ g0 rfl hsh Fr.rf Nf.rf (Nat.lt_succ_self _)
abbrev NmF : mv_H → mv_H → Prop := Fr (fun o k => o = 13 ∧ (k = 7 ∨ k = 9)) (fun o => o = 14 ∨ o = 17) (fun o => o = 18)
theorem Fr.cb {pi : Nat → Nat → Prop} {pa pb : Nat → Prop} {σ τ : mv_H} (h : Fr pi pa pb σ τ) {o : Nat} {f : Nat → Int64} (q : pb o) : Fr pi pa pb σ (mv_cb τ o f) :=
  ⟨h.1, h.2.1, fun o' g => (show (if o' = o then f else mv_b τ o') = mv_b σ o' from (if_neg (fun z => g (by rw [z]; exact q))).trans (h.2.2.1 o' g)), h.2.2.2.1, h.2.2.2.2⟩
def y_Names_leaveOp : MethodName := ⟨"MachineLoom$Names", "leaveOp", "()V"⟩
abbrev b_Names_leaveOp : ByteArray := prog_6_method_7_code
theorem kc_Names_leaveOp : Cond.code y_Names_leaveOp b_Names_leaveOp 1 (Option.none : Option Jvm.ClassFile.FieldType) ∈ ma := ma_of (tb_6 _ (List.mem_of_getElem? (i := 53) rfl)) rfl
theorem k_1254 : (Jvm.Cond.methodLink "MachineLoom$Names" (61 : Nat) ({ cls := "java/util/Arrays", name := "fill", desc := "([II)V" } : Jvm.MethodName)) ∈ ma := ma_of (tb_6 _ (List.mem_of_getElem? (i := 54) rfl)) rfl
theorem k_1255 : (Jvm.Cond.methodLink "MachineLoom$Names" (64 : Nat) ({ cls := "java/util/Arrays", name := "fill", desc := "([JJ)V" } : Jvm.MethodName)) ∈ ma := ma_of (tb_6 _ (List.mem_of_getElem? (i := 55) rfl)) rfl
theorem k_1256 : (Jvm.Cond.static ({ cls := "java/util/Arrays", name := "fill", desc := "([JJ)V" } : Jvm.MethodName)) ∈ ma := ma_of (tb_6 _ (List.mem_of_getElem? (i := 56) rfl)) rfl
theorem k_1258 : (Jvm.Cond.methodLink "MachineLoom$Names" (67 : Nat) ({ cls := "MachineLoom$Names", name := "forget", desc := "(I)V" } : Jvm.MethodName)) ∈ ma := ma_of (tb_6 _ (List.mem_of_getElem? (i := 58) rfl)) rfl
theorem k_1259 : (Jvm.Cond.instanceMethod ({ cls := "MachineLoom$Names", name := "forget", desc := "(I)V" } : Jvm.MethodName)) ∈ ma := ma_of (tb_6 _ (List.mem_of_getElem? (i := 59) rfl)) rfl
theorem k_1260 : (Jvm.Cond.selects "MachineLoom$Names" ({ cls := "MachineLoom$Names", name := "forget", desc := "(I)V" } : Jvm.MethodName) ({ cls := "MachineLoom$Names", name := "forget", desc := "(I)V" } : Jvm.MethodName)) ∈ ma := ma_of (tb_6 _ (List.mem_of_getElem? (i := 60) rfl)) rfl
theorem d_Names_leaveOp_0 : decode b_Names_leaveOp 0 = .ok (.aload_n 0, 1) := by decide +kernel
theorem d_Names_leaveOp_1 : decode b_Names_leaveOp 1 = .ok (.getfield 22, 3) := by decide +kernel
theorem d_Names_leaveOp_4 : decode b_Names_leaveOp 4 = .ok (.iconst 0, 1) := by decide +kernel
theorem d_Names_leaveOp_5 : decode b_Names_leaveOp 5 = .ok (.invokestatic 61, 3) := by decide +kernel
theorem d_Names_leaveOp_8 : decode b_Names_leaveOp 8 = .ok (.aload_n 0, 1) := by decide +kernel
theorem d_Names_leaveOp_9 : decode b_Names_leaveOp 9 = .ok (.getfield 25, 3) := by decide +kernel
theorem d_Names_leaveOp_12 : decode b_Names_leaveOp 12 = .ok (.lconst 0, 1) := by decide +kernel
theorem d_Names_leaveOp_13 : decode b_Names_leaveOp 13 = .ok (.invokestatic 64, 3) := by decide +kernel
theorem d_Names_leaveOp_16 : decode b_Names_leaveOp 16 = .ok (.aload_n 0, 1) := by decide +kernel
theorem d_Names_leaveOp_17 : decode b_Names_leaveOp 17 = .ok (.iconst 0, 1) := by decide +kernel
theorem d_Names_leaveOp_18 : decode b_Names_leaveOp 18 = .ok (.invokevirtual 67, 3) := by decide +kernel
theorem d_Names_leaveOp_21 : decode b_Names_leaveOp 21 = .ok (.aload_n 0, 1) := by decide +kernel
theorem d_Names_leaveOp_22 : decode b_Names_leaveOp 22 = .ok (.iconst 0, 1) := by decide +kernel
theorem d_Names_leaveOp_23 : decode b_Names_leaveOp 23 = .ok (.putfield 71, 3) := by decide +kernel
theorem d_Names_leaveOp_26 : decode b_Names_leaveOp 26 = .ok (.return_, 1) := by decide +kernel
set_option maxHeartbeats 4000000 in
set_option maxRecDepth 100000 in
theorem c_Names_leaveOp (l : Launch) {dA : FieldType → ClassId} {D : va_G} {al : Nat → Nat} {ext : mv_Sh} {sk sv : Nat → Nat} (hi : mv_inj (mg dA D al ext)) (σ : mv_H) (hsh : mh (mv_r σ)) (hNs9 : Ns σ) : mv_C l y_Names_leaveOp (Cond.code y_Names_leaveOp b_Names_leaveOp 1 (Option.none : Option Jvm.ClassFile.FieldType) :: ma) ({ frames := 1, cells := 0, slots := 0, locals := 24 }) (mg dA D al ext) (mK sk sv) [.ref (al 13)] σ (mv_Rv (fun σ1 => NmF σ σ1 ∧ Nf σ σ1 ∧ mv_i σ1 13 7 = 0 ∧ mv_i σ1 13 9 = 0)) := by
  refine mv_C.ofV (cc := b_Names_leaveOp) (nL := 1) (ret := (Option.none : Option Jvm.ClassFile.FieldType)) (by decide +kernel) rfl hi (Nat.le_of_ble_eq_true rfl) ?_
  intro p e s m below meth c B hNs hr hnm hno
  refine mv_aload_n (pc := 0) B d_Names_leaveOp_0 rfl 0 rfl ?_
  refine mv_getR (pc := 1) (ci := 4) (C := R_Names) (T := F_Names) (N := 10) B 4 rfl rfl (by decide) i_Names (B.2.2.2.1 _ k_141) rfl (hsh _ 4 _ rfl) d_Names_leaveOp_1 ?_
  refine mv_iconst (pc := 4) (v := 0) B d_Names_leaveOp_4 (by decide) ?_
  refine mv_callSv (pc := 5) (n := 2) B (mK_ok sk sv) hNs (c_Arrays_fill_0 l hi _ 17 128 rfl (by decide) _) rfl (ma_goodc kc_Arrays_fill_0) (B.2.2.2.1 _ k_1254) (B.2.2.2.1 _ k_798) (B.2.2.2.1 _ k_20) ⟨by decide +kernel, by decide +kernel, by decide +kernel⟩ rfl d_Names_leaveOp_5 rfl (Nat.le_of_ble_eq_true rfl) ⟨by decide, by decide⟩ ⟨by decide, by decide⟩ ⟨by decide, by decide⟩ (mv_noH hno _) (fun σ5 h5 => ?_)
  subst h5
  refine mv_aload_n (pc := 8) B d_Names_leaveOp_8 rfl 0 rfl ?_
  refine mv_getR (pc := 9) (ci := 4) (C := R_Names) (T := F_Names) (N := 10) B 5 rfl rfl (by decide) i_Names (B.2.2.2.1 _ k_142) rfl (hsh _ 5 _ rfl) d_Names_leaveOp_9 ?_
  refine mv_lconst (pc := 12) (v := 0) B d_Names_leaveOp_12 (by decide) ?_
  refine mv_callSv (pc := 13) (n := 2) B (mK_ok sk sv) hNs (c_Arrays_fill_3 l hi _ 18 128 rfl (by decide) _) rfl (ma_goodc kc_Arrays_fill_3) (B.2.2.2.1 _ k_1255) (B.2.2.2.1 _ k_1256) (B.2.2.2.1 _ k_20) ⟨by decide +kernel, by decide +kernel, by decide +kernel⟩ rfl d_Names_leaveOp_13 rfl (Nat.le_of_ble_eq_true rfl) ⟨by decide, by decide⟩ ⟨by decide, by decide⟩ ⟨by decide, by decide⟩ (mv_noH hno _) (fun σ13 h13 => ?_)
  subst h13
  refine mv_aload_n (pc := 16) B d_Names_leaveOp_16 rfl 0 rfl ?_
  refine mv_iconst (pc := 17) (v := 0) B d_Names_leaveOp_17 (by decide) ?_
  refine mv_callVv (pc := 18) (n := 1) (ci := 4) (C := R_Names) B (mK_ok sk sv) hNs rfl rfl (c_Names_forget l hi _ _ hsh hNs9 (by decide)) rfl (ma_goodc kc_Names_forget) (B.2.2.2.1 _ k_1258) (B.2.2.2.1 _ k_1259) (B.2.2.2.1 _ k_1260) (B.2.2.2.1 _ k_5) ⟨by decide +kernel, by decide +kernel, by decide +kernel⟩ rfl d_Names_leaveOp_18 rfl (Nat.le_of_ble_eq_true rfl) ⟨by decide, by decide⟩ ⟨by decide, by decide⟩ ⟨by decide, by decide⟩ (mv_noH hno _) (fun σ18 h18 => ?_)
  obtain ⟨f18, n18, i18⟩ := h18
  have f19 : NmF _ σ18 := f18.up (fun o k h => ⟨h.1, Or.inl h.2⟩) (fun o h => Or.inl h) (fun o h => h.elim)
  have f17 : NmF σ (mv_fl (mv_fi σ 17 0 128 0) 18 0 128 0) := (Fr.rf.ca (Or.inr rfl)).cb rfl
  have f20 : NmF σ σ18 := f17.tr f19
  refine mv_aload_n (pc := 21) B d_Names_leaveOp_21 rfl 0 rfl ?_
  refine mv_iconst (pc := 22) (v := 0) B d_Names_leaveOp_22 (by decide) ?_
  refine mv_putI (pc := 23) (ci := 4) (C := R_Names) (T := F_Names) (N := 10) B 9 rfl rfl (by decide) i_Names t_Names_ok n_Names (B.2.2.2.1 _ k_148) rfl rfl rfl rfl d_Names_leaveOp_23 ?_
  exact mv_vret (pc := 26) B hr d_Names_leaveOp_26 (Nat.le_refl _) (Nat.le_refl _) ⟨rfl, f20.si ⟨rfl, Or.inr rfl⟩, fun j => n18 j, i18, mv_u_same (mv_i σ18) 13 9 0⟩
def y_Names_clear : MethodName := ⟨"MachineLoom$Names", "clear", "()V"⟩
abbrev b_Names_clear : ByteArray := prog_6_method_2_code
theorem kc_Names_clear : Cond.code y_Names_clear b_Names_clear 1 (Option.none : Option Jvm.ClassFile.FieldType) ∈ ma := ma_of (tb_4 _ (List.mem_of_getElem? (i := 227) rfl)) rfl
theorem k_71 : (Jvm.Cond.fieldLink "MachineLoom$Names" (39 : Nat) "MachineLoom$Symbols" "size" "I") ∈ ma := ma_of (tb_1 _ (List.mem_of_getElem? (i := 71) rfl)) rfl
theorem k_948 : (Jvm.Cond.methodLink "MachineLoom$Names" (45 : Nat) ({ cls := "java/util/Arrays", name := "fill", desc := "([IIII)V" } : Jvm.MethodName)) ∈ ma := ma_of (tb_4 _ (List.mem_of_getElem? (i := 228) rfl)) rfl
theorem k_949 : (Jvm.Cond.static ({ cls := "java/util/Arrays", name := "fill", desc := "([IIII)V" } : Jvm.MethodName)) ∈ ma := ma_of (tb_4 _ (List.mem_of_getElem? (i := 229) rfl)) rfl
theorem k_139 : (Jvm.Cond.fieldLink "MachineLoom$Names" (18 : Nat) "MachineLoom$Names" "ops" "[B") ∈ ma := ma_of (tb_1 _ (List.mem_of_getElem? (i := 139) rfl)) rfl
theorem k_1247 : (Jvm.Cond.methodLink "MachineLoom$Names" (51 : Nat) ({ cls := "java/util/Arrays", name := "fill", desc := "([BIIB)V" } : Jvm.MethodName)) ∈ ma := ma_of (tb_6 _ (List.mem_of_getElem? (i := 47) rfl)) rfl
theorem k_1248 : (Jvm.Cond.static ({ cls := "java/util/Arrays", name := "fill", desc := "([BIIB)V" } : Jvm.MethodName)) ∈ ma := ma_of (tb_6 _ (List.mem_of_getElem? (i := 48) rfl)) rfl
theorem k_1250 : (Jvm.Cond.methodLink "MachineLoom$Names" (54 : Nat) ({ cls := "MachineLoom$Names", name := "leaveOp", desc := "()V" } : Jvm.MethodName)) ∈ ma := ma_of (tb_6 _ (List.mem_of_getElem? (i := 50) rfl)) rfl
theorem k_1251 : (Jvm.Cond.instanceMethod ({ cls := "MachineLoom$Names", name := "leaveOp", desc := "()V" } : Jvm.MethodName)) ∈ ma := ma_of (tb_6 _ (List.mem_of_getElem? (i := 51) rfl)) rfl
theorem k_1252 : (Jvm.Cond.selects "MachineLoom$Names" ({ cls := "MachineLoom$Names", name := "leaveOp", desc := "()V" } : Jvm.MethodName) ({ cls := "MachineLoom$Names", name := "leaveOp", desc := "()V" } : Jvm.MethodName)) ∈ ma := ma_of (tb_6 _ (List.mem_of_getElem? (i := 52) rfl)) rfl
theorem d_Names_clear_0 : decode b_Names_clear 0 = .ok (.aload_n 0, 1) := by decide +kernel
theorem d_Names_clear_1 : decode b_Names_clear 1 = .ok (.getfield 9, 3) := by decide +kernel
theorem d_Names_clear_4 : decode b_Names_clear 4 = .ok (.iconst 0, 1) := by decide +kernel
theorem d_Names_clear_5 : decode b_Names_clear 5 = .ok (.aload_n 0, 1) := by decide +kernel
theorem d_Names_clear_6 : decode b_Names_clear 6 = .ok (.getfield 35, 3) := by decide +kernel
theorem d_Names_clear_9 : decode b_Names_clear 9 = .ok (.getfield 39, 3) := by decide +kernel
theorem d_Names_clear_12 : decode b_Names_clear 12 = .ok (.iconst 0, 1) := by decide +kernel
theorem d_Names_clear_13 : decode b_Names_clear 13 = .ok (.invokestatic 45, 3) := by decide +kernel
theorem d_Names_clear_16 : decode b_Names_clear 16 = .ok (.aload_n 0, 1) := by decide +kernel
theorem d_Names_clear_17 : decode b_Names_clear 17 = .ok (.getfield 18, 3) := by decide +kernel
theorem d_Names_clear_20 : decode b_Names_clear 20 = .ok (.iconst 0, 1) := by decide +kernel
theorem d_Names_clear_21 : decode b_Names_clear 21 = .ok (.aload_n 0, 1) := by decide +kernel
theorem d_Names_clear_22 : decode b_Names_clear 22 = .ok (.getfield 35, 3) := by decide +kernel
theorem d_Names_clear_25 : decode b_Names_clear 25 = .ok (.getfield 39, 3) := by decide +kernel
theorem d_Names_clear_28 : decode b_Names_clear 28 = .ok (.iconst 0, 1) := by decide +kernel
theorem d_Names_clear_29 : decode b_Names_clear 29 = .ok (.invokestatic 51, 3) := by decide +kernel
theorem d_Names_clear_32 : decode b_Names_clear 32 = .ok (.aload_n 0, 1) := by decide +kernel
theorem d_Names_clear_33 : decode b_Names_clear 33 = .ok (.invokevirtual 54, 3) := by decide +kernel
theorem d_Names_clear_36 : decode b_Names_clear 36 = .ok (.return_, 1) := by decide +kernel
set_option maxHeartbeats 4000000 in
set_option maxRecDepth 100000 in
theorem c_Names_clear (l : Launch) {dA : FieldType → ClassId} {D : va_G} {al : Nat → Nat} {ext : mv_Sh} {sk sv : Nat → Nat} (hi : mv_inj (mg dA D al ext)) (σ : mv_H) (hsh : mh (mv_r σ)) (n z : Nat) (hSy : Sy σ n z) (hNs9 : Ns σ) : mv_C l y_Names_clear (Cond.code y_Names_clear b_Names_clear 1 (Option.none : Option Jvm.ClassFile.FieldType) :: ma) ({ frames := 2, cells := 0, slots := 0, locals := 46 }) (mg dA D al ext) (mK sk sv) [.ref (al 13)] σ (mv_Rv (fun σ1 => Fr (fun o k => o = 13 ∧ (k = 7 ∨ k = 9)) (fun o => o = 14 ∨ o = 16 ∨ o = 17) (fun o => o = 18) σ σ1 ∧ (∀ j, j < n → mv_a σ1 14 j = 0) ∧ mv_i σ1 13 7 = 0 ∧ mv_i σ1 13 9 = 0)) := by
  refine mv_C.ofV (cc := b_Names_clear) (nL := 1) (ret := (Option.none : Option Jvm.ClassFile.FieldType)) (by decide +kernel) rfl hi (Nat.le_of_ble_eq_true rfl) ?_
  intro p e s m below meth c B hNs hr hnm hno
  refine mv_aload_n (pc := 0) B d_Names_clear_0 rfl 0 rfl ?_
  refine mv_getR (pc := 1) (ci := 4) (C := R_Names) (T := F_Names) (N := 10) B 1 rfl rfl (by decide) i_Names (B.2.2.2.1 _ k_135) rfl (hsh _ 1 _ rfl) d_Names_clear_1 ?_
  refine mv_iconst (pc := 4) (v := 0) B d_Names_clear_4 (by decide) ?_
  refine mv_aload_n (pc := 5) B d_Names_clear_5 rfl 0 rfl ?_
  refine mv_getR (pc := 6) (ci := 4) (C := R_Names) (T := F_Names) (N := 10) B 0 rfl rfl (by decide) i_Names (B.2.2.2.1 _ k_134) rfl (hsh _ 0 _ rfl) d_Names_clear_6 ?_
  refine mv_getI (pc := 9) (ci := 3) (C := R_Symbols) (T := F_Symbols) (N := 6) B 5 rfl rfl (by decide) i_Symbols (B.2.2.2.1 _ k_71) rfl d_Names_clear_9 ?_
  refine mv_iconst (pc := 12) (v := 0) B d_Names_clear_12 (by decide) ?_
  refine mv_callSv (pc := 13) (n := 4) B (mK_ok sk sv) hNs (c_Arrays_fill_1 l hi _ 14 16448 rfl (by decide) _ _ _ (by decide) (by rw [hSy.1]; exact Int.natCast_nonneg n) (by rw [hSy.1]; exact_mod_cast hSy.2.1)) rfl (ma_goodc kc_Arrays_fill_1) (B.2.2.2.1 _ k_948) (B.2.2.2.1 _ k_949) (B.2.2.2.1 _ k_20) ⟨by decide +kernel, by decide +kernel, by decide +kernel⟩ rfl d_Names_clear_13 rfl (Nat.le_of_ble_eq_true rfl) ⟨by decide, by decide⟩ ⟨by decide, by decide⟩ ⟨by decide, by decide⟩ (mv_noH hno _) (fun σ13 h13 => ?_)
  subst h13
  refine mv_aload_n (pc := 16) B d_Names_clear_16 rfl 0 rfl ?_
  refine mv_getR (pc := 17) (ci := 4) (C := R_Names) (T := F_Names) (N := 10) B 3 rfl rfl (by decide) i_Names (B.2.2.2.1 _ k_139) rfl (hsh _ 3 _ rfl) d_Names_clear_17 ?_
  refine mv_iconst (pc := 20) (v := 0) B d_Names_clear_20 (by decide) ?_
  refine mv_aload_n (pc := 21) B d_Names_clear_21 rfl 0 rfl ?_
  refine mv_getR (pc := 22) (ci := 4) (C := R_Names) (T := F_Names) (N := 10) B 0 rfl rfl (by decide) i_Names (B.2.2.2.1 _ k_134) rfl (hsh _ 0 _ rfl) d_Names_clear_22 ?_
  refine mv_getI (pc := 25) (ci := 3) (C := R_Symbols) (T := F_Symbols) (N := 6) B 5 rfl rfl (by decide) i_Symbols (B.2.2.2.1 _ k_71) rfl d_Names_clear_25 ?_
  refine mv_iconst (pc := 28) (v := 0) B d_Names_clear_28 (by decide) ?_
  refine mv_callSv (pc := 29) (n := 4) B (mK_ok sk sv) hNs (c_Arrays_fill_2 l hi _ 16 16448 rfl (by decide) _ _ _ (by decide) (by show (0 : Int) ≤ (mv_i σ 7 5).toInt; rw [hSy.1]; exact Int.natCast_nonneg n) (by show (mv_i σ 7 5).toInt ≤ _; rw [hSy.1]; exact_mod_cast hSy.2.1)) rfl (ma_goodc kc_Arrays_fill_2) (B.2.2.2.1 _ k_1247) (B.2.2.2.1 _ k_1248) (B.2.2.2.1 _ k_20) ⟨by decide +kernel, by decide +kernel, by decide +kernel⟩ rfl d_Names_clear_29 rfl (Nat.le_of_ble_eq_true rfl) ⟨by decide, by decide⟩ ⟨by decide, by decide⟩ ⟨by decide, by decide⟩ (mv_noH hno _) (fun σ29 h29 => ?_)
  subst h29
  refine mv_aload_n (pc := 32) B d_Names_clear_32 rfl 0 rfl ?_
  refine mv_callVv (pc := 33) (n := 0) (ci := 4) (C := R_Names) B (mK_ok sk sv) hNs rfl rfl (c_Names_leaveOp l hi _ hsh hNs9) rfl (ma_goodc kc_Names_leaveOp) (B.2.2.2.1 _ k_1250) (B.2.2.2.1 _ k_1251) (B.2.2.2.1 _ k_1252) (B.2.2.2.1 _ k_5) ⟨by decide +kernel, by decide +kernel, by decide +kernel⟩ rfl d_Names_clear_33 rfl (Nat.le_of_ble_eq_true rfl) ⟨by decide, by decide⟩ ⟨by decide, by decide⟩ ⟨by decide, by decide⟩ (mv_noH hno _) (fun σ33 h33 => ?_)
  obtain ⟨f33, n33, i33, l33⟩ := h33
  exact mv_vret (pc := 36) B hr d_Names_clear_36 (Nat.le_refl _) (Nat.le_refl _) ⟨rfl, Fr.tr ((Fr.rf.ca (Or.inl rfl)).ca (Or.inr (Or.inl rfl))) (f33.up (fun o k h => h) (fun o h => h.elim Or.inl (fun h => Or.inr (Or.inr h))) (fun o h => h)), fun j hj => (n33 j).elim (fun e => e.trans (if_pos ⟨Nat.zero_le _, by have e := i32_cl (x := mv_i σ 7 5) (by rw [hSy.1]; exact Int.natCast_nonneg n); have := hSy.1; show j < (mv_i σ 7 5).toNatClampNeg; omega⟩)) (fun e => e), i33, l33⟩
def y_Names_enterOp : MethodName := ⟨"MachineLoom$Names", "enterOp", "([BIII)V"⟩
abbrev b_Names_enterOp : ByteArray := prog_6_method_6_code
theorem kc_Names_enterOp : Cond.code y_Names_enterOp b_Names_enterOp 7 (Option.none : Option Jvm.ClassFile.FieldType) ∈ ma := ma_of (tb_6 _ (List.mem_of_getElem? (i := 161) rfl)) rfl
theorem d_Names_enterOp_0 : decode b_Names_enterOp 0 = .ok (.iconst 0, 1) := by decide +kernel
theorem d_Names_enterOp_1 : decode b_Names_enterOp 1 = .ok (.istore 5, 2) := by decide +kernel
theorem d_Names_enterOp_3 : decode b_Names_enterOp 3 = .ok (.iload 5, 2) := by decide +kernel
theorem d_Names_enterOp_5 : decode b_Names_enterOp 5 = .ok (.iload_n 3, 1) := by decide +kernel
theorem d_Names_enterOp_6 : decode b_Names_enterOp 6 = .ok (.if_icmp .ge (64), 3) := by decide +kernel
theorem d_Names_enterOp_9 : decode b_Names_enterOp 9 = .ok (.aload_n 1, 1) := by decide +kernel
theorem d_Names_enterOp_10 : decode b_Names_enterOp 10 = .ok (.iload_n 2, 1) := by decide +kernel
theorem d_Names_enterOp_11 : decode b_Names_enterOp 11 = .ok (.iload 5, 2) := by decide +kernel
theorem d_Names_enterOp_13 : decode b_Names_enterOp 13 = .ok (.iadd, 1) := by decide +kernel
theorem d_Names_enterOp_14 : decode b_Names_enterOp 14 = .ok (.baload, 1) := by decide +kernel
theorem d_Names_enterOp_15 : decode b_Names_enterOp 15 = .ok (.istore 6, 2) := by decide +kernel
theorem d_Names_enterOp_17 : decode b_Names_enterOp 17 = .ok (.iload 6, 2) := by decide +kernel
theorem d_Names_enterOp_19 : decode b_Names_enterOp 19 = .ok (.bipush 65, 2) := by decide +kernel
theorem d_Names_enterOp_21 : decode b_Names_enterOp 21 = .ok (.if_icmp .lt (43), 3) := by decide +kernel
theorem d_Names_enterOp_24 : decode b_Names_enterOp 24 = .ok (.aload_n 0, 1) := by decide +kernel
theorem d_Names_enterOp_25 : decode b_Names_enterOp 25 = .ok (.getfield 22, 3) := by decide +kernel
theorem d_Names_enterOp_28 : decode b_Names_enterOp 28 = .ok (.iload 6, 2) := by decide +kernel
theorem d_Names_enterOp_30 : decode b_Names_enterOp 30 = .ok (.dup2, 1) := by decide +kernel
theorem d_Names_enterOp_31 : decode b_Names_enterOp 31 = .ok (.iaload, 1) := by decide +kernel
theorem d_Names_enterOp_32 : decode b_Names_enterOp 32 = .ok (.iconst 1, 1) := by decide +kernel
theorem d_Names_enterOp_33 : decode b_Names_enterOp 33 = .ok (.iadd, 1) := by decide +kernel
theorem d_Names_enterOp_34 : decode b_Names_enterOp 34 = .ok (.iastore, 1) := by decide +kernel
theorem d_Names_enterOp_35 : decode b_Names_enterOp 35 = .ok (.aload_n 0, 1) := by decide +kernel
theorem d_Names_enterOp_36 : decode b_Names_enterOp 36 = .ok (.getfield 25, 3) := by decide +kernel
theorem d_Names_enterOp_39 : decode b_Names_enterOp 39 = .ok (.iload 6, 2) := by decide +kernel
theorem d_Names_enterOp_41 : decode b_Names_enterOp 41 = .ok (.dup2, 1) := by decide +kernel
theorem d_Names_enterOp_42 : decode b_Names_enterOp 42 = .ok (.laload, 1) := by decide +kernel
theorem d_Names_enterOp_43 : decode b_Names_enterOp 43 = .ok (.iload_n 3, 1) := by decide +kernel
theorem d_Names_enterOp_44 : decode b_Names_enterOp 44 = .ok (.iload 4, 2) := by decide +kernel
theorem d_Names_enterOp_46 : decode b_Names_enterOp 46 = .ok (.if_icmp .ne (15), 3) := by decide +kernel
theorem d_Names_enterOp_49 : decode b_Names_enterOp 49 = .ok (.lconst 1, 1) := by decide +kernel
theorem d_Names_enterOp_50 : decode b_Names_enterOp 50 = .ok (.iload 4, 2) := by decide +kernel
theorem d_Names_enterOp_52 : decode b_Names_enterOp 52 = .ok (.iconst 1, 1) := by decide +kernel
theorem d_Names_enterOp_53 : decode b_Names_enterOp 53 = .ok (.isub, 1) := by decide +kernel
theorem d_Names_enterOp_54 : decode b_Names_enterOp 54 = .ok (.iload 5, 2) := by decide +kernel
theorem d_Names_enterOp_56 : decode b_Names_enterOp 56 = .ok (.isub, 1) := by decide +kernel
theorem d_Names_enterOp_57 : decode b_Names_enterOp 57 = .ok (.lshl, 1) := by decide +kernel
theorem d_Names_enterOp_58 : decode b_Names_enterOp 58 = .ok (.goto (4), 3) := by decide +kernel
theorem d_Names_enterOp_61 : decode b_Names_enterOp 61 = .ok (.lconst 0, 1) := by decide +kernel
theorem d_Names_enterOp_62 : decode b_Names_enterOp 62 = .ok (.lor, 1) := by decide +kernel
theorem d_Names_enterOp_63 : decode b_Names_enterOp 63 = .ok (.lastore, 1) := by decide +kernel
theorem d_Names_enterOp_64 : decode b_Names_enterOp 64 = .ok (.iinc 5 (1), 3) := by decide +kernel
theorem d_Names_enterOp_67 : decode b_Names_enterOp 67 = .ok (.goto (-64), 3) := by decide +kernel
theorem d_Names_enterOp_70 : decode b_Names_enterOp 70 = .ok (.return_, 1) := by decide +kernel
set_option maxHeartbeats 4000000 in
set_option maxRecDepth 100000 in
theorem c_Names_enterOp (l : Launch) {dA : FieldType → ClassId} {D : va_G} {al : Nat → Nat} {ext : mv_Sh} {sk sv : Nat → Nat} (hi : mv_inj (mg dA D al ext)) (σ : mv_H) (t tn : Nat) (f d w : Int32) (hsh : mh (mv_r σ)) (hts : (mb ++ ext)[t]? = some (.inr (.byte, tn))) (ht2 : t = 1 ∨ t = 144) (htn : tn ≤ 32768) (g0 : 0 ≤ f.toInt) (g1 : f.toInt + d.toInt ≤ tn) (hby : ∀ i : Nat, f.toInt ≤ i → i < f.toInt + d.toInt → 46 ≤ (mv_a σ t i).toInt ∧ (mv_a σ t i).toInt ≤ 122) : mv_C l y_Names_enterOp (Cond.code y_Names_enterOp b_Names_enterOp 7 (Option.none : Option Jvm.ClassFile.FieldType) :: ma) ({ frames := 0, cells := 0, slots := 0, locals := 0 }) (mg dA D al ext) (mK sk sv) [.ref (al 13), .ref (al t), .int f, .int d, .int w] σ (mv_Rv (fun σ1 => NmF σ σ1)) := by
  refine mv_C.ofV (cc := b_Names_enterOp) (nL := 7) (ret := (Option.none : Option Jvm.ClassFile.FieldType)) (by decide +kernel) rfl hi (Nat.le_of_ble_eq_true rfl) ?_
  intro p e s m below meth c B hNs hr hnm hno
  have lp : ∀ (nn : Nat) (τ : mv_H) (j : Int32) (q0 : 0 ≤ j.toInt) (qt : mv_a τ t = mv_a σ t) (qh : mh (mv_r τ)) (qf : NmF σ τ), (d.toInt - j.toInt).toNat < nn → mv_V p l e ({ frames := 0, cells := 0, slots := 0, locals := 0 }) s m ([.ref (al 13), .ref (al t), .int f, .int d, .int w] : List Value).toArray below meth c (mg dA D al ext) 7 0 0 (mv_Q (mg dA D al ext) below s 0 0 (mv_Rv (fun σ1 => NmF σ σ1))) τ 3 [(5, .int j), (0, .ref (al 13)), (1, .ref (al t)), (2, .int f), (3, .int d), (4, .int w)] [] := by
    intro nn
    induction nn with
    | zero => intro τ j q0 qt qh qf hm; exact absurd hm (Nat.not_lt_zero _)
    | succ nn ih =>
      intro τ j q0 qt qh qf hm
      refine mv_iload (pc := 3) B d_Names_enterOp_3 0 rfl ?_
      refine mv_iload_n (pc := 5) B d_Names_enterOp_5 rfl 4 rfl ?_
      refine mv_icmp_ge (pc := 6) (tgt := 70) B d_Names_enterOp_6 rfl (fun h6 => ?_) (fun h6 => ?_)
      · skip
        exact mv_vret (pc := 70) B hr d_Names_enterOp_70 (Nat.le_refl _) (Nat.le_refl _) ⟨rfl, qf⟩
      · skip
        rw [Int32.le_iff_toInt_le] at h6
        have ej := i32_cl q0
        refine mv_aload_n (pc := 9) B d_Names_enterOp_9 rfl 2 rfl ?_
        refine mv_iload_n (pc := 10) B d_Names_enterOp_10 rfl 3 rfl ?_
        refine mv_iload (pc := 11) B d_Names_enterOp_11 0 rfl ?_
        refine mv_iadd (pc := 13) B d_Names_enterOp_13 ?_
        refine mv_topi (fun y13 ey13 => ?_)
        have fy13 := i32_addE ey13 (by (try simp only [Int32.reduceToInt]); omega) (by (try simp only [Int32.reduceToInt]); omega)
        try simp only [Int32.reduceToInt] at fy13
        refine mv_bald (pc := 14) B hts (i32_in (by omega) (by omega)) d_Names_enterOp_14 ?_
        have ey := i32_cl (x := y13) (by omega)
        have et9 : mv_a τ t y13.toNatClampNeg = mv_a σ t y13.toNatClampNeg := by rw [qt]
        have hb := hby y13.toNatClampNeg (by omega) (by omega)
        refine mv_istore (pc := 15) B d_Names_enterOp_15 (by decide) rfl ?_
        refine mv_iload (pc := 17) B d_Names_enterOp_17 0 rfl ?_
        refine mv_bipush (pc := 19) (v := 65) B d_Names_enterOp_19 (by decide) ?_
        refine mv_icmp_lt (pc := 21) (tgt := 64) B d_Names_enterOp_21 rfl (fun h21 => ?_) (fun h21 => ?_)
        · skip
          refine mv_iinc (pc := 64) (j := 1) (v := 1) B d_Names_enterOp_64 rfl (by decide) (by decide) rfl ?_
          refine mv_goto (pc := 67) (tgt := 3) B d_Names_enterOp_67 rfl ?_
          refine mv_lpick [0, 2, 3, 4, 5, 6] rfl ?_
          exact ih _ _ (by rw [i32_inc (by omega)]; omega) (by rcases ht2 with rfl | rfl <;> exact qt) qh (by first | exact qf | exact ((qf.sa (Or.inr rfl)).sb rfl)) (by rw [i32_inc (by omega)]; omega)
        · skip
          rw [Int32.lt_iff_toInt_lt] at h21
          simp only [Int32.reduceToInt] at h21
          refine mv_aload_n (pc := 24) B d_Names_enterOp_24 rfl 2 rfl ?_
          refine mv_getR (pc := 25) (ci := 4) (C := R_Names) (T := F_Names) (N := 10) B 4 rfl rfl (by decide) i_Names (B.2.2.2.1 _ k_141) rfl (qh _ 4 _ rfl) d_Names_enterOp_25 ?_
          refine mv_iload (pc := 28) B d_Names_enterOp_28 0 rfl ?_
          refine mv_dup2_11 (pc := 30) B d_Names_enterOp_30 rfl rfl ?_
          refine mv_iald (pc := 31) B rfl (i32_in (by rw [et9]; omega) (by rw [et9]; omega)) d_Names_enterOp_31 ?_
          refine mv_iconst (pc := 32) (v := 1) B d_Names_enterOp_32 (by decide) ?_
          refine mv_iadd (pc := 33) B d_Names_enterOp_33 ?_
          refine mv_iast (pc := 34) B rfl (i32_in (by rw [et9]; omega) (by rw [et9]; omega)) d_Names_enterOp_34 ?_
          refine mv_aload_n (pc := 35) B d_Names_enterOp_35 rfl 2 rfl ?_
          refine mv_getR (pc := 36) (ci := 4) (C := R_Names) (T := F_Names) (N := 10) B 5 rfl rfl (by decide) i_Names (B.2.2.2.1 _ k_142) rfl (qh _ 5 _ rfl) d_Names_enterOp_36 ?_
          refine mv_iload (pc := 39) B d_Names_enterOp_39 0 rfl ?_
          refine mv_dup2_11 (pc := 41) B d_Names_enterOp_41 rfl rfl ?_
          refine mv_lald (pc := 42) B rfl (i32_in (by rw [et9]; omega) (by rw [et9]; omega)) d_Names_enterOp_42 ?_
          refine mv_iload_n (pc := 43) B d_Names_enterOp_43 rfl 5 rfl ?_
          refine mv_iload (pc := 44) B d_Names_enterOp_44 6 rfl ?_
          refine mv_icmp_ne (pc := 46) (tgt := 61) B d_Names_enterOp_46 rfl (fun h46 => ?_) (fun h46 => ?_)
          · skip
            refine mv_lconst (pc := 61) (v := 0) B d_Names_enterOp_61 (by decide) ?_
            refine mv_lor (pc := 62) B d_Names_enterOp_62 ?_
            refine mv_last (pc := 63) B rfl (i32_in (by rw [et9]; omega) (by rw [et9]; omega)) d_Names_enterOp_63 ?_
            refine mv_iinc (pc := 64) (j := 1) (v := 1) B d_Names_enterOp_64 rfl (by decide) (by decide) rfl ?_
            refine mv_goto (pc := 67) (tgt := 3) B d_Names_enterOp_67 rfl ?_
            refine mv_lpick [0, 2, 3, 4, 5, 6] rfl ?_
            exact ih _ _ (by rw [i32_inc (by omega)]; omega) (by rcases ht2 with rfl | rfl <;> exact qt) qh (by first | exact qf | exact ((qf.sa (Or.inr rfl)).sb rfl)) (by rw [i32_inc (by omega)]; omega)
          · skip
            refine mv_lconst (pc := 49) (v := 1) B d_Names_enterOp_49 (by decide) ?_
            refine mv_iload (pc := 50) B d_Names_enterOp_50 6 rfl ?_
            refine mv_iconst (pc := 52) (v := 1) B d_Names_enterOp_52 (by decide) ?_
            refine mv_isub (pc := 53) B d_Names_enterOp_53 ?_
            refine mv_iload (pc := 54) B d_Names_enterOp_54 1 rfl ?_
            refine mv_isub (pc := 56) B d_Names_enterOp_56 ?_
            refine mv_lshl (pc := 57) B d_Names_enterOp_57 ?_
            refine mv_goto (pc := 58) (tgt := 62) B d_Names_enterOp_58 rfl ?_
            refine mv_lor (pc := 62) B d_Names_enterOp_62 ?_
            refine mv_last (pc := 63) B rfl (i32_in (by rw [et9]; omega) (by rw [et9]; omega)) d_Names_enterOp_63 ?_
            refine mv_iinc (pc := 64) (j := 1) (v := 1) B d_Names_enterOp_64 rfl (by decide) (by decide) rfl ?_
            refine mv_goto (pc := 67) (tgt := 3) B d_Names_enterOp_67 rfl ?_
            refine mv_lpick [0, 2, 3, 4, 5, 6] rfl ?_
            exact ih _ _ (by rw [i32_inc (by omega)]; omega) (by rcases ht2 with rfl | rfl <;> exact qt) qh (by first | exact qf | exact ((qf.sa (Or.inr rfl)).sb rfl)) (by rw [i32_inc (by omega)]; omega)
  refine mv_iconst (pc := 0) (v := 0) B d_Names_enterOp_0 (by decide) ?_
  refine mv_istore (pc := 1) B d_Names_enterOp_1 (by decide) rfl ?_
  refine mv_lpick [0, 1, 2, 3, 4, 5] rfl ?_
  exact lp _ _ _ (by decide) rfl hsh Fr.rf (Nat.lt_succ_self _)
