/-! Tokens: the small ones -/
def tk_kind (σ : mv_H) : Int32 := if mv_i σ 3 9 < 0 then mv_a σ 4 (mv_i σ 3 7).toNatClampNeg else 0
def tk_wrong (σ : mv_H) : mv_H := if mv_i σ 3 9 < 0 then mv_si σ 3 9 (mv_a σ 5 (mv_i σ 3 7).toNatClampNeg) else σ
def tk_take (σ : mv_H) (k : Int32) : Int32 × mv_H := if tk_kind σ = k then (mv_i σ 3 7, mv_si σ 3 7 (mv_i σ 3 7 + 1)) else (0, tk_wrong σ)
def y_Tokens_right : MethodName := ⟨"MachineLoom$Tokens", "right", "()Z"⟩
abbrev b_Tokens_right : ByteArray := prog_10_method_20_code
theorem kc_Tokens_right : Cond.code y_Tokens_right b_Tokens_right 1 (Option.some Jvm.ClassFile.FieldType.boolean) ∈ ma := ma_of (tb_6 _ (List.mem_of_getElem? (i := 94) rfl)) rfl
theorem k_105 : (Jvm.Cond.fieldLink "MachineLoom$Tokens" (47 : Nat) "MachineLoom$Tokens" "wrongPlace" "I") ∈ ma := ma_of (tb_1 _ (List.mem_of_getElem? (i := 105) rfl)) rfl
theorem d_Tokens_right_0 : decode b_Tokens_right 0 = .ok (.aload_n 0, 1) := by decide +kernel
theorem d_Tokens_right_1 : decode b_Tokens_right 1 = .ok (.getfield 47, 3) := by decide +kernel
theorem d_Tokens_right_4 : decode b_Tokens_right 4 = .ok (.ifCond .ge (7), 3) := by decide +kernel
theorem d_Tokens_right_7 : decode b_Tokens_right 7 = .ok (.iconst 1, 1) := by decide +kernel
theorem d_Tokens_right_8 : decode b_Tokens_right 8 = .ok (.goto (4), 3) := by decide +kernel
theorem d_Tokens_right_11 : decode b_Tokens_right 11 = .ok (.iconst 0, 1) := by decide +kernel
theorem d_Tokens_right_12 : decode b_Tokens_right 12 = .ok (.ireturn, 1) := by decide +kernel
set_option maxHeartbeats 4000000 in
set_option maxRecDepth 100000 in
theorem c_Tokens_right (l : Launch) {dA : FieldType → ClassId} {D : va_G} {al : Nat → Nat} {ext : mv_Sh} {sk sv : Nat → Nat} (hi : mv_inj (mg dA D al ext)) (σ : mv_H)  : mv_C l y_Tokens_right (Cond.code y_Tokens_right b_Tokens_right 1 (Option.some Jvm.ClassFile.FieldType.boolean) :: ma) ({ frames := 0, cells := 0, slots := 0, locals := 0 }) (mg dA D al ext) (mK sk sv) [.ref (al 3)] σ (mv_Ri (fun v σ1 => σ1 = σ ∧ v = if mv_i σ 3 9 < 0 then 1 else 0)) := by
  refine mv_C.ofV (cc := b_Tokens_right) (nL := 1) (ret := (Option.some Jvm.ClassFile.FieldType.boolean)) (by decide +kernel) rfl hi (Nat.le_of_ble_eq_true rfl) ?_
  intro p e s m below meth c B hNs hr hnm hno
  refine mv_aload_n (pc := 0) B d_Tokens_right_0 rfl 0 rfl ?_
  refine mv_getI (pc := 1) (ci := 2) (C := R_Tokens) (T := F_Tokens) (N := 10) B 9 rfl rfl (by decide) i_Tokens (B.2.2.2.1 _ k_105) rfl d_Tokens_right_1 ?_
  refine mv_if_ge (pc := 4) (tgt := 11) B d_Tokens_right_4 rfl (fun h4 => ?_) (fun h4 => ?_)
  · skip
    refine mv_iconst (pc := 11) (v := 0) B d_Tokens_right_11 (by decide) ?_
    exact mv_iret (pc := 12) B hr rfl d_Tokens_right_12 (Nat.le_refl _) (Nat.le_refl _) ⟨_, rfl, rfl, by first | exact (if_pos (Int32.not_le.mp (by assumption))).symm | exact (if_neg (i32_nlt (by assumption))).symm⟩
  · skip
    refine mv_iconst (pc := 7) (v := 1) B d_Tokens_right_7 (by decide) ?_
    refine mv_goto (pc := 8) (tgt := 12) B d_Tokens_right_8 rfl ?_
    exact mv_iret (pc := 12) B hr rfl d_Tokens_right_12 (Nat.le_refl _) (Nat.le_refl _) ⟨_, rfl, rfl, by first | exact (if_pos (Int32.not_le.mp (by assumption))).symm | exact (if_neg (i32_nlt (by assumption))).symm⟩
def y_Tokens_kind : MethodName := ⟨"MachineLoom$Tokens", "kind", "()I"⟩
abbrev b_Tokens_kind : ByteArray := prog_10_method_22_code
theorem kc_Tokens_kind : Cond.code y_Tokens_kind b_Tokens_kind 1 (Option.some Jvm.ClassFile.FieldType.int) ∈ ma := ma_of (tb_6 _ (List.mem_of_getElem? (i := 73) rfl)) rfl
theorem k_89 : (Jvm.Cond.fieldLink "MachineLoom$Tokens" (10 : Nat) "MachineLoom$Tokens" "kinds" "[I") ∈ ma := ma_of (tb_1 _ (List.mem_of_getElem? (i := 89) rfl)) rfl
theorem k_102 : (Jvm.Cond.fieldLink "MachineLoom$Tokens" (41 : Nat) "MachineLoom$Tokens" "at" "I") ∈ ma := ma_of (tb_1 _ (List.mem_of_getElem? (i := 102) rfl)) rfl
theorem d_Tokens_kind_0 : decode b_Tokens_kind 0 = .ok (.aload_n 0, 1) := by decide +kernel
theorem d_Tokens_kind_1 : decode b_Tokens_kind 1 = .ok (.getfield 47, 3) := by decide +kernel
theorem d_Tokens_kind_4 : decode b_Tokens_kind 4 = .ok (.ifCond .ge (15), 3) := by decide +kernel
theorem d_Tokens_kind_7 : decode b_Tokens_kind 7 = .ok (.aload_n 0, 1) := by decide +kernel
theorem d_Tokens_kind_8 : decode b_Tokens_kind 8 = .ok (.getfield 10, 3) := by decide +kernel
theorem d_Tokens_kind_11 : decode b_Tokens_kind 11 = .ok (.aload_n 0, 1) := by decide +kernel
theorem d_Tokens_kind_12 : decode b_Tokens_kind 12 = .ok (.getfield 41, 3) := by decide +kernel
theorem d_Tokens_kind_15 : decode b_Tokens_kind 15 = .ok (.iaload, 1) := by decide +kernel
theorem d_Tokens_kind_16 : decode b_Tokens_kind 16 = .ok (.goto (4), 3) := by decide +kernel
theorem d_Tokens_kind_19 : decode b_Tokens_kind 19 = .ok (.iconst 0, 1) := by decide +kernel
theorem d_Tokens_kind_20 : decode b_Tokens_kind 20 = .ok (.ireturn, 1) := by decide +kernel
set_option maxHeartbeats 4000000 in
set_option maxRecDepth 100000 in
theorem c_Tokens_kind (l : Launch) {dA : FieldType → ClassId} {D : va_G} {al : Nat → Nat} {ext : mv_Sh} {sk sv : Nat → Nat} (hi : mv_inj (mg dA D al ext)) (σ : mv_H) (hsh : mh (mv_r σ)) (hat : vp_in (mv_i σ 3 7) 32770) : mv_C l y_Tokens_kind (Cond.code y_Tokens_kind b_Tokens_kind 1 (Option.some Jvm.ClassFile.FieldType.int) :: ma) ({ frames := 0, cells := 0, slots := 0, locals := 0 }) (mg dA D al ext) (mK sk sv) [.ref (al 3)] σ (mv_Ri (fun v σ1 => σ1 = σ ∧ v = tk_kind σ)) := by
  refine mv_C.ofV (cc := b_Tokens_kind) (nL := 1) (ret := (Option.some Jvm.ClassFile.FieldType.int)) (by decide +kernel) rfl hi (Nat.le_of_ble_eq_true rfl) ?_
  intro p e s m below meth c B hNs hr hnm hno
  refine mv_aload_n (pc := 0) B d_Tokens_kind_0 rfl 0 rfl ?_
  refine mv_getI (pc := 1) (ci := 2) (C := R_Tokens) (T := F_Tokens) (N := 10) B 9 rfl rfl (by decide) i_Tokens (B.2.2.2.1 _ k_105) rfl d_Tokens_kind_1 ?_
  refine mv_if_ge (pc := 4) (tgt := 19) B d_Tokens_kind_4 rfl (fun h4 => ?_) (fun h4 => ?_)
  · skip
    refine mv_iconst (pc := 19) (v := 0) B d_Tokens_kind_19 (by decide) ?_
    exact mv_iret (pc := 20) B hr rfl d_Tokens_kind_20 (Nat.le_refl _) (Nat.le_refl _) ⟨_, rfl, rfl, by unfold tk_kind; first | exact (if_pos (Int32.not_le.mp (by assumption))).symm | exact (if_neg (i32_nlt (by assumption))).symm⟩
  · skip
    refine mv_aload_n (pc := 7) B d_Tokens_kind_7 rfl 0 rfl ?_
    refine mv_getR (pc := 8) (ci := 2) (C := R_Tokens) (T := F_Tokens) (N := 10) B 0 rfl rfl (by decide) i_Tokens (B.2.2.2.1 _ k_89) rfl (hsh _ 0 _ rfl) d_Tokens_kind_8 ?_
    refine mv_aload_n (pc := 11) B d_Tokens_kind_11 rfl 0 rfl ?_
    refine mv_getI (pc := 12) (ci := 2) (C := R_Tokens) (T := F_Tokens) (N := 10) B 7 rfl rfl (by decide) i_Tokens (B.2.2.2.1 _ k_102) rfl d_Tokens_kind_12 ?_
    refine mv_iald (pc := 15) B rfl hat d_Tokens_kind_15 ?_
    refine mv_goto (pc := 16) (tgt := 20) B d_Tokens_kind_16 rfl ?_
    exact mv_iret (pc := 20) B hr rfl d_Tokens_kind_20 (Nat.le_refl _) (Nat.le_refl _) ⟨_, rfl, rfl, by unfold tk_kind; first | exact (if_pos (Int32.not_le.mp (by assumption))).symm | exact (if_neg (i32_nlt (by assumption))).symm⟩
def y_Tokens_wrong : MethodName := ⟨"MachineLoom$Tokens", "wrong", "()V"⟩
abbrev b_Tokens_wrong : ByteArray := prog_10_method_21_code
theorem kc_Tokens_wrong : Cond.code y_Tokens_wrong b_Tokens_wrong 1 (Option.none : Option Jvm.ClassFile.FieldType) ∈ ma := ma_of (tb_6 _ (List.mem_of_getElem? (i := 77) rfl)) rfl
theorem k_90 : (Jvm.Cond.fieldLink "MachineLoom$Tokens" (16 : Nat) "MachineLoom$Tokens" "places" "[I") ∈ ma := ma_of (tb_1 _ (List.mem_of_getElem? (i := 90) rfl)) rfl
theorem d_Tokens_wrong_0 : decode b_Tokens_wrong 0 = .ok (.aload_n 0, 1) := by decide +kernel
theorem d_Tokens_wrong_1 : decode b_Tokens_wrong 1 = .ok (.getfield 47, 3) := by decide +kernel
theorem d_Tokens_wrong_4 : decode b_Tokens_wrong 4 = .ok (.ifCond .ge (16), 3) := by decide +kernel
theorem d_Tokens_wrong_7 : decode b_Tokens_wrong 7 = .ok (.aload_n 0, 1) := by decide +kernel
theorem d_Tokens_wrong_8 : decode b_Tokens_wrong 8 = .ok (.aload_n 0, 1) := by decide +kernel
theorem d_Tokens_wrong_9 : decode b_Tokens_wrong 9 = .ok (.getfield 16, 3) := by decide +kernel
theorem d_Tokens_wrong_12 : decode b_Tokens_wrong 12 = .ok (.aload_n 0, 1) := by decide +kernel
theorem d_Tokens_wrong_13 : decode b_Tokens_wrong 13 = .ok (.getfield 41, 3) := by decide +kernel
theorem d_Tokens_wrong_16 : decode b_Tokens_wrong 16 = .ok (.iaload, 1) := by decide +kernel
theorem d_Tokens_wrong_17 : decode b_Tokens_wrong 17 = .ok (.putfield 47, 3) := by decide +kernel
theorem d_Tokens_wrong_20 : decode b_Tokens_wrong 20 = .ok (.return_, 1) := by decide +kernel
set_option maxHeartbeats 4000000 in
set_option maxRecDepth 100000 in
theorem c_Tokens_wrong (l : Launch) {dA : FieldType → ClassId} {D : va_G} {al : Nat → Nat} {ext : mv_Sh} {sk sv : Nat → Nat} (hi : mv_inj (mg dA D al ext)) (σ : mv_H) (hsh : mh (mv_r σ)) (hat : vp_in (mv_i σ 3 7) 32770) : mv_C l y_Tokens_wrong (Cond.code y_Tokens_wrong b_Tokens_wrong 1 (Option.none : Option Jvm.ClassFile.FieldType) :: ma) ({ frames := 0, cells := 0, slots := 0, locals := 0 }) (mg dA D al ext) (mK sk sv) [.ref (al 3)] σ (mv_Rv (fun σ1 => σ1 = tk_wrong σ)) := by
  refine mv_C.ofV (cc := b_Tokens_wrong) (nL := 1) (ret := (Option.none : Option Jvm.ClassFile.FieldType)) (by decide +kernel) rfl hi (Nat.le_of_ble_eq_true rfl) ?_
  intro p e s m below meth c B hNs hr hnm hno
  refine mv_aload_n (pc := 0) B d_Tokens_wrong_0 rfl 0 rfl ?_
  refine mv_getI (pc := 1) (ci := 2) (C := R_Tokens) (T := F_Tokens) (N := 10) B 9 rfl rfl (by decide) i_Tokens (B.2.2.2.1 _ k_105) rfl d_Tokens_wrong_1 ?_
  refine mv_if_ge (pc := 4) (tgt := 20) B d_Tokens_wrong_4 rfl (fun h4 => ?_) (fun h4 => ?_)
  · skip
    exact mv_vret (pc := 20) B hr d_Tokens_wrong_20 (Nat.le_refl _) (Nat.le_refl _) ⟨rfl, by unfold tk_wrong; first | exact (if_pos (Int32.not_le.mp (by assumption))).symm | exact (if_neg (i32_nlt (by assumption))).symm⟩
  · skip
    refine mv_aload_n (pc := 7) B d_Tokens_wrong_7 rfl 0 rfl ?_
    refine mv_aload_n (pc := 8) B d_Tokens_wrong_8 rfl 0 rfl ?_
    refine mv_getR (pc := 9) (ci := 2) (C := R_Tokens) (T := F_Tokens) (N := 10) B 1 rfl rfl (by decide) i_Tokens (B.2.2.2.1 _ k_90) rfl (hsh _ 1 _ rfl) d_Tokens_wrong_9 ?_
    refine mv_aload_n (pc := 12) B d_Tokens_wrong_12 rfl 0 rfl ?_
    refine mv_getI (pc := 13) (ci := 2) (C := R_Tokens) (T := F_Tokens) (N := 10) B 7 rfl rfl (by decide) i_Tokens (B.2.2.2.1 _ k_102) rfl d_Tokens_wrong_13 ?_
    refine mv_iald (pc := 16) B rfl hat d_Tokens_wrong_16 ?_
    refine mv_putI (pc := 17) (ci := 2) (C := R_Tokens) (T := F_Tokens) (N := 10) B 9 rfl rfl (by decide) i_Tokens t_Tokens_ok n_Tokens (B.2.2.2.1 _ k_105) rfl rfl rfl rfl d_Tokens_wrong_17 ?_
    exact mv_vret (pc := 20) B hr d_Tokens_wrong_20 (Nat.le_refl _) (Nat.le_refl _) ⟨rfl, by unfold tk_wrong; first | exact (if_pos (Int32.not_le.mp (by assumption))).symm | exact (if_neg (i32_nlt (by assumption))).symm⟩
def y_Tokens_take : MethodName := ⟨"MachineLoom$Tokens", "take", "(I)I"⟩
abbrev b_Tokens_take : ByteArray := prog_10_method_24_code
theorem kc_Tokens_take : Cond.code y_Tokens_take b_Tokens_take 3 (Option.some Jvm.ClassFile.FieldType.int) ∈ ma := ma_of (tb_6 _ (List.mem_of_getElem? (i := 69) rfl)) rfl
theorem k_1270 : (Jvm.Cond.methodLink "MachineLoom$Tokens" (125 : Nat) ({ cls := "MachineLoom$Tokens", name := "kind", desc := "()I" } : Jvm.MethodName)) ∈ ma := ma_of (tb_6 _ (List.mem_of_getElem? (i := 70) rfl)) rfl
theorem k_3 : (Jvm.Cond.initialized "MachineLoom$Tokens") ∈ ma := ma_of (tb_1 _ (List.mem_of_getElem? (i := 3) rfl)) rfl
theorem k_1271 : (Jvm.Cond.instanceMethod ({ cls := "MachineLoom$Tokens", name := "kind", desc := "()I" } : Jvm.MethodName)) ∈ ma := ma_of (tb_6 _ (List.mem_of_getElem? (i := 71) rfl)) rfl
theorem k_1272 : (Jvm.Cond.selects "MachineLoom$Tokens" ({ cls := "MachineLoom$Tokens", name := "kind", desc := "()I" } : Jvm.MethodName) ({ cls := "MachineLoom$Tokens", name := "kind", desc := "()I" } : Jvm.MethodName)) ∈ ma := ma_of (tb_6 _ (List.mem_of_getElem? (i := 72) rfl)) rfl
theorem k_1274 : (Jvm.Cond.methodLink "MachineLoom$Tokens" (129 : Nat) ({ cls := "MachineLoom$Tokens", name := "wrong", desc := "()V" } : Jvm.MethodName)) ∈ ma := ma_of (tb_6 _ (List.mem_of_getElem? (i := 74) rfl)) rfl
theorem k_1275 : (Jvm.Cond.instanceMethod ({ cls := "MachineLoom$Tokens", name := "wrong", desc := "()V" } : Jvm.MethodName)) ∈ ma := ma_of (tb_6 _ (List.mem_of_getElem? (i := 75) rfl)) rfl
theorem k_1276 : (Jvm.Cond.selects "MachineLoom$Tokens" ({ cls := "MachineLoom$Tokens", name := "wrong", desc := "()V" } : Jvm.MethodName) ({ cls := "MachineLoom$Tokens", name := "wrong", desc := "()V" } : Jvm.MethodName)) ∈ ma := ma_of (tb_6 _ (List.mem_of_getElem? (i := 76) rfl)) rfl
theorem d_Tokens_take_0 : decode b_Tokens_take 0 = .ok (.aload_n 0, 1) := by decide +kernel
theorem d_Tokens_take_1 : decode b_Tokens_take 1 = .ok (.invokevirtual 125, 3) := by decide +kernel
theorem d_Tokens_take_4 : decode b_Tokens_take 4 = .ok (.iload_n 1, 1) := by decide +kernel
theorem d_Tokens_take_5 : decode b_Tokens_take 5 = .ok (.if_icmp .eq (9), 3) := by decide +kernel
theorem d_Tokens_take_8 : decode b_Tokens_take 8 = .ok (.aload_n 0, 1) := by decide +kernel
theorem d_Tokens_take_9 : decode b_Tokens_take 9 = .ok (.invokevirtual 129, 3) := by decide +kernel
theorem d_Tokens_take_12 : decode b_Tokens_take 12 = .ok (.iconst 0, 1) := by decide +kernel
theorem d_Tokens_take_13 : decode b_Tokens_take 13 = .ok (.ireturn, 1) := by decide +kernel
theorem d_Tokens_take_14 : decode b_Tokens_take 14 = .ok (.aload_n 0, 1) := by decide +kernel
theorem d_Tokens_take_15 : decode b_Tokens_take 15 = .ok (.getfield 41, 3) := by decide +kernel
theorem d_Tokens_take_18 : decode b_Tokens_take 18 = .ok (.istore_n 2, 1) := by decide +kernel
theorem d_Tokens_take_19 : decode b_Tokens_take 19 = .ok (.aload_n 0, 1) := by decide +kernel
theorem d_Tokens_take_20 : decode b_Tokens_take 20 = .ok (.dup, 1) := by decide +kernel
theorem d_Tokens_take_21 : decode b_Tokens_take 21 = .ok (.getfield 41, 3) := by decide +kernel
theorem d_Tokens_take_24 : decode b_Tokens_take 24 = .ok (.iconst 1, 1) := by decide +kernel
theorem d_Tokens_take_25 : decode b_Tokens_take 25 = .ok (.iadd, 1) := by decide +kernel
theorem d_Tokens_take_26 : decode b_Tokens_take 26 = .ok (.putfield 41, 3) := by decide +kernel
theorem d_Tokens_take_29 : decode b_Tokens_take 29 = .ok (.iload_n 2, 1) := by decide +kernel
theorem d_Tokens_take_30 : decode b_Tokens_take 30 = .ok (.ireturn, 1) := by decide +kernel
set_option maxHeartbeats 4000000 in
set_option maxRecDepth 100000 in
theorem c_Tokens_take (l : Launch) {dA : FieldType → ClassId} {D : va_G} {al : Nat → Nat} {ext : mv_Sh} {sk sv : Nat → Nat} (hi : mv_inj (mg dA D al ext)) (σ : mv_H) (k : Int32) (hsh : mh (mv_r σ)) (hat : vp_in (mv_i σ 3 7) 32770) : mv_C l y_Tokens_take (Cond.code y_Tokens_take b_Tokens_take 3 (Option.some Jvm.ClassFile.FieldType.int) :: ma) ({ frames := 1, cells := 0, slots := 0, locals := 20 }) (mg dA D al ext) (mK sk sv) [.ref (al 3), .int k] σ (mv_Ri (fun v σ1 => (v, σ1) = tk_take σ k)) := by
  refine mv_C.ofV (cc := b_Tokens_take) (nL := 3) (ret := (Option.some Jvm.ClassFile.FieldType.int)) (by decide +kernel) rfl hi (Nat.le_of_ble_eq_true rfl) ?_
  intro p e s m below meth c B hNs hr hnm hno
  refine mv_aload_n (pc := 0) B d_Tokens_take_0 rfl 0 rfl ?_
  refine mv_callVi (pc := 1) (n := 0) (ci := 2) (C := R_Tokens) B (mK_ok sk sv) hNs rfl rfl (c_Tokens_kind l hi _ hsh hat) rfl (ma_goodc kc_Tokens_kind) (B.2.2.2.1 _ k_1270) (B.2.2.2.1 _ k_1271) (B.2.2.2.1 _ k_1272) (B.2.2.2.1 _ k_3) ⟨by decide +kernel, by decide +kernel, by decide +kernel⟩ rfl d_Tokens_take_1 rfl (Nat.le_of_ble_eq_true rfl) ⟨by decide, by decide⟩ ⟨by decide, by decide⟩ ⟨by decide, by decide⟩ (mv_noH hno _) (fun v1 σ1 h1 => ?_)
  obtain ⟨rfl, rfl⟩ := h1
  refine mv_iload_n (pc := 4) B d_Tokens_take_4 rfl 1 rfl ?_
  refine mv_icmp_eq (pc := 5) (tgt := 14) B d_Tokens_take_5 rfl (fun h5 => ?_) (fun h5 => ?_)
  · skip
    refine mv_aload_n (pc := 14) B d_Tokens_take_14 rfl 0 rfl ?_
    refine mv_getI (pc := 15) (ci := 2) (C := R_Tokens) (T := F_Tokens) (N := 10) B 7 rfl rfl (by decide) i_Tokens (B.2.2.2.1 _ k_102) rfl d_Tokens_take_15 ?_
    refine mv_istore_n (pc := 18) B d_Tokens_take_18 rfl (by decide) rfl ?_
    refine mv_aload_n (pc := 19) B d_Tokens_take_19 rfl 1 rfl ?_
    refine mv_dup (pc := 20) B d_Tokens_take_20 rfl ?_
    refine mv_getI (pc := 21) (ci := 2) (C := R_Tokens) (T := F_Tokens) (N := 10) B 7 rfl rfl (by decide) i_Tokens (B.2.2.2.1 _ k_102) rfl d_Tokens_take_21 ?_
    refine mv_iconst (pc := 24) (v := 1) B d_Tokens_take_24 (by decide) ?_
    refine mv_iadd (pc := 25) B d_Tokens_take_25 ?_
    refine mv_putI (pc := 26) (ci := 2) (C := R_Tokens) (T := F_Tokens) (N := 10) B 7 rfl rfl (by decide) i_Tokens t_Tokens_ok n_Tokens (B.2.2.2.1 _ k_102) rfl rfl rfl rfl d_Tokens_take_26 ?_
    refine mv_iload_n (pc := 29) B d_Tokens_take_29 rfl 0 rfl ?_
    exact mv_iret (pc := 30) B hr rfl d_Tokens_take_30 (Nat.le_refl _) (Nat.le_refl _) ⟨_, rfl, by unfold tk_take; first | rw [if_pos (by assumption)] | rw [if_neg (by assumption)]⟩
  · skip
    refine mv_aload_n (pc := 8) B d_Tokens_take_8 rfl 0 rfl ?_
    refine mv_callVv (pc := 9) (n := 0) (ci := 2) (C := R_Tokens) B (mK_ok sk sv) hNs rfl rfl (c_Tokens_wrong l hi _ hsh hat) rfl (ma_goodc kc_Tokens_wrong) (B.2.2.2.1 _ k_1274) (B.2.2.2.1 _ k_1275) (B.2.2.2.1 _ k_1276) (B.2.2.2.1 _ k_3) ⟨by decide +kernel, by decide +kernel, by decide +kernel⟩ rfl d_Tokens_take_9 rfl (Nat.le_of_ble_eq_true rfl) ⟨by decide, by decide⟩ ⟨by decide, by decide⟩ ⟨by decide, by decide⟩ (mv_noH hno _) (fun σ9 h9 => ?_)
    subst h9
    refine mv_iconst (pc := 12) (v := 0) B d_Tokens_take_12 (by decide) ?_
    exact mv_iret (pc := 13) B hr rfl d_Tokens_take_13 (Nat.le_refl _) (Nat.le_refl _) ⟨_, rfl, by unfold tk_take; first | rw [if_pos (by assumption)] | rw [if_neg (by assumption)]⟩
