/-! Program -/
/-- the references of the program at P -/
def mp (P o k : Nat) : Option Nat := if o = P then (match k with | 2 => some (P + 1) | 3 => some (P + 2) | 4 => some (P + 3) | 5 => some (P + 4) | 11 => some (P + 5) | 12 => some (P + 6) | 13 => some (P + 7) | 14 => some (P + 8) | 15 => some (P + 9) | 16 => some (P + 10) | 18 => some (P + 11) | _ => none)
  else if o = P + 11 then (match k with | 0 => some (P + 12) | 1 => some (P + 13) | 2 => some (P + 14) | 3 => some (P + 15) | _ => none) else none
def Ph (P : Nat) (r : Nat → Nat → Option Nat) : Prop := ∀ o k v : Nat, mp P o k = some v → r o k = some v
theorem Ph_a {r : Nat → Nat → Option Nat} (h : mh r) : Ph 32 r := fun o k v e => h o k v (by
  unfold mp at e
  split at e
  · rename_i q; subst q
    split at e <;> first | exact e | cases e
  · split at e
    · rename_i q; subst q
      split at e <;> first | exact e | cases e
    · cases e)
theorem Ph_b {r : Nat → Nat → Option Nat} (h : mh r) : Ph 48 r := fun o k v e => h o k v (by
  unfold mp at e
  split at e
  · rename_i q; subst q
    split at e <;> first | exact e | cases e
  · split at e
    · rename_i q; subst q
      split at e <;> first | exact e | cases e
    · cases e)
def pr_clear (P : Nat) (σ : mv_H) : mv_H := mv_si (mv_si (mv_si (mv_si (mv_si (mv_si (mv_si (mv_si σ P 0 8) P 1 0) P 6 0) P 7 0) P 8 (-1)) P 9 (-1)) P 10 0) P 17 0
def pr_emit (P : Nat) (σ : mv_H) (d : Int32) (w : Int64) : mv_H := mv_si (mv_sb (mv_sa σ (P + 9) (mv_i σ P 17).toNatClampNeg d) (P + 10) (mv_i σ P 17).toNatClampNeg w) P 17 (mv_i σ P 17 + 1)
def pr_thing (P : Nat) (σ : mv_H) (w c z s : Int32) : mv_H := mv_si (mv_si (mv_si (mv_sa (mv_sa (mv_sa (mv_sa σ (P + 1) (mv_i σ P 1).toNatClampNeg w) (P + 2) (mv_i σ P 1).toNatClampNeg c) (P + 3) (mv_i σ P 1).toNatClampNeg (mv_i σ P 6)) (P + 4) (mv_i σ P 1).toNatClampNeg z) P 6 s) P 7 (mv_i σ P 7 + c)) P 1 (mv_i σ P 1 + 1)
/-- a chain of jumps: each tells the one before it -/
def Lk (f : Nat → Int64) : Int → List Nat → Prop
  | p, [] => p = -1
  | p, x :: xs => p = x ∧ (∀ y ∈ xs, y < x) ∧ Lk f (f x).toInt xs
def y_Program_clear : MethodName := ⟨"MachineLoom$Program", "clear", "()V"⟩
abbrev b_Program_clear : ByteArray := prog_7_method_2_code
theorem kc_Program_clear : Cond.code y_Program_clear b_Program_clear 1 (Option.none : Option Jvm.ClassFile.FieldType) ∈ ma := ma_of (tb_2 _ (List.mem_of_getElem? (i := 169) rfl)) rfl
theorem k_311 : (Jvm.Cond.fieldLink "MachineLoom$Program" (54 : Nat) "MachineLoom$Program" "length" "I") ∈ ma := ma_of (tb_2 _ (List.mem_of_getElem? (i := 71) rfl)) rfl
theorem k_315 : (Jvm.Cond.fieldLink "MachineLoom$Program" (58 : Nat) "MachineLoom$Program" "things" "I") ∈ ma := ma_of (tb_2 _ (List.mem_of_getElem? (i := 75) rfl)) rfl
theorem k_332 : (Jvm.Cond.fieldLink "MachineLoom$Program" (61 : Nat) "MachineLoom$Program" "slots" "I") ∈ ma := ma_of (tb_2 _ (List.mem_of_getElem? (i := 92) rfl)) rfl
theorem k_334 : (Jvm.Cond.fieldLink "MachineLoom$Program" (64 : Nat) "MachineLoom$Program" "allCells" "I") ∈ ma := ma_of (tb_2 _ (List.mem_of_getElem? (i := 94) rfl)) rfl
theorem k_337 : (Jvm.Cond.fieldLink "MachineLoom$Program" (67 : Nat) "MachineLoom$Program" "fetchRegister" "I") ∈ ma := ma_of (tb_2 _ (List.mem_of_getElem? (i := 97) rfl)) rfl
theorem k_340 : (Jvm.Cond.fieldLink "MachineLoom$Program" (70 : Nat) "MachineLoom$Program" "fetchFile" "I") ∈ ma := ma_of (tb_2 _ (List.mem_of_getElem? (i := 100) rfl)) rfl
theorem k_345 : (Jvm.Cond.fieldLink "MachineLoom$Program" (73 : Nat) "MachineLoom$Program" "ops" "I") ∈ ma := ma_of (tb_2 _ (List.mem_of_getElem? (i := 105) rfl)) rfl
theorem k_361 : (Jvm.Cond.fieldLink "MachineLoom$Program" (76 : Nat) "MachineLoom$Program" "size" "I") ∈ ma := ma_of (tb_2 _ (List.mem_of_getElem? (i := 121) rfl)) rfl
theorem d_Program_clear_0 : decode b_Program_clear 0 = .ok (.aload_n 0, 1) := by decide +kernel
theorem d_Program_clear_1 : decode b_Program_clear 1 = .ok (.bipush 8, 2) := by decide +kernel
theorem d_Program_clear_3 : decode b_Program_clear 3 = .ok (.putfield 54, 3) := by decide +kernel
theorem d_Program_clear_6 : decode b_Program_clear 6 = .ok (.aload_n 0, 1) := by decide +kernel
theorem d_Program_clear_7 : decode b_Program_clear 7 = .ok (.iconst 0, 1) := by decide +kernel
theorem d_Program_clear_8 : decode b_Program_clear 8 = .ok (.putfield 58, 3) := by decide +kernel
theorem d_Program_clear_11 : decode b_Program_clear 11 = .ok (.aload_n 0, 1) := by decide +kernel
theorem d_Program_clear_12 : decode b_Program_clear 12 = .ok (.iconst 0, 1) := by decide +kernel
theorem d_Program_clear_13 : decode b_Program_clear 13 = .ok (.putfield 61, 3) := by decide +kernel
theorem d_Program_clear_16 : decode b_Program_clear 16 = .ok (.aload_n 0, 1) := by decide +kernel
theorem d_Program_clear_17 : decode b_Program_clear 17 = .ok (.iconst 0, 1) := by decide +kernel
theorem d_Program_clear_18 : decode b_Program_clear 18 = .ok (.putfield 64, 3) := by decide +kernel
theorem d_Program_clear_21 : decode b_Program_clear 21 = .ok (.aload_n 0, 1) := by decide +kernel
theorem d_Program_clear_22 : decode b_Program_clear 22 = .ok (.iconst (-1), 1) := by decide +kernel
theorem d_Program_clear_23 : decode b_Program_clear 23 = .ok (.putfield 67, 3) := by decide +kernel
theorem d_Program_clear_26 : decode b_Program_clear 26 = .ok (.aload_n 0, 1) := by decide +kernel
theorem d_Program_clear_27 : decode b_Program_clear 27 = .ok (.iconst (-1), 1) := by decide +kernel
theorem d_Program_clear_28 : decode b_Program_clear 28 = .ok (.putfield 70, 3) := by decide +kernel
theorem d_Program_clear_31 : decode b_Program_clear 31 = .ok (.aload_n 0, 1) := by decide +kernel
theorem d_Program_clear_32 : decode b_Program_clear 32 = .ok (.iconst 0, 1) := by decide +kernel
theorem d_Program_clear_33 : decode b_Program_clear 33 = .ok (.putfield 73, 3) := by decide +kernel
theorem d_Program_clear_36 : decode b_Program_clear 36 = .ok (.aload_n 0, 1) := by decide +kernel
theorem d_Program_clear_37 : decode b_Program_clear 37 = .ok (.iconst 0, 1) := by decide +kernel
theorem d_Program_clear_38 : decode b_Program_clear 38 = .ok (.putfield 76, 3) := by decide +kernel
theorem d_Program_clear_41 : decode b_Program_clear 41 = .ok (.return_, 1) := by decide +kernel
set_option maxHeartbeats 4000000 in
set_option maxRecDepth 100000 in
theorem c_Program_clear_a (l : Launch) {dA : FieldType → ClassId} {D : va_G} {al : Nat → Nat} {ext : mv_Sh} {sk sv : Nat → Nat} (hi : mv_inj (mg dA D al ext)) (σ : mv_H)  : mv_C l y_Program_clear (Cond.code y_Program_clear b_Program_clear 1 (Option.none : Option Jvm.ClassFile.FieldType) :: ma) ({ frames := 0, cells := 0, slots := 0, locals := 0 }) (mg dA D al ext) (mK sk sv) [.ref (al 32)] σ (mv_Rv (fun σ1 => σ1 = pr_clear 32 σ)) := by
  refine mv_C.ofV (cc := b_Program_clear) (nL := 1) (ret := (Option.none : Option Jvm.ClassFile.FieldType)) (by decide +kernel) rfl hi (Nat.le_of_ble_eq_true rfl) ?_
  intro p e s m below meth c B hNs hr hnm hno
  refine mv_aload_n (pc := 0) B d_Program_clear_0 rfl 0 rfl ?_
  refine mv_bipush (pc := 1) (v := 8) B d_Program_clear_1 (by decide) ?_
  refine mv_putI (pc := 3) (ci := 7) (C := R_Program) (T := F_Program) (N := 19) B 0 rfl rfl (by decide) i_Program t_Program_ok n_Program (B.2.2.2.1 _ k_311) rfl rfl rfl rfl d_Program_clear_3 ?_
  refine mv_aload_n (pc := 6) B d_Program_clear_6 rfl 0 rfl ?_
  refine mv_iconst (pc := 7) (v := 0) B d_Program_clear_7 (by decide) ?_
  refine mv_putI (pc := 8) (ci := 7) (C := R_Program) (T := F_Program) (N := 19) B 1 rfl rfl (by decide) i_Program t_Program_ok n_Program (B.2.2.2.1 _ k_315) rfl rfl rfl rfl d_Program_clear_8 ?_
  refine mv_aload_n (pc := 11) B d_Program_clear_11 rfl 0 rfl ?_
  refine mv_iconst (pc := 12) (v := 0) B d_Program_clear_12 (by decide) ?_
  refine mv_putI (pc := 13) (ci := 7) (C := R_Program) (T := F_Program) (N := 19) B 6 rfl rfl (by decide) i_Program t_Program_ok n_Program (B.2.2.2.1 _ k_332) rfl rfl rfl rfl d_Program_clear_13 ?_
  refine mv_aload_n (pc := 16) B d_Program_clear_16 rfl 0 rfl ?_
  refine mv_iconst (pc := 17) (v := 0) B d_Program_clear_17 (by decide) ?_
  refine mv_putI (pc := 18) (ci := 7) (C := R_Program) (T := F_Program) (N := 19) B 7 rfl rfl (by decide) i_Program t_Program_ok n_Program (B.2.2.2.1 _ k_334) rfl rfl rfl rfl d_Program_clear_18 ?_
  refine mv_aload_n (pc := 21) B d_Program_clear_21 rfl 0 rfl ?_
  refine mv_iconst (pc := 22) (v := -1) B d_Program_clear_22 (by decide) ?_
  refine mv_putI (pc := 23) (ci := 7) (C := R_Program) (T := F_Program) (N := 19) B 8 rfl rfl (by decide) i_Program t_Program_ok n_Program (B.2.2.2.1 _ k_337) rfl rfl rfl rfl d_Program_clear_23 ?_
  refine mv_aload_n (pc := 26) B d_Program_clear_26 rfl 0 rfl ?_
  refine mv_iconst (pc := 27) (v := -1) B d_Program_clear_27 (by decide) ?_
  refine mv_putI (pc := 28) (ci := 7) (C := R_Program) (T := F_Program) (N := 19) B 9 rfl rfl (by decide) i_Program t_Program_ok n_Program (B.2.2.2.1 _ k_340) rfl rfl rfl rfl d_Program_clear_28 ?_
  refine mv_aload_n (pc := 31) B d_Program_clear_31 rfl 0 rfl ?_
  refine mv_iconst (pc := 32) (v := 0) B d_Program_clear_32 (by decide) ?_
  refine mv_putI (pc := 33) (ci := 7) (C := R_Program) (T := F_Program) (N := 19) B 10 rfl rfl (by decide) i_Program t_Program_ok n_Program (B.2.2.2.1 _ k_345) rfl rfl rfl rfl d_Program_clear_33 ?_
  refine mv_aload_n (pc := 36) B d_Program_clear_36 rfl 0 rfl ?_
  refine mv_iconst (pc := 37) (v := 0) B d_Program_clear_37 (by decide) ?_
  refine mv_putI (pc := 38) (ci := 7) (C := R_Program) (T := F_Program) (N := 19) B 17 rfl rfl (by decide) i_Program t_Program_ok n_Program (B.2.2.2.1 _ k_361) rfl rfl rfl rfl d_Program_clear_38 ?_
  exact mv_vret (pc := 41) B hr d_Program_clear_41 (Nat.le_refl _) (Nat.le_refl _) ⟨rfl, rfl⟩
set_option maxHeartbeats 4000000 in
set_option maxRecDepth 100000 in
theorem c_Program_clear_b (l : Launch) {dA : FieldType → ClassId} {D : va_G} {al : Nat → Nat} {ext : mv_Sh} {sk sv : Nat → Nat} (hi : mv_inj (mg dA D al ext)) (σ : mv_H)  : mv_C l y_Program_clear (Cond.code y_Program_clear b_Program_clear 1 (Option.none : Option Jvm.ClassFile.FieldType) :: ma) ({ frames := 0, cells := 0, slots := 0, locals := 0 }) (mg dA D al ext) (mK sk sv) [.ref (al 48)] σ (mv_Rv (fun σ1 => σ1 = pr_clear 48 σ)) := by
  refine mv_C.ofV (cc := b_Program_clear) (nL := 1) (ret := (Option.none : Option Jvm.ClassFile.FieldType)) (by decide +kernel) rfl hi (Nat.le_of_ble_eq_true rfl) ?_
  intro p e s m below meth c B hNs hr hnm hno
  refine mv_aload_n (pc := 0) B d_Program_clear_0 rfl 0 rfl ?_
  refine mv_bipush (pc := 1) (v := 8) B d_Program_clear_1 (by decide) ?_
  refine mv_putI (pc := 3) (ci := 7) (C := R_Program) (T := F_Program) (N := 19) B 0 rfl rfl (by decide) i_Program t_Program_ok n_Program (B.2.2.2.1 _ k_311) rfl rfl rfl rfl d_Program_clear_3 ?_
  refine mv_aload_n (pc := 6) B d_Program_clear_6 rfl 0 rfl ?_
  refine mv_iconst (pc := 7) (v := 0) B d_Program_clear_7 (by decide) ?_
  refine mv_putI (pc := 8) (ci := 7) (C := R_Program) (T := F_Program) (N := 19) B 1 rfl rfl (by decide) i_Program t_Program_ok n_Program (B.2.2.2.1 _ k_315) rfl rfl rfl rfl d_Program_clear_8 ?_
  refine mv_aload_n (pc := 11) B d_Program_clear_11 rfl 0 rfl ?_
  refine mv_iconst (pc := 12) (v := 0) B d_Program_clear_12 (by decide) ?_
  refine mv_putI (pc := 13) (ci := 7) (C := R_Program) (T := F_Program) (N := 19) B 6 rfl rfl (by decide) i_Program t_Program_ok n_Program (B.2.2.2.1 _ k_332) rfl rfl rfl rfl d_Program_clear_13 ?_
  refine mv_aload_n (pc := 16) B d_Program_clear_16 rfl 0 rfl ?_
  refine mv_iconst (pc := 17) (v := 0) B d_Program_clear_17 (by decide) ?_
  refine mv_putI (pc := 18) (ci := 7) (C := R_Program) (T := F_Program) (N := 19) B 7 rfl rfl (by decide) i_Program t_Program_ok n_Program (B.2.2.2.1 _ k_334) rfl rfl rfl rfl d_Program_clear_18 ?_
  refine mv_aload_n (pc := 21) B d_Program_clear_21 rfl 0 rfl ?_
  refine mv_iconst (pc := 22) (v := -1) B d_Program_clear_22 (by decide) ?_
  refine mv_putI (pc := 23) (ci := 7) (C := R_Program) (T := F_Program) (N := 19) B 8 rfl rfl (by decide) i_Program t_Program_ok n_Program (B.2.2.2.1 _ k_337) rfl rfl rfl rfl d_Program_clear_23 ?_
  refine mv_aload_n (pc := 26) B d_Program_clear_26 rfl 0 rfl ?_
  refine mv_iconst (pc := 27) (v := -1) B d_Program_clear_27 (by decide) ?_
  refine mv_putI (pc := 28) (ci := 7) (C := R_Program) (T := F_Program) (N := 19) B 9 rfl rfl (by decide) i_Program t_Program_ok n_Program (B.2.2.2.1 _ k_340) rfl rfl rfl rfl d_Program_clear_28 ?_
  refine mv_aload_n (pc := 31) B d_Program_clear_31 rfl 0 rfl ?_
  refine mv_iconst (pc := 32) (v := 0) B d_Program_clear_32 (by decide) ?_
  refine mv_putI (pc := 33) (ci := 7) (C := R_Program) (T := F_Program) (N := 19) B 10 rfl rfl (by decide) i_Program t_Program_ok n_Program (B.2.2.2.1 _ k_345) rfl rfl rfl rfl d_Program_clear_33 ?_
  refine mv_aload_n (pc := 36) B d_Program_clear_36 rfl 0 rfl ?_
  refine mv_iconst (pc := 37) (v := 0) B d_Program_clear_37 (by decide) ?_
  refine mv_putI (pc := 38) (ci := 7) (C := R_Program) (T := F_Program) (N := 19) B 17 rfl rfl (by decide) i_Program t_Program_ok n_Program (B.2.2.2.1 _ k_361) rfl rfl rfl rfl d_Program_clear_38 ?_
  exact mv_vret (pc := 41) B hr d_Program_clear_41 (Nat.le_refl _) (Nat.le_refl _) ⟨rfl, rfl⟩
set_option maxHeartbeats 4000000 in
set_option maxRecDepth 100000 in
theorem c_Program_clear_c (l : Launch) {dA : FieldType → ClassId} {D : va_G} {al : Nat → Nat} {sk sv : Nat → Nat} (hi : mv_inj (mg dA D al me)) (σ : mv_H)  : mv_C l y_Program_clear (Cond.code y_Program_clear b_Program_clear 1 (Option.none : Option Jvm.ClassFile.FieldType) :: ma) ({ frames := 0, cells := 0, slots := 0, locals := 0 }) (mg dA D al me) (mK sk sv) [.ref (al 145)] σ (mv_Rv (fun σ1 => σ1 = pr_clear 145 σ)) := by
  refine mv_C.ofV (cc := b_Program_clear) (nL := 1) (ret := (Option.none : Option Jvm.ClassFile.FieldType)) (by decide +kernel) rfl hi (Nat.le_of_ble_eq_true rfl) ?_
  intro p e s m below meth c B hNs hr hnm hno
  refine mv_aload_n (pc := 0) B d_Program_clear_0 rfl 0 rfl ?_
  refine mv_bipush (pc := 1) (v := 8) B d_Program_clear_1 (by decide) ?_
  refine mv_putI (pc := 3) (ci := 7) (C := R_Program) (T := F_Program) (N := 19) B 0 rfl rfl (by decide) i_Program t_Program_ok n_Program (B.2.2.2.1 _ k_311) rfl rfl rfl rfl d_Program_clear_3 ?_
  refine mv_aload_n (pc := 6) B d_Program_clear_6 rfl 0 rfl ?_
  refine mv_iconst (pc := 7) (v := 0) B d_Program_clear_7 (by decide) ?_
  refine mv_putI (pc := 8) (ci := 7) (C := R_Program) (T := F_Program) (N := 19) B 1 rfl rfl (by decide) i_Program t_Program_ok n_Program (B.2.2.2.1 _ k_315) rfl rfl rfl rfl d_Program_clear_8 ?_
  refine mv_aload_n (pc := 11) B d_Program_clear_11 rfl 0 rfl ?_
  refine mv_iconst (pc := 12) (v := 0) B d_Program_clear_12 (by decide) ?_
  refine mv_putI (pc := 13) (ci := 7) (C := R_Program) (T := F_Program) (N := 19) B 6 rfl rfl (by decide) i_Program t_Program_ok n_Program (B.2.2.2.1 _ k_332) rfl rfl rfl rfl d_Program_clear_13 ?_
  refine mv_aload_n (pc := 16) B d_Program_clear_16 rfl 0 rfl ?_
  refine mv_iconst (pc := 17) (v := 0) B d_Program_clear_17 (by decide) ?_
  refine mv_putI (pc := 18) (ci := 7) (C := R_Program) (T := F_Program) (N := 19) B 7 rfl rfl (by decide) i_Program t_Program_ok n_Program (B.2.2.2.1 _ k_334) rfl rfl rfl rfl d_Program_clear_18 ?_
  refine mv_aload_n (pc := 21) B d_Program_clear_21 rfl 0 rfl ?_
  refine mv_iconst (pc := 22) (v := -1) B d_Program_clear_22 (by decide) ?_
  refine mv_putI (pc := 23) (ci := 7) (C := R_Program) (T := F_Program) (N := 19) B 8 rfl rfl (by decide) i_Program t_Program_ok n_Program (B.2.2.2.1 _ k_337) rfl rfl rfl rfl d_Program_clear_23 ?_
  refine mv_aload_n (pc := 26) B d_Program_clear_26 rfl 0 rfl ?_
  refine mv_iconst (pc := 27) (v := -1) B d_Program_clear_27 (by decide) ?_
  refine mv_putI (pc := 28) (ci := 7) (C := R_Program) (T := F_Program) (N := 19) B 9 rfl rfl (by decide) i_Program t_Program_ok n_Program (B.2.2.2.1 _ k_340) rfl rfl rfl rfl d_Program_clear_28 ?_
  refine mv_aload_n (pc := 31) B d_Program_clear_31 rfl 0 rfl ?_
  refine mv_iconst (pc := 32) (v := 0) B d_Program_clear_32 (by decide) ?_
  refine mv_putI (pc := 33) (ci := 7) (C := R_Program) (T := F_Program) (N := 19) B 10 rfl rfl (by decide) i_Program t_Program_ok n_Program (B.2.2.2.1 _ k_345) rfl rfl rfl rfl d_Program_clear_33 ?_
  refine mv_aload_n (pc := 36) B d_Program_clear_36 rfl 0 rfl ?_
  refine mv_iconst (pc := 37) (v := 0) B d_Program_clear_37 (by decide) ?_
  refine mv_putI (pc := 38) (ci := 7) (C := R_Program) (T := F_Program) (N := 19) B 17 rfl rfl (by decide) i_Program t_Program_ok n_Program (B.2.2.2.1 _ k_361) rfl rfl rfl rfl d_Program_clear_38 ?_
  exact mv_vret (pc := 41) B hr d_Program_clear_41 (Nat.le_refl _) (Nat.le_refl _) ⟨rfl, rfl⟩
def y_Program_addThing : MethodName := ⟨"MachineLoom$Program", "addThing", "(IIZ)V"⟩
abbrev b_Program_addThing : ByteArray := prog_7_method_3_code
theorem kc_Program_addThing : Cond.code y_Program_addThing b_Program_addThing 4 (Option.none : Option Jvm.ClassFile.FieldType) ∈ ma := ma_of (tb_6 _ (List.mem_of_getElem? (i := 132) rfl)) rfl
theorem k_318 : (Jvm.Cond.fieldLink "MachineLoom$Program" (9 : Nat) "MachineLoom$Program" "widths" "[I") ∈ ma := ma_of (tb_2 _ (List.mem_of_getElem? (i := 78) rfl)) rfl
theorem k_323 : (Jvm.Cond.fieldLink "MachineLoom$Program" (15 : Nat) "MachineLoom$Program" "cells" "[I") ∈ ma := ma_of (tb_2 _ (List.mem_of_getElem? (i := 83) rfl)) rfl
theorem k_326 : (Jvm.Cond.fieldLink "MachineLoom$Program" (18 : Nat) "MachineLoom$Program" "firsts" "[I") ∈ ma := ma_of (tb_2 _ (List.mem_of_getElem? (i := 86) rfl)) rfl
theorem k_330 : (Jvm.Cond.fieldLink "MachineLoom$Program" (21 : Nat) "MachineLoom$Program" "zeros" "[Z") ∈ ma := ma_of (tb_2 _ (List.mem_of_getElem? (i := 90) rfl)) rfl
theorem d_Program_addThing_0 : decode b_Program_addThing 0 = .ok (.aload_n 0, 1) := by decide +kernel
theorem d_Program_addThing_1 : decode b_Program_addThing 1 = .ok (.getfield 9, 3) := by decide +kernel
theorem d_Program_addThing_4 : decode b_Program_addThing 4 = .ok (.aload_n 0, 1) := by decide +kernel
theorem d_Program_addThing_5 : decode b_Program_addThing 5 = .ok (.getfield 58, 3) := by decide +kernel
theorem d_Program_addThing_8 : decode b_Program_addThing 8 = .ok (.iload_n 1, 1) := by decide +kernel
theorem d_Program_addThing_9 : decode b_Program_addThing 9 = .ok (.iastore, 1) := by decide +kernel
theorem d_Program_addThing_10 : decode b_Program_addThing 10 = .ok (.aload_n 0, 1) := by decide +kernel
theorem d_Program_addThing_11 : decode b_Program_addThing 11 = .ok (.getfield 15, 3) := by decide +kernel
theorem d_Program_addThing_14 : decode b_Program_addThing 14 = .ok (.aload_n 0, 1) := by decide +kernel
theorem d_Program_addThing_15 : decode b_Program_addThing 15 = .ok (.getfield 58, 3) := by decide +kernel
theorem d_Program_addThing_18 : decode b_Program_addThing 18 = .ok (.iload_n 2, 1) := by decide +kernel
theorem d_Program_addThing_19 : decode b_Program_addThing 19 = .ok (.iastore, 1) := by decide +kernel
theorem d_Program_addThing_20 : decode b_Program_addThing 20 = .ok (.aload_n 0, 1) := by decide +kernel
theorem d_Program_addThing_21 : decode b_Program_addThing 21 = .ok (.getfield 18, 3) := by decide +kernel
theorem d_Program_addThing_24 : decode b_Program_addThing 24 = .ok (.aload_n 0, 1) := by decide +kernel
theorem d_Program_addThing_25 : decode b_Program_addThing 25 = .ok (.getfield 58, 3) := by decide +kernel
theorem d_Program_addThing_28 : decode b_Program_addThing 28 = .ok (.aload_n 0, 1) := by decide +kernel
theorem d_Program_addThing_29 : decode b_Program_addThing 29 = .ok (.getfield 61, 3) := by decide +kernel
theorem d_Program_addThing_32 : decode b_Program_addThing 32 = .ok (.iastore, 1) := by decide +kernel
theorem d_Program_addThing_33 : decode b_Program_addThing 33 = .ok (.aload_n 0, 1) := by decide +kernel
theorem d_Program_addThing_34 : decode b_Program_addThing 34 = .ok (.getfield 21, 3) := by decide +kernel
theorem d_Program_addThing_37 : decode b_Program_addThing 37 = .ok (.aload_n 0, 1) := by decide +kernel
theorem d_Program_addThing_38 : decode b_Program_addThing 38 = .ok (.getfield 58, 3) := by decide +kernel
theorem d_Program_addThing_41 : decode b_Program_addThing 41 = .ok (.iload_n 3, 1) := by decide +kernel
theorem d_Program_addThing_42 : decode b_Program_addThing 42 = .ok (.bastore, 1) := by decide +kernel
theorem d_Program_addThing_43 : decode b_Program_addThing 43 = .ok (.aload_n 0, 1) := by decide +kernel
theorem d_Program_addThing_44 : decode b_Program_addThing 44 = .ok (.dup, 1) := by decide +kernel
theorem d_Program_addThing_45 : decode b_Program_addThing 45 = .ok (.getfield 61, 3) := by decide +kernel
theorem d_Program_addThing_48 : decode b_Program_addThing 48 = .ok (.iload_n 2, 1) := by decide +kernel
theorem d_Program_addThing_49 : decode b_Program_addThing 49 = .ok (.ifCond .ne (7), 3) := by decide +kernel
theorem d_Program_addThing_52 : decode b_Program_addThing 52 = .ok (.iconst 1, 1) := by decide +kernel
theorem d_Program_addThing_53 : decode b_Program_addThing 53 = .ok (.goto (4), 3) := by decide +kernel
theorem d_Program_addThing_56 : decode b_Program_addThing 56 = .ok (.iload_n 2, 1) := by decide +kernel
theorem d_Program_addThing_57 : decode b_Program_addThing 57 = .ok (.iadd, 1) := by decide +kernel
theorem d_Program_addThing_58 : decode b_Program_addThing 58 = .ok (.putfield 61, 3) := by decide +kernel
theorem d_Program_addThing_61 : decode b_Program_addThing 61 = .ok (.aload_n 0, 1) := by decide +kernel
theorem d_Program_addThing_62 : decode b_Program_addThing 62 = .ok (.dup, 1) := by decide +kernel
theorem d_Program_addThing_63 : decode b_Program_addThing 63 = .ok (.getfield 64, 3) := by decide +kernel
theorem d_Program_addThing_66 : decode b_Program_addThing 66 = .ok (.iload_n 2, 1) := by decide +kernel
theorem d_Program_addThing_67 : decode b_Program_addThing 67 = .ok (.iadd, 1) := by decide +kernel
theorem d_Program_addThing_68 : decode b_Program_addThing 68 = .ok (.putfield 64, 3) := by decide +kernel
theorem d_Program_addThing_71 : decode b_Program_addThing 71 = .ok (.aload_n 0, 1) := by decide +kernel
theorem d_Program_addThing_72 : decode b_Program_addThing 72 = .ok (.dup, 1) := by decide +kernel
theorem d_Program_addThing_73 : decode b_Program_addThing 73 = .ok (.getfield 58, 3) := by decide +kernel
theorem d_Program_addThing_76 : decode b_Program_addThing 76 = .ok (.iconst 1, 1) := by decide +kernel
theorem d_Program_addThing_77 : decode b_Program_addThing 77 = .ok (.iadd, 1) := by decide +kernel
theorem d_Program_addThing_78 : decode b_Program_addThing 78 = .ok (.putfield 58, 3) := by decide +kernel
theorem d_Program_addThing_81 : decode b_Program_addThing 81 = .ok (.return_, 1) := by decide +kernel
set_option maxHeartbeats 4000000 in
set_option maxRecDepth 100000 in
theorem c_Program_addThing_a (l : Launch) {dA : FieldType → ClassId} {D : va_G} {al : Nat → Nat} {ext : mv_Sh} {sk sv : Nat → Nat} (hi : mv_inj (mg dA D al ext)) (σ : mv_H) (w c9 z9 : Int32) (hq : Ph 32 (mv_r σ)) (g0 : 0 ≤ (mv_i σ 32 1).toInt) (g1 : (mv_i σ 32 1).toInt < 64) : mv_C l y_Program_addThing (Cond.code y_Program_addThing b_Program_addThing 4 (Option.none : Option Jvm.ClassFile.FieldType) :: ma) ({ frames := 0, cells := 0, slots := 0, locals := 0 }) (mg dA D al ext) (mK sk sv) [.ref (al 32), .int w, .int c9, .int z9] σ (mv_Rv (fun σ1 => ∃ z s, σ1 = pr_thing 32 σ w c9 z s ∧ ((c9 = 0 ∧ s = mv_i σ 32 6 + 1) ∨ (¬ c9 = 0 ∧ s = mv_i σ 32 6 + c9)))) := by
  refine mv_C.ofV (cc := b_Program_addThing) (nL := 4) (ret := (Option.none : Option Jvm.ClassFile.FieldType)) (by decide +kernel) rfl hi (Nat.le_of_ble_eq_true rfl) ?_
  intro p e s m below meth c B hNs hr hnm hno
  refine mv_aload_n (pc := 0) B d_Program_addThing_0 rfl 0 rfl ?_
  refine mv_getR (pc := 1) (ci := 7) (C := R_Program) (T := F_Program) (N := 19) B 2 rfl rfl (by decide) i_Program (B.2.2.2.1 _ k_318) rfl (hq _ 2 33 rfl) d_Program_addThing_1 ?_
  refine mv_aload_n (pc := 4) B d_Program_addThing_4 rfl 0 rfl ?_
  refine mv_getI (pc := 5) (ci := 7) (C := R_Program) (T := F_Program) (N := 19) B 1 rfl rfl (by decide) i_Program (B.2.2.2.1 _ k_315) rfl d_Program_addThing_5 ?_
  refine mv_iload_n (pc := 8) B d_Program_addThing_8 rfl 1 rfl ?_
  refine mv_iast (pc := 9) B rfl (i32_in g0 g1) d_Program_addThing_9 ?_
  refine mv_aload_n (pc := 10) B d_Program_addThing_10 rfl 0 rfl ?_
  refine mv_getR (pc := 11) (ci := 7) (C := R_Program) (T := F_Program) (N := 19) B 3 rfl rfl (by decide) i_Program (B.2.2.2.1 _ k_323) rfl (hq _ 3 34 rfl) d_Program_addThing_11 ?_
  refine mv_aload_n (pc := 14) B d_Program_addThing_14 rfl 0 rfl ?_
  refine mv_getI (pc := 15) (ci := 7) (C := R_Program) (T := F_Program) (N := 19) B 1 rfl rfl (by decide) i_Program (B.2.2.2.1 _ k_315) rfl d_Program_addThing_15 ?_
  refine mv_iload_n (pc := 18) B d_Program_addThing_18 rfl 2 rfl ?_
  refine mv_iast (pc := 19) B rfl (i32_in g0 g1) d_Program_addThing_19 ?_
  refine mv_aload_n (pc := 20) B d_Program_addThing_20 rfl 0 rfl ?_
  refine mv_getR (pc := 21) (ci := 7) (C := R_Program) (T := F_Program) (N := 19) B 4 rfl rfl (by decide) i_Program (B.2.2.2.1 _ k_326) rfl (hq _ 4 35 rfl) d_Program_addThing_21 ?_
  refine mv_aload_n (pc := 24) B d_Program_addThing_24 rfl 0 rfl ?_
  refine mv_getI (pc := 25) (ci := 7) (C := R_Program) (T := F_Program) (N := 19) B 1 rfl rfl (by decide) i_Program (B.2.2.2.1 _ k_315) rfl d_Program_addThing_25 ?_
  refine mv_aload_n (pc := 28) B d_Program_addThing_28 rfl 0 rfl ?_
  refine mv_getI (pc := 29) (ci := 7) (C := R_Program) (T := F_Program) (N := 19) B 6 rfl rfl (by decide) i_Program (B.2.2.2.1 _ k_332) rfl d_Program_addThing_29 ?_
  refine mv_iast (pc := 32) B rfl (i32_in g0 g1) d_Program_addThing_32 ?_
  refine mv_aload_n (pc := 33) B d_Program_addThing_33 rfl 0 rfl ?_
  refine mv_getR (pc := 34) (ci := 7) (C := R_Program) (T := F_Program) (N := 19) B 5 rfl rfl (by decide) i_Program (B.2.2.2.1 _ k_330) rfl (hq _ 5 36 rfl) d_Program_addThing_34 ?_
  refine mv_aload_n (pc := 37) B d_Program_addThing_37 rfl 0 rfl ?_
  refine mv_getI (pc := 38) (ci := 7) (C := R_Program) (T := F_Program) (N := 19) B 1 rfl rfl (by decide) i_Program (B.2.2.2.1 _ k_315) rfl d_Program_addThing_38 ?_
  refine mv_iload_n (pc := 41) B d_Program_addThing_41 rfl 3 rfl ?_
  refine mv_zast (pc := 42) B rfl (i32_in g0 g1) d_Program_addThing_42 ?_
  refine mv_aload_n (pc := 43) B d_Program_addThing_43 rfl 0 rfl ?_
  refine mv_dup (pc := 44) B d_Program_addThing_44 rfl ?_
  refine mv_getI (pc := 45) (ci := 7) (C := R_Program) (T := F_Program) (N := 19) B 6 rfl rfl (by decide) i_Program (B.2.2.2.1 _ k_332) rfl d_Program_addThing_45 ?_
  refine mv_iload_n (pc := 48) B d_Program_addThing_48 rfl 2 rfl ?_
  refine mv_if_ne (pc := 49) (tgt := 56) B d_Program_addThing_49 rfl (fun h49 => ?_) (fun h49 => ?_)
  · skip
    refine mv_iload_n (pc := 56) B d_Program_addThing_56 rfl 2 rfl ?_
    refine mv_iadd (pc := 57) B d_Program_addThing_57 ?_
    refine mv_putI (pc := 58) (ci := 7) (C := R_Program) (T := F_Program) (N := 19) B 6 rfl rfl (by decide) i_Program t_Program_ok n_Program (B.2.2.2.1 _ k_332) rfl rfl rfl rfl d_Program_addThing_58 ?_
    refine mv_aload_n (pc := 61) B d_Program_addThing_61 rfl 0 rfl ?_
    refine mv_dup (pc := 62) B d_Program_addThing_62 rfl ?_
    refine mv_getI (pc := 63) (ci := 7) (C := R_Program) (T := F_Program) (N := 19) B 7 rfl rfl (by decide) i_Program (B.2.2.2.1 _ k_334) rfl d_Program_addThing_63 ?_
    refine mv_iload_n (pc := 66) B d_Program_addThing_66 rfl 2 rfl ?_
    refine mv_iadd (pc := 67) B d_Program_addThing_67 ?_
    refine mv_putI (pc := 68) (ci := 7) (C := R_Program) (T := F_Program) (N := 19) B 7 rfl rfl (by decide) i_Program t_Program_ok n_Program (B.2.2.2.1 _ k_334) rfl rfl rfl rfl d_Program_addThing_68 ?_
    refine mv_aload_n (pc := 71) B d_Program_addThing_71 rfl 0 rfl ?_
    refine mv_dup (pc := 72) B d_Program_addThing_72 rfl ?_
    refine mv_getI (pc := 73) (ci := 7) (C := R_Program) (T := F_Program) (N := 19) B 1 rfl rfl (by decide) i_Program (B.2.2.2.1 _ k_315) rfl d_Program_addThing_73 ?_
    refine mv_iconst (pc := 76) (v := 1) B d_Program_addThing_76 (by decide) ?_
    refine mv_iadd (pc := 77) B d_Program_addThing_77 ?_
    refine mv_putI (pc := 78) (ci := 7) (C := R_Program) (T := F_Program) (N := 19) B 1 rfl rfl (by decide) i_Program t_Program_ok n_Program (B.2.2.2.1 _ k_315) rfl rfl rfl rfl d_Program_addThing_78 ?_
    exact mv_vret (pc := 81) B hr d_Program_addThing_81 (Nat.le_refl _) (Nat.le_refl _) ⟨rfl, _, _, rfl, by first | exact Or.inl ⟨h49, rfl⟩ | exact Or.inr ⟨h49, rfl⟩⟩
  · skip
    refine mv_iconst (pc := 52) (v := 1) B d_Program_addThing_52 (by decide) ?_
    refine mv_goto (pc := 53) (tgt := 57) B d_Program_addThing_53 rfl ?_
    refine mv_iadd (pc := 57) B d_Program_addThing_57 ?_
    refine mv_putI (pc := 58) (ci := 7) (C := R_Program) (T := F_Program) (N := 19) B 6 rfl rfl (by decide) i_Program t_Program_ok n_Program (B.2.2.2.1 _ k_332) rfl rfl rfl rfl d_Program_addThing_58 ?_
    refine mv_aload_n (pc := 61) B d_Program_addThing_61 rfl 0 rfl ?_
    refine mv_dup (pc := 62) B d_Program_addThing_62 rfl ?_
    refine mv_getI (pc := 63) (ci := 7) (C := R_Program) (T := F_Program) (N := 19) B 7 rfl rfl (by decide) i_Program (B.2.2.2.1 _ k_334) rfl d_Program_addThing_63 ?_
    refine mv_iload_n (pc := 66) B d_Program_addThing_66 rfl 2 rfl ?_
    refine mv_iadd (pc := 67) B d_Program_addThing_67 ?_
    refine mv_putI (pc := 68) (ci := 7) (C := R_Program) (T := F_Program) (N := 19) B 7 rfl rfl (by decide) i_Program t_Program_ok n_Program (B.2.2.2.1 _ k_334) rfl rfl rfl rfl d_Program_addThing_68 ?_
    refine mv_aload_n (pc := 71) B d_Program_addThing_71 rfl 0 rfl ?_
    refine mv_dup (pc := 72) B d_Program_addThing_72 rfl ?_
    refine mv_getI (pc := 73) (ci := 7) (C := R_Program) (T := F_Program) (N := 19) B 1 rfl rfl (by decide) i_Program (B.2.2.2.1 _ k_315) rfl d_Program_addThing_73 ?_
    refine mv_iconst (pc := 76) (v := 1) B d_Program_addThing_76 (by decide) ?_
    refine mv_iadd (pc := 77) B d_Program_addThing_77 ?_
    refine mv_putI (pc := 78) (ci := 7) (C := R_Program) (T := F_Program) (N := 19) B 1 rfl rfl (by decide) i_Program t_Program_ok n_Program (B.2.2.2.1 _ k_315) rfl rfl rfl rfl d_Program_addThing_78 ?_
    exact mv_vret (pc := 81) B hr d_Program_addThing_81 (Nat.le_refl _) (Nat.le_refl _) ⟨rfl, _, _, rfl, by first | exact Or.inl ⟨h49, rfl⟩ | exact Or.inr ⟨h49, rfl⟩⟩
set_option maxHeartbeats 4000000 in
set_option maxRecDepth 100000 in
theorem c_Program_addThing_b (l : Launch) {dA : FieldType → ClassId} {D : va_G} {al : Nat → Nat} {ext : mv_Sh} {sk sv : Nat → Nat} (hi : mv_inj (mg dA D al ext)) (σ : mv_H) (w c9 z9 : Int32) (hq : Ph 48 (mv_r σ)) (g0 : 0 ≤ (mv_i σ 48 1).toInt) (g1 : (mv_i σ 48 1).toInt < 64) : mv_C l y_Program_addThing (Cond.code y_Program_addThing b_Program_addThing 4 (Option.none : Option Jvm.ClassFile.FieldType) :: ma) ({ frames := 0, cells := 0, slots := 0, locals := 0 }) (mg dA D al ext) (mK sk sv) [.ref (al 48), .int w, .int c9, .int z9] σ (mv_Rv (fun σ1 => ∃ z s, σ1 = pr_thing 48 σ w c9 z s ∧ ((c9 = 0 ∧ s = mv_i σ 48 6 + 1) ∨ (¬ c9 = 0 ∧ s = mv_i σ 48 6 + c9)))) := by
  refine mv_C.ofV (cc := b_Program_addThing) (nL := 4) (ret := (Option.none : Option Jvm.ClassFile.FieldType)) (by decide +kernel) rfl hi (Nat.le_of_ble_eq_true rfl) ?_
  intro p e s m below meth c B hNs hr hnm hno
  refine mv_aload_n (pc := 0) B d_Program_addThing_0 rfl 0 rfl ?_
  refine mv_getR (pc := 1) (ci := 7) (C := R_Program) (T := F_Program) (N := 19) B 2 rfl rfl (by decide) i_Program (B.2.2.2.1 _ k_318) rfl (hq _ 2 49 rfl) d_Program_addThing_1 ?_
  refine mv_aload_n (pc := 4) B d_Program_addThing_4 rfl 0 rfl ?_
  refine mv_getI (pc := 5) (ci := 7) (C := R_Program) (T := F_Program) (N := 19) B 1 rfl rfl (by decide) i_Program (B.2.2.2.1 _ k_315) rfl d_Program_addThing_5 ?_
  refine mv_iload_n (pc := 8) B d_Program_addThing_8 rfl 1 rfl ?_
  refine mv_iast (pc := 9) B rfl (i32_in g0 g1) d_Program_addThing_9 ?_
  refine mv_aload_n (pc := 10) B d_Program_addThing_10 rfl 0 rfl ?_
  refine mv_getR (pc := 11) (ci := 7) (C := R_Program) (T := F_Program) (N := 19) B 3 rfl rfl (by decide) i_Program (B.2.2.2.1 _ k_323) rfl (hq _ 3 50 rfl) d_Program_addThing_11 ?_
  refine mv_aload_n (pc := 14) B d_Program_addThing_14 rfl 0 rfl ?_
  refine mv_getI (pc := 15) (ci := 7) (C := R_Program) (T := F_Program) (N := 19) B 1 rfl rfl (by decide) i_Program (B.2.2.2.1 _ k_315) rfl d_Program_addThing_15 ?_
  refine mv_iload_n (pc := 18) B d_Program_addThing_18 rfl 2 rfl ?_
  refine mv_iast (pc := 19) B rfl (i32_in g0 g1) d_Program_addThing_19 ?_
  refine mv_aload_n (pc := 20) B d_Program_addThing_20 rfl 0 rfl ?_
  refine mv_getR (pc := 21) (ci := 7) (C := R_Program) (T := F_Program) (N := 19) B 4 rfl rfl (by decide) i_Program (B.2.2.2.1 _ k_326) rfl (hq _ 4 51 rfl) d_Program_addThing_21 ?_
  refine mv_aload_n (pc := 24) B d_Program_addThing_24 rfl 0 rfl ?_
  refine mv_getI (pc := 25) (ci := 7) (C := R_Program) (T := F_Program) (N := 19) B 1 rfl rfl (by decide) i_Program (B.2.2.2.1 _ k_315) rfl d_Program_addThing_25 ?_
  refine mv_aload_n (pc := 28) B d_Program_addThing_28 rfl 0 rfl ?_
  refine mv_getI (pc := 29) (ci := 7) (C := R_Program) (T := F_Program) (N := 19) B 6 rfl rfl (by decide) i_Program (B.2.2.2.1 _ k_332) rfl d_Program_addThing_29 ?_
  refine mv_iast (pc := 32) B rfl (i32_in g0 g1) d_Program_addThing_32 ?_
  refine mv_aload_n (pc := 33) B d_Program_addThing_33 rfl 0 rfl ?_
  refine mv_getR (pc := 34) (ci := 7) (C := R_Program) (T := F_Program) (N := 19) B 5 rfl rfl (by decide) i_Program (B.2.2.2.1 _ k_330) rfl (hq _ 5 52 rfl) d_Program_addThing_34 ?_
  refine mv_aload_n (pc := 37) B d_Program_addThing_37 rfl 0 rfl ?_
  refine mv_getI (pc := 38) (ci := 7) (C := R_Program) (T := F_Program) (N := 19) B 1 rfl rfl (by decide) i_Program (B.2.2.2.1 _ k_315) rfl d_Program_addThing_38 ?_
  refine mv_iload_n (pc := 41) B d_Program_addThing_41 rfl 3 rfl ?_
  refine mv_zast (pc := 42) B rfl (i32_in g0 g1) d_Program_addThing_42 ?_
  refine mv_aload_n (pc := 43) B d_Program_addThing_43 rfl 0 rfl ?_
  refine mv_dup (pc := 44) B d_Program_addThing_44 rfl ?_
  refine mv_getI (pc := 45) (ci := 7) (C := R_Program) (T := F_Program) (N := 19) B 6 rfl rfl (by decide) i_Program (B.2.2.2.1 _ k_332) rfl d_Program_addThing_45 ?_
  refine mv_iload_n (pc := 48) B d_Program_addThing_48 rfl 2 rfl ?_
  refine mv_if_ne (pc := 49) (tgt := 56) B d_Program_addThing_49 rfl (fun h49 => ?_) (fun h49 => ?_)
  · skip
    refine mv_iload_n (pc := 56) B d_Program_addThing_56 rfl 2 rfl ?_
    refine mv_iadd (pc := 57) B d_Program_addThing_57 ?_
    refine mv_putI (pc := 58) (ci := 7) (C := R_Program) (T := F_Program) (N := 19) B 6 rfl rfl (by decide) i_Program t_Program_ok n_Program (B.2.2.2.1 _ k_332) rfl rfl rfl rfl d_Program_addThing_58 ?_
    refine mv_aload_n (pc := 61) B d_Program_addThing_61 rfl 0 rfl ?_
    refine mv_dup (pc := 62) B d_Program_addThing_62 rfl ?_
    refine mv_getI (pc := 63) (ci := 7) (C := R_Program) (T := F_Program) (N := 19) B 7 rfl rfl (by decide) i_Program (B.2.2.2.1 _ k_334) rfl d_Program_addThing_63 ?_
    refine mv_iload_n (pc := 66) B d_Program_addThing_66 rfl 2 rfl ?_
    refine mv_iadd (pc := 67) B d_Program_addThing_67 ?_
    refine mv_putI (pc := 68) (ci := 7) (C := R_Program) (T := F_Program) (N := 19) B 7 rfl rfl (by decide) i_Program t_Program_ok n_Program (B.2.2.2.1 _ k_334) rfl rfl rfl rfl d_Program_addThing_68 ?_
    refine mv_aload_n (pc := 71) B d_Program_addThing_71 rfl 0 rfl ?_
    refine mv_dup (pc := 72) B d_Program_addThing_72 rfl ?_
    refine mv_getI (pc := 73) (ci := 7) (C := R_Program) (T := F_Program) (N := 19) B 1 rfl rfl (by decide) i_Program (B.2.2.2.1 _ k_315) rfl d_Program_addThing_73 ?_
    refine mv_iconst (pc := 76) (v := 1) B d_Program_addThing_76 (by decide) ?_
    refine mv_iadd (pc := 77) B d_Program_addThing_77 ?_
    refine mv_putI (pc := 78) (ci := 7) (C := R_Program) (T := F_Program) (N := 19) B 1 rfl rfl (by decide) i_Program t_Program_ok n_Program (B.2.2.2.1 _ k_315) rfl rfl rfl rfl d_Program_addThing_78 ?_
    exact mv_vret (pc := 81) B hr d_Program_addThing_81 (Nat.le_refl _) (Nat.le_refl _) ⟨rfl, _, _, rfl, by first | exact Or.inl ⟨h49, rfl⟩ | exact Or.inr ⟨h49, rfl⟩⟩
  · skip
    refine mv_iconst (pc := 52) (v := 1) B d_Program_addThing_52 (by decide) ?_
    refine mv_goto (pc := 53) (tgt := 57) B d_Program_addThing_53 rfl ?_
    refine mv_iadd (pc := 57) B d_Program_addThing_57 ?_
    refine mv_putI (pc := 58) (ci := 7) (C := R_Program) (T := F_Program) (N := 19) B 6 rfl rfl (by decide) i_Program t_Program_ok n_Program (B.2.2.2.1 _ k_332) rfl rfl rfl rfl d_Program_addThing_58 ?_
    refine mv_aload_n (pc := 61) B d_Program_addThing_61 rfl 0 rfl ?_
    refine mv_dup (pc := 62) B d_Program_addThing_62 rfl ?_
    refine mv_getI (pc := 63) (ci := 7) (C := R_Program) (T := F_Program) (N := 19) B 7 rfl rfl (by decide) i_Program (B.2.2.2.1 _ k_334) rfl d_Program_addThing_63 ?_
    refine mv_iload_n (pc := 66) B d_Program_addThing_66 rfl 2 rfl ?_
    refine mv_iadd (pc := 67) B d_Program_addThing_67 ?_
    refine mv_putI (pc := 68) (ci := 7) (C := R_Program) (T := F_Program) (N := 19) B 7 rfl rfl (by decide) i_Program t_Program_ok n_Program (B.2.2.2.1 _ k_334) rfl rfl rfl rfl d_Program_addThing_68 ?_
    refine mv_aload_n (pc := 71) B d_Program_addThing_71 rfl 0 rfl ?_
    refine mv_dup (pc := 72) B d_Program_addThing_72 rfl ?_
    refine mv_getI (pc := 73) (ci := 7) (C := R_Program) (T := F_Program) (N := 19) B 1 rfl rfl (by decide) i_Program (B.2.2.2.1 _ k_315) rfl d_Program_addThing_73 ?_
    refine mv_iconst (pc := 76) (v := 1) B d_Program_addThing_76 (by decide) ?_
    refine mv_iadd (pc := 77) B d_Program_addThing_77 ?_
    refine mv_putI (pc := 78) (ci := 7) (C := R_Program) (T := F_Program) (N := 19) B 1 rfl rfl (by decide) i_Program t_Program_ok n_Program (B.2.2.2.1 _ k_315) rfl rfl rfl rfl d_Program_addThing_78 ?_
    exact mv_vret (pc := 81) B hr d_Program_addThing_81 (Nat.le_refl _) (Nat.le_refl _) ⟨rfl, _, _, rfl, by first | exact Or.inl ⟨h49, rfl⟩ | exact Or.inr ⟨h49, rfl⟩⟩
set_option maxHeartbeats 4000000 in
set_option maxRecDepth 100000 in
theorem c_Program_addThing_c (l : Launch) {dA : FieldType → ClassId} {D : va_G} {al : Nat → Nat} {sk sv : Nat → Nat} (hi : mv_inj (mg dA D al me)) (σ : mv_H) (w c9 z9 : Int32) (hq : Ph 145 (mv_r σ)) (g0 : 0 ≤ (mv_i σ 145 1).toInt) (g1 : (mv_i σ 145 1).toInt < 64) : mv_C l y_Program_addThing (Cond.code y_Program_addThing b_Program_addThing 4 (Option.none : Option Jvm.ClassFile.FieldType) :: ma) ({ frames := 0, cells := 0, slots := 0, locals := 0 }) (mg dA D al me) (mK sk sv) [.ref (al 145), .int w, .int c9, .int z9] σ (mv_Rv (fun σ1 => ∃ z s, σ1 = pr_thing 145 σ w c9 z s ∧ ((c9 = 0 ∧ s = mv_i σ 145 6 + 1) ∨ (¬ c9 = 0 ∧ s = mv_i σ 145 6 + c9)))) := by
  refine mv_C.ofV (cc := b_Program_addThing) (nL := 4) (ret := (Option.none : Option Jvm.ClassFile.FieldType)) (by decide +kernel) rfl hi (Nat.le_of_ble_eq_true rfl) ?_
  intro p e s m below meth c B hNs hr hnm hno
  refine mv_aload_n (pc := 0) B d_Program_addThing_0 rfl 0 rfl ?_
  refine mv_getR (pc := 1) (ci := 7) (C := R_Program) (T := F_Program) (N := 19) B 2 rfl rfl (by decide) i_Program (B.2.2.2.1 _ k_318) rfl (hq _ 2 146 rfl) d_Program_addThing_1 ?_
  refine mv_aload_n (pc := 4) B d_Program_addThing_4 rfl 0 rfl ?_
  refine mv_getI (pc := 5) (ci := 7) (C := R_Program) (T := F_Program) (N := 19) B 1 rfl rfl (by decide) i_Program (B.2.2.2.1 _ k_315) rfl d_Program_addThing_5 ?_
  refine mv_iload_n (pc := 8) B d_Program_addThing_8 rfl 1 rfl ?_
  refine mv_iast (pc := 9) B rfl (i32_in g0 g1) d_Program_addThing_9 ?_
  refine mv_aload_n (pc := 10) B d_Program_addThing_10 rfl 0 rfl ?_
  refine mv_getR (pc := 11) (ci := 7) (C := R_Program) (T := F_Program) (N := 19) B 3 rfl rfl (by decide) i_Program (B.2.2.2.1 _ k_323) rfl (hq _ 3 147 rfl) d_Program_addThing_11 ?_
  refine mv_aload_n (pc := 14) B d_Program_addThing_14 rfl 0 rfl ?_
  refine mv_getI (pc := 15) (ci := 7) (C := R_Program) (T := F_Program) (N := 19) B 1 rfl rfl (by decide) i_Program (B.2.2.2.1 _ k_315) rfl d_Program_addThing_15 ?_
  refine mv_iload_n (pc := 18) B d_Program_addThing_18 rfl 2 rfl ?_
  refine mv_iast (pc := 19) B rfl (i32_in g0 g1) d_Program_addThing_19 ?_
  refine mv_aload_n (pc := 20) B d_Program_addThing_20 rfl 0 rfl ?_
  refine mv_getR (pc := 21) (ci := 7) (C := R_Program) (T := F_Program) (N := 19) B 4 rfl rfl (by decide) i_Program (B.2.2.2.1 _ k_326) rfl (hq _ 4 148 rfl) d_Program_addThing_21 ?_
  refine mv_aload_n (pc := 24) B d_Program_addThing_24 rfl 0 rfl ?_
  refine mv_getI (pc := 25) (ci := 7) (C := R_Program) (T := F_Program) (N := 19) B 1 rfl rfl (by decide) i_Program (B.2.2.2.1 _ k_315) rfl d_Program_addThing_25 ?_
  refine mv_aload_n (pc := 28) B d_Program_addThing_28 rfl 0 rfl ?_
  refine mv_getI (pc := 29) (ci := 7) (C := R_Program) (T := F_Program) (N := 19) B 6 rfl rfl (by decide) i_Program (B.2.2.2.1 _ k_332) rfl d_Program_addThing_29 ?_
  refine mv_iast (pc := 32) B rfl (i32_in g0 g1) d_Program_addThing_32 ?_
  refine mv_aload_n (pc := 33) B d_Program_addThing_33 rfl 0 rfl ?_
  refine mv_getR (pc := 34) (ci := 7) (C := R_Program) (T := F_Program) (N := 19) B 5 rfl rfl (by decide) i_Program (B.2.2.2.1 _ k_330) rfl (hq _ 5 149 rfl) d_Program_addThing_34 ?_
  refine mv_aload_n (pc := 37) B d_Program_addThing_37 rfl 0 rfl ?_
  refine mv_getI (pc := 38) (ci := 7) (C := R_Program) (T := F_Program) (N := 19) B 1 rfl rfl (by decide) i_Program (B.2.2.2.1 _ k_315) rfl d_Program_addThing_38 ?_
  refine mv_iload_n (pc := 41) B d_Program_addThing_41 rfl 3 rfl ?_
  refine mv_zast (pc := 42) B rfl (i32_in g0 g1) d_Program_addThing_42 ?_
  refine mv_aload_n (pc := 43) B d_Program_addThing_43 rfl 0 rfl ?_
  refine mv_dup (pc := 44) B d_Program_addThing_44 rfl ?_
  refine mv_getI (pc := 45) (ci := 7) (C := R_Program) (T := F_Program) (N := 19) B 6 rfl rfl (by decide) i_Program (B.2.2.2.1 _ k_332) rfl d_Program_addThing_45 ?_
  refine mv_iload_n (pc := 48) B d_Program_addThing_48 rfl 2 rfl ?_
  refine mv_if_ne (pc := 49) (tgt := 56) B d_Program_addThing_49 rfl (fun h49 => ?_) (fun h49 => ?_)
  · skip
    refine mv_iload_n (pc := 56) B d_Program_addThing_56 rfl 2 rfl ?_
    refine mv_iadd (pc := 57) B d_Program_addThing_57 ?_
    refine mv_putI (pc := 58) (ci := 7) (C := R_Program) (T := F_Program) (N := 19) B 6 rfl rfl (by decide) i_Program t_Program_ok n_Program (B.2.2.2.1 _ k_332) rfl rfl rfl rfl d_Program_addThing_58 ?_
    refine mv_aload_n (pc := 61) B d_Program_addThing_61 rfl 0 rfl ?_
    refine mv_dup (pc := 62) B d_Program_addThing_62 rfl ?_
    refine mv_getI (pc := 63) (ci := 7) (C := R_Program) (T := F_Program) (N := 19) B 7 rfl rfl (by decide) i_Program (B.2.2.2.1 _ k_334) rfl d_Program_addThing_63 ?_
    refine mv_iload_n (pc := 66) B d_Program_addThing_66 rfl 2 rfl ?_
    refine mv_iadd (pc := 67) B d_Program_addThing_67 ?_
    refine mv_putI (pc := 68) (ci := 7) (C := R_Program) (T := F_Program) (N := 19) B 7 rfl rfl (by decide) i_Program t_Program_ok n_Program (B.2.2.2.1 _ k_334) rfl rfl rfl rfl d_Program_addThing_68 ?_
    refine mv_aload_n (pc := 71) B d_Program_addThing_71 rfl 0 rfl ?_
    refine mv_dup (pc := 72) B d_Program_addThing_72 rfl ?_
    refine mv_getI (pc := 73) (ci := 7) (C := R_Program) (T := F_Program) (N := 19) B 1 rfl rfl (by decide) i_Program (B.2.2.2.1 _ k_315) rfl d_Program_addThing_73 ?_
    refine mv_iconst (pc := 76) (v := 1) B d_Program_addThing_76 (by decide) ?_
    refine mv_iadd (pc := 77) B d_Program_addThing_77 ?_
    refine mv_putI (pc := 78) (ci := 7) (C := R_Program) (T := F_Program) (N := 19) B 1 rfl rfl (by decide) i_Program t_Program_ok n_Program (B.2.2.2.1 _ k_315) rfl rfl rfl rfl d_Program_addThing_78 ?_
    exact mv_vret (pc := 81) B hr d_Program_addThing_81 (Nat.le_refl _) (Nat.le_refl _) ⟨rfl, _, _, rfl, by first | exact Or.inl ⟨h49, rfl⟩ | exact Or.inr ⟨h49, rfl⟩⟩
  · skip
    refine mv_iconst (pc := 52) (v := 1) B d_Program_addThing_52 (by decide) ?_
    refine mv_goto (pc := 53) (tgt := 57) B d_Program_addThing_53 rfl ?_
    refine mv_iadd (pc := 57) B d_Program_addThing_57 ?_
    refine mv_putI (pc := 58) (ci := 7) (C := R_Program) (T := F_Program) (N := 19) B 6 rfl rfl (by decide) i_Program t_Program_ok n_Program (B.2.2.2.1 _ k_332) rfl rfl rfl rfl d_Program_addThing_58 ?_
    refine mv_aload_n (pc := 61) B d_Program_addThing_61 rfl 0 rfl ?_
    refine mv_dup (pc := 62) B d_Program_addThing_62 rfl ?_
    refine mv_getI (pc := 63) (ci := 7) (C := R_Program) (T := F_Program) (N := 19) B 7 rfl rfl (by decide) i_Program (B.2.2.2.1 _ k_334) rfl d_Program_addThing_63 ?_
    refine mv_iload_n (pc := 66) B d_Program_addThing_66 rfl 2 rfl ?_
    refine mv_iadd (pc := 67) B d_Program_addThing_67 ?_
    refine mv_putI (pc := 68) (ci := 7) (C := R_Program) (T := F_Program) (N := 19) B 7 rfl rfl (by decide) i_Program t_Program_ok n_Program (B.2.2.2.1 _ k_334) rfl rfl rfl rfl d_Program_addThing_68 ?_
    refine mv_aload_n (pc := 71) B d_Program_addThing_71 rfl 0 rfl ?_
    refine mv_dup (pc := 72) B d_Program_addThing_72 rfl ?_
    refine mv_getI (pc := 73) (ci := 7) (C := R_Program) (T := F_Program) (N := 19) B 1 rfl rfl (by decide) i_Program (B.2.2.2.1 _ k_315) rfl d_Program_addThing_73 ?_
    refine mv_iconst (pc := 76) (v := 1) B d_Program_addThing_76 (by decide) ?_
    refine mv_iadd (pc := 77) B d_Program_addThing_77 ?_
    refine mv_putI (pc := 78) (ci := 7) (C := R_Program) (T := F_Program) (N := 19) B 1 rfl rfl (by decide) i_Program t_Program_ok n_Program (B.2.2.2.1 _ k_315) rfl rfl rfl rfl d_Program_addThing_78 ?_
    exact mv_vret (pc := 81) B hr d_Program_addThing_81 (Nat.le_refl _) (Nat.le_refl _) ⟨rfl, _, _, rfl, by first | exact Or.inl ⟨h49, rfl⟩ | exact Or.inr ⟨h49, rfl⟩⟩
def y_Program_emit : MethodName := ⟨"MachineLoom$Program", "emit", "(IJ)I"⟩
abbrev b_Program_emit : ByteArray := prog_7_method_5_code
theorem kc_Program_emit : Cond.code y_Program_emit b_Program_emit 4 (Option.some Jvm.ClassFile.FieldType.int) ∈ ma := ma_of (tb_6 _ (List.mem_of_getElem? (i := 187) rfl)) rfl
theorem k_357 : (Jvm.Cond.fieldLink "MachineLoom$Program" (39 : Nat) "MachineLoom$Program" "does" "[I") ∈ ma := ma_of (tb_2 _ (List.mem_of_getElem? (i := 117) rfl)) rfl
theorem k_359 : (Jvm.Cond.fieldLink "MachineLoom$Program" (42 : Nat) "MachineLoom$Program" "withs" "[J") ∈ ma := ma_of (tb_2 _ (List.mem_of_getElem? (i := 119) rfl)) rfl
theorem d_Program_emit_0 : decode b_Program_emit 0 = .ok (.aload_n 0, 1) := by decide +kernel
theorem d_Program_emit_1 : decode b_Program_emit 1 = .ok (.getfield 76, 3) := by decide +kernel
theorem d_Program_emit_4 : decode b_Program_emit 4 = .ok (.aload_n 0, 1) := by decide +kernel
theorem d_Program_emit_5 : decode b_Program_emit 5 = .ok (.getfield 39, 3) := by decide +kernel
theorem d_Program_emit_8 : decode b_Program_emit 8 = .ok (.arraylength, 1) := by decide +kernel
theorem d_Program_emit_9 : decode b_Program_emit 9 = .ok (.if_icmp .ge (33), 3) := by decide +kernel
theorem d_Program_emit_12 : decode b_Program_emit 12 = .ok (.aload_n 0, 1) := by decide +kernel
theorem d_Program_emit_13 : decode b_Program_emit 13 = .ok (.getfield 39, 3) := by decide +kernel
theorem d_Program_emit_16 : decode b_Program_emit 16 = .ok (.aload_n 0, 1) := by decide +kernel
theorem d_Program_emit_17 : decode b_Program_emit 17 = .ok (.getfield 76, 3) := by decide +kernel
theorem d_Program_emit_20 : decode b_Program_emit 20 = .ok (.iload_n 1, 1) := by decide +kernel
theorem d_Program_emit_21 : decode b_Program_emit 21 = .ok (.iastore, 1) := by decide +kernel
theorem d_Program_emit_22 : decode b_Program_emit 22 = .ok (.aload_n 0, 1) := by decide +kernel
theorem d_Program_emit_23 : decode b_Program_emit 23 = .ok (.getfield 42, 3) := by decide +kernel
theorem d_Program_emit_26 : decode b_Program_emit 26 = .ok (.aload_n 0, 1) := by decide +kernel
theorem d_Program_emit_27 : decode b_Program_emit 27 = .ok (.getfield 76, 3) := by decide +kernel
theorem d_Program_emit_30 : decode b_Program_emit 30 = .ok (.lload_n 2, 1) := by decide +kernel
theorem d_Program_emit_31 : decode b_Program_emit 31 = .ok (.lastore, 1) := by decide +kernel
theorem d_Program_emit_32 : decode b_Program_emit 32 = .ok (.aload_n 0, 1) := by decide +kernel
theorem d_Program_emit_33 : decode b_Program_emit 33 = .ok (.dup, 1) := by decide +kernel
theorem d_Program_emit_34 : decode b_Program_emit 34 = .ok (.getfield 76, 3) := by decide +kernel
theorem d_Program_emit_37 : decode b_Program_emit 37 = .ok (.iconst 1, 1) := by decide +kernel
theorem d_Program_emit_38 : decode b_Program_emit 38 = .ok (.iadd, 1) := by decide +kernel
theorem d_Program_emit_39 : decode b_Program_emit 39 = .ok (.putfield 76, 3) := by decide +kernel
theorem d_Program_emit_42 : decode b_Program_emit 42 = .ok (.aload_n 0, 1) := by decide +kernel
theorem d_Program_emit_43 : decode b_Program_emit 43 = .ok (.getfield 76, 3) := by decide +kernel
theorem d_Program_emit_46 : decode b_Program_emit 46 = .ok (.iconst 1, 1) := by decide +kernel
theorem d_Program_emit_47 : decode b_Program_emit 47 = .ok (.isub, 1) := by decide +kernel
theorem d_Program_emit_48 : decode b_Program_emit 48 = .ok (.ireturn, 1) := by decide +kernel
set_option maxHeartbeats 4000000 in
set_option maxRecDepth 100000 in
theorem c_Program_emit_a (l : Launch) {dA : FieldType → ClassId} {D : va_G} {al : Nat → Nat} {ext : mv_Sh} {sk sv : Nat → Nat} (hi : mv_inj (mg dA D al ext)) (σ : mv_H) (d : Int32) (w : Int64) (hq : Ph 32 (mv_r σ)) (g0 : 0 ≤ (mv_i σ 32 17).toInt) (g1 : (mv_i σ 32 17).toInt < 32768) : mv_C l y_Program_emit (Cond.code y_Program_emit b_Program_emit 4 (Option.some Jvm.ClassFile.FieldType.int) :: ma) ({ frames := 0, cells := 0, slots := 0, locals := 0 }) (mg dA D al ext) (mK sk sv) [.ref (al 32), .int d, .long w] σ (mv_Ri (fun v σ1 => σ1 = pr_emit 32 σ d w ∧ v = mv_i σ 32 17)) := by
  refine mv_C.ofV (cc := b_Program_emit) (nL := 4) (ret := (Option.some Jvm.ClassFile.FieldType.int)) (by decide +kernel) rfl hi (Nat.le_of_ble_eq_true rfl) ?_
  intro p e s m below meth c B hNs hr hnm hno
  refine mv_aload_n (pc := 0) B d_Program_emit_0 rfl 0 rfl ?_
  refine mv_getI (pc := 1) (ci := 7) (C := R_Program) (T := F_Program) (N := 19) B 17 rfl rfl (by decide) i_Program (B.2.2.2.1 _ k_361) rfl d_Program_emit_1 ?_
  refine mv_aload_n (pc := 4) B d_Program_emit_4 rfl 0 rfl ?_
  refine mv_getR (pc := 5) (ci := 7) (C := R_Program) (T := F_Program) (N := 19) B 15 rfl rfl (by decide) i_Program (B.2.2.2.1 _ k_357) rfl (hq _ 15 41 rfl) d_Program_emit_5 ?_
  refine mv_alenI (pc := 8) B rfl rfl d_Program_emit_8 ?_
  refine mv_icmp_ge (pc := 9) (tgt := 42) B d_Program_emit_9 rfl (fun h9 => ?_) (fun h9 => ?_)
  · skip
    exact absurd h9 (by rw [Int32.le_iff_toInt_le]; show ¬ ((32768 : Int) ≤ (mv_i σ 32 17).toInt); omega)
  · skip
    refine mv_aload_n (pc := 12) B d_Program_emit_12 rfl 0 rfl ?_
    refine mv_getR (pc := 13) (ci := 7) (C := R_Program) (T := F_Program) (N := 19) B 15 rfl rfl (by decide) i_Program (B.2.2.2.1 _ k_357) rfl (hq _ 15 41 rfl) d_Program_emit_13 ?_
    refine mv_aload_n (pc := 16) B d_Program_emit_16 rfl 0 rfl ?_
    refine mv_getI (pc := 17) (ci := 7) (C := R_Program) (T := F_Program) (N := 19) B 17 rfl rfl (by decide) i_Program (B.2.2.2.1 _ k_361) rfl d_Program_emit_17 ?_
    refine mv_iload_n (pc := 20) B d_Program_emit_20 rfl 1 rfl ?_
    refine mv_iast (pc := 21) B rfl (i32_in g0 g1) d_Program_emit_21 ?_
    refine mv_aload_n (pc := 22) B d_Program_emit_22 rfl 0 rfl ?_
    refine mv_getR (pc := 23) (ci := 7) (C := R_Program) (T := F_Program) (N := 19) B 16 rfl rfl (by decide) i_Program (B.2.2.2.1 _ k_359) rfl (hq _ 16 42 rfl) d_Program_emit_23 ?_
    refine mv_aload_n (pc := 26) B d_Program_emit_26 rfl 0 rfl ?_
    refine mv_getI (pc := 27) (ci := 7) (C := R_Program) (T := F_Program) (N := 19) B 17 rfl rfl (by decide) i_Program (B.2.2.2.1 _ k_361) rfl d_Program_emit_27 ?_
    refine mv_lload_n (pc := 30) B d_Program_emit_30 rfl 2 rfl ?_
    refine mv_last (pc := 31) B rfl (i32_in g0 g1) d_Program_emit_31 ?_
    refine mv_aload_n (pc := 32) B d_Program_emit_32 rfl 0 rfl ?_
    refine mv_dup (pc := 33) B d_Program_emit_33 rfl ?_
    refine mv_getI (pc := 34) (ci := 7) (C := R_Program) (T := F_Program) (N := 19) B 17 rfl rfl (by decide) i_Program (B.2.2.2.1 _ k_361) rfl d_Program_emit_34 ?_
    refine mv_iconst (pc := 37) (v := 1) B d_Program_emit_37 (by decide) ?_
    refine mv_iadd (pc := 38) B d_Program_emit_38 ?_
    refine mv_putI (pc := 39) (ci := 7) (C := R_Program) (T := F_Program) (N := 19) B 17 rfl rfl (by decide) i_Program t_Program_ok n_Program (B.2.2.2.1 _ k_361) rfl rfl rfl rfl d_Program_emit_39 ?_
    refine mv_aload_n (pc := 42) B d_Program_emit_42 rfl 0 rfl ?_
    refine mv_getI (pc := 43) (ci := 7) (C := R_Program) (T := F_Program) (N := 19) B 17 rfl rfl (by decide) i_Program (B.2.2.2.1 _ k_361) rfl d_Program_emit_43 ?_
    refine mv_iconst (pc := 46) (v := 1) B d_Program_emit_46 (by decide) ?_
    refine mv_isub (pc := 47) B d_Program_emit_47 ?_
    exact mv_iret (pc := 48) B hr rfl d_Program_emit_48 (Nat.le_refl _) (Nat.le_refl _) ⟨_, rfl, rfl, Int32.add_sub_cancel _ _⟩
set_option maxHeartbeats 4000000 in
set_option maxRecDepth 100000 in
theorem c_Program_emit_b (l : Launch) {dA : FieldType → ClassId} {D : va_G} {al : Nat → Nat} {ext : mv_Sh} {sk sv : Nat → Nat} (hi : mv_inj (mg dA D al ext)) (σ : mv_H) (d : Int32) (w : Int64) (hq : Ph 48 (mv_r σ)) (g0 : 0 ≤ (mv_i σ 48 17).toInt) (g1 : (mv_i σ 48 17).toInt < 32768) : mv_C l y_Program_emit (Cond.code y_Program_emit b_Program_emit 4 (Option.some Jvm.ClassFile.FieldType.int) :: ma) ({ frames := 0, cells := 0, slots := 0, locals := 0 }) (mg dA D al ext) (mK sk sv) [.ref (al 48), .int d, .long w] σ (mv_Ri (fun v σ1 => σ1 = pr_emit 48 σ d w ∧ v = mv_i σ 48 17)) := by
  refine mv_C.ofV (cc := b_Program_emit) (nL := 4) (ret := (Option.some Jvm.ClassFile.FieldType.int)) (by decide +kernel) rfl hi (Nat.le_of_ble_eq_true rfl) ?_
  intro p e s m below meth c B hNs hr hnm hno
  refine mv_aload_n (pc := 0) B d_Program_emit_0 rfl 0 rfl ?_
  refine mv_getI (pc := 1) (ci := 7) (C := R_Program) (T := F_Program) (N := 19) B 17 rfl rfl (by decide) i_Program (B.2.2.2.1 _ k_361) rfl d_Program_emit_1 ?_
  refine mv_aload_n (pc := 4) B d_Program_emit_4 rfl 0 rfl ?_
  refine mv_getR (pc := 5) (ci := 7) (C := R_Program) (T := F_Program) (N := 19) B 15 rfl rfl (by decide) i_Program (B.2.2.2.1 _ k_357) rfl (hq _ 15 57 rfl) d_Program_emit_5 ?_
  refine mv_alenI (pc := 8) B rfl rfl d_Program_emit_8 ?_
  refine mv_icmp_ge (pc := 9) (tgt := 42) B d_Program_emit_9 rfl (fun h9 => ?_) (fun h9 => ?_)
  · skip
    exact absurd h9 (by rw [Int32.le_iff_toInt_le]; show ¬ ((32768 : Int) ≤ (mv_i σ 48 17).toInt); omega)
  · skip
    refine mv_aload_n (pc := 12) B d_Program_emit_12 rfl 0 rfl ?_
    refine mv_getR (pc := 13) (ci := 7) (C := R_Program) (T := F_Program) (N := 19) B 15 rfl rfl (by decide) i_Program (B.2.2.2.1 _ k_357) rfl (hq _ 15 57 rfl) d_Program_emit_13 ?_
    refine mv_aload_n (pc := 16) B d_Program_emit_16 rfl 0 rfl ?_
    refine mv_getI (pc := 17) (ci := 7) (C := R_Program) (T := F_Program) (N := 19) B 17 rfl rfl (by decide) i_Program (B.2.2.2.1 _ k_361) rfl d_Program_emit_17 ?_
    refine mv_iload_n (pc := 20) B d_Program_emit_20 rfl 1 rfl ?_
    refine mv_iast (pc := 21) B rfl (i32_in g0 g1) d_Program_emit_21 ?_
    refine mv_aload_n (pc := 22) B d_Program_emit_22 rfl 0 rfl ?_
    refine mv_getR (pc := 23) (ci := 7) (C := R_Program) (T := F_Program) (N := 19) B 16 rfl rfl (by decide) i_Program (B.2.2.2.1 _ k_359) rfl (hq _ 16 58 rfl) d_Program_emit_23 ?_
    refine mv_aload_n (pc := 26) B d_Program_emit_26 rfl 0 rfl ?_
    refine mv_getI (pc := 27) (ci := 7) (C := R_Program) (T := F_Program) (N := 19) B 17 rfl rfl (by decide) i_Program (B.2.2.2.1 _ k_361) rfl d_Program_emit_27 ?_
    refine mv_lload_n (pc := 30) B d_Program_emit_30 rfl 2 rfl ?_
    refine mv_last (pc := 31) B rfl (i32_in g0 g1) d_Program_emit_31 ?_
    refine mv_aload_n (pc := 32) B d_Program_emit_32 rfl 0 rfl ?_
    refine mv_dup (pc := 33) B d_Program_emit_33 rfl ?_
    refine mv_getI (pc := 34) (ci := 7) (C := R_Program) (T := F_Program) (N := 19) B 17 rfl rfl (by decide) i_Program (B.2.2.2.1 _ k_361) rfl d_Program_emit_34 ?_
    refine mv_iconst (pc := 37) (v := 1) B d_Program_emit_37 (by decide) ?_
    refine mv_iadd (pc := 38) B d_Program_emit_38 ?_
    refine mv_putI (pc := 39) (ci := 7) (C := R_Program) (T := F_Program) (N := 19) B 17 rfl rfl (by decide) i_Program t_Program_ok n_Program (B.2.2.2.1 _ k_361) rfl rfl rfl rfl d_Program_emit_39 ?_
    refine mv_aload_n (pc := 42) B d_Program_emit_42 rfl 0 rfl ?_
    refine mv_getI (pc := 43) (ci := 7) (C := R_Program) (T := F_Program) (N := 19) B 17 rfl rfl (by decide) i_Program (B.2.2.2.1 _ k_361) rfl d_Program_emit_43 ?_
    refine mv_iconst (pc := 46) (v := 1) B d_Program_emit_46 (by decide) ?_
    refine mv_isub (pc := 47) B d_Program_emit_47 ?_
    exact mv_iret (pc := 48) B hr rfl d_Program_emit_48 (Nat.le_refl _) (Nat.le_refl _) ⟨_, rfl, rfl, Int32.add_sub_cancel _ _⟩
set_option maxHeartbeats 4000000 in
set_option maxRecDepth 100000 in
theorem c_Program_emit_c (l : Launch) {dA : FieldType → ClassId} {D : va_G} {al : Nat → Nat} {sk sv : Nat → Nat} (hi : mv_inj (mg dA D al me)) (σ : mv_H) (d : Int32) (w : Int64) (hq : Ph 145 (mv_r σ)) (g0 : 0 ≤ (mv_i σ 145 17).toInt) (g1 : (mv_i σ 145 17).toInt < 8192) : mv_C l y_Program_emit (Cond.code y_Program_emit b_Program_emit 4 (Option.some Jvm.ClassFile.FieldType.int) :: ma) ({ frames := 0, cells := 0, slots := 0, locals := 0 }) (mg dA D al me) (mK sk sv) [.ref (al 145), .int d, .long w] σ (mv_Ri (fun v σ1 => σ1 = pr_emit 145 σ d w ∧ v = mv_i σ 145 17)) := by
  refine mv_C.ofV (cc := b_Program_emit) (nL := 4) (ret := (Option.some Jvm.ClassFile.FieldType.int)) (by decide +kernel) rfl hi (Nat.le_of_ble_eq_true rfl) ?_
  intro p e s m below meth c B hNs hr hnm hno
  refine mv_aload_n (pc := 0) B d_Program_emit_0 rfl 0 rfl ?_
  refine mv_getI (pc := 1) (ci := 7) (C := R_Program) (T := F_Program) (N := 19) B 17 rfl rfl (by decide) i_Program (B.2.2.2.1 _ k_361) rfl d_Program_emit_1 ?_
  refine mv_aload_n (pc := 4) B d_Program_emit_4 rfl 0 rfl ?_
  refine mv_getR (pc := 5) (ci := 7) (C := R_Program) (T := F_Program) (N := 19) B 15 rfl rfl (by decide) i_Program (B.2.2.2.1 _ k_357) rfl (hq _ 15 154 rfl) d_Program_emit_5 ?_
  refine mv_alenI (pc := 8) B rfl rfl d_Program_emit_8 ?_
  refine mv_icmp_ge (pc := 9) (tgt := 42) B d_Program_emit_9 rfl (fun h9 => ?_) (fun h9 => ?_)
  · skip
    exact absurd h9 (by rw [Int32.le_iff_toInt_le]; show ¬ ((8192 : Int) ≤ (mv_i σ 145 17).toInt); omega)
  · skip
    refine mv_aload_n (pc := 12) B d_Program_emit_12 rfl 0 rfl ?_
    refine mv_getR (pc := 13) (ci := 7) (C := R_Program) (T := F_Program) (N := 19) B 15 rfl rfl (by decide) i_Program (B.2.2.2.1 _ k_357) rfl (hq _ 15 154 rfl) d_Program_emit_13 ?_
    refine mv_aload_n (pc := 16) B d_Program_emit_16 rfl 0 rfl ?_
    refine mv_getI (pc := 17) (ci := 7) (C := R_Program) (T := F_Program) (N := 19) B 17 rfl rfl (by decide) i_Program (B.2.2.2.1 _ k_361) rfl d_Program_emit_17 ?_
    refine mv_iload_n (pc := 20) B d_Program_emit_20 rfl 1 rfl ?_
    refine mv_iast (pc := 21) B rfl (i32_in g0 g1) d_Program_emit_21 ?_
    refine mv_aload_n (pc := 22) B d_Program_emit_22 rfl 0 rfl ?_
    refine mv_getR (pc := 23) (ci := 7) (C := R_Program) (T := F_Program) (N := 19) B 16 rfl rfl (by decide) i_Program (B.2.2.2.1 _ k_359) rfl (hq _ 16 155 rfl) d_Program_emit_23 ?_
    refine mv_aload_n (pc := 26) B d_Program_emit_26 rfl 0 rfl ?_
    refine mv_getI (pc := 27) (ci := 7) (C := R_Program) (T := F_Program) (N := 19) B 17 rfl rfl (by decide) i_Program (B.2.2.2.1 _ k_361) rfl d_Program_emit_27 ?_
    refine mv_lload_n (pc := 30) B d_Program_emit_30 rfl 2 rfl ?_
    refine mv_last (pc := 31) B rfl (i32_in g0 g1) d_Program_emit_31 ?_
    refine mv_aload_n (pc := 32) B d_Program_emit_32 rfl 0 rfl ?_
    refine mv_dup (pc := 33) B d_Program_emit_33 rfl ?_
    refine mv_getI (pc := 34) (ci := 7) (C := R_Program) (T := F_Program) (N := 19) B 17 rfl rfl (by decide) i_Program (B.2.2.2.1 _ k_361) rfl d_Program_emit_34 ?_
    refine mv_iconst (pc := 37) (v := 1) B d_Program_emit_37 (by decide) ?_
    refine mv_iadd (pc := 38) B d_Program_emit_38 ?_
    refine mv_putI (pc := 39) (ci := 7) (C := R_Program) (T := F_Program) (N := 19) B 17 rfl rfl (by decide) i_Program t_Program_ok n_Program (B.2.2.2.1 _ k_361) rfl rfl rfl rfl d_Program_emit_39 ?_
    refine mv_aload_n (pc := 42) B d_Program_emit_42 rfl 0 rfl ?_
    refine mv_getI (pc := 43) (ci := 7) (C := R_Program) (T := F_Program) (N := 19) B 17 rfl rfl (by decide) i_Program (B.2.2.2.1 _ k_361) rfl d_Program_emit_43 ?_
    refine mv_iconst (pc := 46) (v := 1) B d_Program_emit_46 (by decide) ?_
    refine mv_isub (pc := 47) B d_Program_emit_47 ?_
    exact mv_iret (pc := 48) B hr rfl d_Program_emit_48 (Nat.le_refl _) (Nat.le_refl _) ⟨_, rfl, rfl, Int32.add_sub_cancel _ _⟩
def y_Program_aim : MethodName := ⟨"MachineLoom$Program", "aim", "(I)V"⟩
abbrev b_Program_aim : ByteArray := prog_7_method_6_code
theorem kc_Program_aim : Cond.code y_Program_aim b_Program_aim 2 (Option.none : Option Jvm.ClassFile.FieldType) ∈ ma := ma_of (tb_6 _ (List.mem_of_getElem? (i := 205) rfl)) rfl
theorem d_Program_aim_0 : decode b_Program_aim 0 = .ok (.iload_n 1, 1) := by decide +kernel
theorem d_Program_aim_1 : decode b_Program_aim 1 = .ok (.ifCond .lt (14), 3) := by decide +kernel
theorem d_Program_aim_4 : decode b_Program_aim 4 = .ok (.aload_n 0, 1) := by decide +kernel
theorem d_Program_aim_5 : decode b_Program_aim 5 = .ok (.getfield 42, 3) := by decide +kernel
theorem d_Program_aim_8 : decode b_Program_aim 8 = .ok (.iload_n 1, 1) := by decide +kernel
theorem d_Program_aim_9 : decode b_Program_aim 9 = .ok (.aload_n 0, 1) := by decide +kernel
theorem d_Program_aim_10 : decode b_Program_aim 10 = .ok (.getfield 76, 3) := by decide +kernel
theorem d_Program_aim_13 : decode b_Program_aim 13 = .ok (.i2l, 1) := by decide +kernel
theorem d_Program_aim_14 : decode b_Program_aim 14 = .ok (.lastore, 1) := by decide +kernel
theorem d_Program_aim_15 : decode b_Program_aim 15 = .ok (.return_, 1) := by decide +kernel
set_option maxHeartbeats 4000000 in
set_option maxRecDepth 100000 in
theorem c_Program_aim_a (l : Launch) {dA : FieldType → ClassId} {D : va_G} {al : Nat → Nat} {ext : mv_Sh} {sk sv : Nat → Nat} (hi : mv_inj (mg dA D al ext)) (σ : mv_H) (k : Int32) (hq : Ph 32 (mv_r σ)) (g1 : k.toInt < 32768) : mv_C l y_Program_aim (Cond.code y_Program_aim b_Program_aim 2 (Option.none : Option Jvm.ClassFile.FieldType) :: ma) ({ frames := 0, cells := 0, slots := 0, locals := 0 }) (mg dA D al ext) (mK sk sv) [.ref (al 32), .int k] σ (mv_Rv (fun σ1 => (k.toInt < 0 ∧ σ1 = σ) ∨ (0 ≤ k.toInt ∧ σ1 = mv_sb σ 42 k.toNatClampNeg (mv_i σ 32 17).toInt64))) := by
  refine mv_C.ofV (cc := b_Program_aim) (nL := 2) (ret := (Option.none : Option Jvm.ClassFile.FieldType)) (by decide +kernel) rfl hi (Nat.le_of_ble_eq_true rfl) ?_
  intro p e s m below meth c B hNs hr hnm hno
  refine mv_iload_n (pc := 0) B d_Program_aim_0 rfl 1 rfl ?_
  refine mv_if_lt (pc := 1) (tgt := 15) B d_Program_aim_1 rfl (fun h1 => ?_) (fun h1 => ?_)
  · skip
    rw [Int32.lt_iff_toInt_lt] at h1
    simp only [Int32.reduceToInt] at h1
    exact mv_vret (pc := 15) B hr d_Program_aim_15 (Nat.le_refl _) (Nat.le_refl _) ⟨rfl, by first | exact Or.inl ⟨h1, rfl⟩ | exact Or.inr ⟨g0, rfl⟩⟩
  · skip
    rw [Int32.lt_iff_toInt_lt] at h1
    simp only [Int32.reduceToInt] at h1
    have g0 : 0 ≤ k.toInt := by omega
    refine mv_aload_n (pc := 4) B d_Program_aim_4 rfl 0 rfl ?_
    refine mv_getR (pc := 5) (ci := 7) (C := R_Program) (T := F_Program) (N := 19) B 16 rfl rfl (by decide) i_Program (B.2.2.2.1 _ k_359) rfl (hq _ 16 42 rfl) d_Program_aim_5 ?_
    refine mv_iload_n (pc := 8) B d_Program_aim_8 rfl 1 rfl ?_
    refine mv_aload_n (pc := 9) B d_Program_aim_9 rfl 0 rfl ?_
    refine mv_getI (pc := 10) (ci := 7) (C := R_Program) (T := F_Program) (N := 19) B 17 rfl rfl (by decide) i_Program (B.2.2.2.1 _ k_361) rfl d_Program_aim_10 ?_
    refine mv_i2l (pc := 13) B d_Program_aim_13 ?_
    refine mv_last (pc := 14) B rfl (i32_in g0 g1) d_Program_aim_14 ?_
    exact mv_vret (pc := 15) B hr d_Program_aim_15 (Nat.le_refl _) (Nat.le_refl _) ⟨rfl, by first | exact Or.inl ⟨h1, rfl⟩ | exact Or.inr ⟨g0, rfl⟩⟩
set_option maxHeartbeats 4000000 in
set_option maxRecDepth 100000 in
theorem c_Program_aim_b (l : Launch) {dA : FieldType → ClassId} {D : va_G} {al : Nat → Nat} {ext : mv_Sh} {sk sv : Nat → Nat} (hi : mv_inj (mg dA D al ext)) (σ : mv_H) (k : Int32) (hq : Ph 48 (mv_r σ)) (g1 : k.toInt < 32768) : mv_C l y_Program_aim (Cond.code y_Program_aim b_Program_aim 2 (Option.none : Option Jvm.ClassFile.FieldType) :: ma) ({ frames := 0, cells := 0, slots := 0, locals := 0 }) (mg dA D al ext) (mK sk sv) [.ref (al 48), .int k] σ (mv_Rv (fun σ1 => (k.toInt < 0 ∧ σ1 = σ) ∨ (0 ≤ k.toInt ∧ σ1 = mv_sb σ 58 k.toNatClampNeg (mv_i σ 48 17).toInt64))) := by
  refine mv_C.ofV (cc := b_Program_aim) (nL := 2) (ret := (Option.none : Option Jvm.ClassFile.FieldType)) (by decide +kernel) rfl hi (Nat.le_of_ble_eq_true rfl) ?_
  intro p e s m below meth c B hNs hr hnm hno
  refine mv_iload_n (pc := 0) B d_Program_aim_0 rfl 1 rfl ?_
  refine mv_if_lt (pc := 1) (tgt := 15) B d_Program_aim_1 rfl (fun h1 => ?_) (fun h1 => ?_)
  · skip
    rw [Int32.lt_iff_toInt_lt] at h1
    simp only [Int32.reduceToInt] at h1
    exact mv_vret (pc := 15) B hr d_Program_aim_15 (Nat.le_refl _) (Nat.le_refl _) ⟨rfl, by first | exact Or.inl ⟨h1, rfl⟩ | exact Or.inr ⟨g0, rfl⟩⟩
  · skip
    rw [Int32.lt_iff_toInt_lt] at h1
    simp only [Int32.reduceToInt] at h1
    have g0 : 0 ≤ k.toInt := by omega
    refine mv_aload_n (pc := 4) B d_Program_aim_4 rfl 0 rfl ?_
    refine mv_getR (pc := 5) (ci := 7) (C := R_Program) (T := F_Program) (N := 19) B 16 rfl rfl (by decide) i_Program (B.2.2.2.1 _ k_359) rfl (hq _ 16 58 rfl) d_Program_aim_5 ?_
    refine mv_iload_n (pc := 8) B d_Program_aim_8 rfl 1 rfl ?_
    refine mv_aload_n (pc := 9) B d_Program_aim_9 rfl 0 rfl ?_
    refine mv_getI (pc := 10) (ci := 7) (C := R_Program) (T := F_Program) (N := 19) B 17 rfl rfl (by decide) i_Program (B.2.2.2.1 _ k_361) rfl d_Program_aim_10 ?_
    refine mv_i2l (pc := 13) B d_Program_aim_13 ?_
    refine mv_last (pc := 14) B rfl (i32_in g0 g1) d_Program_aim_14 ?_
    exact mv_vret (pc := 15) B hr d_Program_aim_15 (Nat.le_refl _) (Nat.le_refl _) ⟨rfl, by first | exact Or.inl ⟨h1, rfl⟩ | exact Or.inr ⟨g0, rfl⟩⟩
set_option maxHeartbeats 4000000 in
set_option maxRecDepth 100000 in
theorem c_Program_aim_c (l : Launch) {dA : FieldType → ClassId} {D : va_G} {al : Nat → Nat} {sk sv : Nat → Nat} (hi : mv_inj (mg dA D al me)) (σ : mv_H) (k : Int32) (hq : Ph 145 (mv_r σ)) (g1 : k.toInt < 8192) : mv_C l y_Program_aim (Cond.code y_Program_aim b_Program_aim 2 (Option.none : Option Jvm.ClassFile.FieldType) :: ma) ({ frames := 0, cells := 0, slots := 0, locals := 0 }) (mg dA D al me) (mK sk sv) [.ref (al 145), .int k] σ (mv_Rv (fun σ1 => (k.toInt < 0 ∧ σ1 = σ) ∨ (0 ≤ k.toInt ∧ σ1 = mv_sb σ 155 k.toNatClampNeg (mv_i σ 145 17).toInt64))) := by
  refine mv_C.ofV (cc := b_Program_aim) (nL := 2) (ret := (Option.none : Option Jvm.ClassFile.FieldType)) (by decide +kernel) rfl hi (Nat.le_of_ble_eq_true rfl) ?_
  intro p e s m below meth c B hNs hr hnm hno
  refine mv_iload_n (pc := 0) B d_Program_aim_0 rfl 1 rfl ?_
  refine mv_if_lt (pc := 1) (tgt := 15) B d_Program_aim_1 rfl (fun h1 => ?_) (fun h1 => ?_)
  · skip
    rw [Int32.lt_iff_toInt_lt] at h1
    simp only [Int32.reduceToInt] at h1
    exact mv_vret (pc := 15) B hr d_Program_aim_15 (Nat.le_refl _) (Nat.le_refl _) ⟨rfl, by first | exact Or.inl ⟨h1, rfl⟩ | exact Or.inr ⟨g0, rfl⟩⟩
  · skip
    rw [Int32.lt_iff_toInt_lt] at h1
    simp only [Int32.reduceToInt] at h1
    have g0 : 0 ≤ k.toInt := by omega
    refine mv_aload_n (pc := 4) B d_Program_aim_4 rfl 0 rfl ?_
    refine mv_getR (pc := 5) (ci := 7) (C := R_Program) (T := F_Program) (N := 19) B 16 rfl rfl (by decide) i_Program (B.2.2.2.1 _ k_359) rfl (hq _ 16 155 rfl) d_Program_aim_5 ?_
    refine mv_iload_n (pc := 8) B d_Program_aim_8 rfl 1 rfl ?_
    refine mv_aload_n (pc := 9) B d_Program_aim_9 rfl 0 rfl ?_
    refine mv_getI (pc := 10) (ci := 7) (C := R_Program) (T := F_Program) (N := 19) B 17 rfl rfl (by decide) i_Program (B.2.2.2.1 _ k_361) rfl d_Program_aim_10 ?_
    refine mv_i2l (pc := 13) B d_Program_aim_13 ?_
    refine mv_last (pc := 14) B rfl (i32_in g0 g1) d_Program_aim_14 ?_
    exact mv_vret (pc := 15) B hr d_Program_aim_15 (Nat.le_refl _) (Nat.le_refl _) ⟨rfl, by first | exact Or.inl ⟨h1, rfl⟩ | exact Or.inr ⟨g0, rfl⟩⟩
