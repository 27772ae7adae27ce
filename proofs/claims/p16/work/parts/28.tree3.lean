/-! Tree -/
def tr_leaf (P : Nat) (σ : mv_H) (a b : Int32) : mv_H := mv_si (mv_sa (mv_sa (mv_sa σ (P + 13) (mv_i σ (P + 11) 4).toNatClampNeg (-1)) (P + 14) (mv_i σ (P + 11) 4).toNatClampNeg a) (P + 15) (mv_i σ (P + 11) 4).toNatClampNeg b) (P + 11) 4 (mv_i σ (P + 11) 4 + 1)
def tB (P : Nat) (σ : mv_H) (b i : Nat) : Bool := Bt (mv_b σ (P + 6)) (mv_a σ (P + 12)) b i
theorem or_bit {x y : Int64} {b : Nat} (h : (x ||| y).toBitVec.getLsbD b = true) : x.toBitVec.getLsbD b = true ∨ y.toBitVec.getLsbD b = true := by
  rw [Int64.toBitVec_or, BitVec.getLsbD_or, Bool.or_eq_true] at h
  exact h
theorem and_bit {x y : Int64} {b : Nat} (h : (x &&& y).toBitVec.getLsbD b = true) : x.toBitVec.getLsbD b = true ∧ y.toBitVec.getLsbD b = true := by
  rw [Int64.toBitVec_and, BitVec.getLsbD_and, Bool.and_eq_true] at h
  exact h
theorem not_bit {x : Int64} {b : Nat} (h : (x ^^^ (-1)).toBitVec.getLsbD b = true) : x.toBitVec.getLsbD b = false := by
  have hb : b < 64 := BitVec.lt_of_getLsbD h
  rw [Int64.toBitVec_xor, BitVec.getLsbD_xor] at h
  have e : (Int64.toBitVec (-1)).getLsbD b = true := by
    have e2 : Int64.toBitVec (-1) = BitVec.allOnes 64 := by decide
    rw [e2, BitVec.getLsbD_allOnes]
    exact decide_eq_true hb
  rw [e] at h
  cases hx : x.toBitVec.getLsbD b
  · rfl
  · rw [hx] at h; cases h
theorem zero_bit {b : Nat} {P : Prop} (h : (0 : Int64).toBitVec.getLsbD b = true) : P := by
  have e : (0 : Int64).toBitVec = 0#64 := by decide
  rw [e, BitVec.getLsbD_zero] at h
  cases h
def y_Tree_addLeaf : MethodName := ⟨"MachineLoom$Tree", "addLeaf", "(II)V"⟩
abbrev b_Tree_addLeaf : ByteArray := prog_11_method_3_code
theorem kc_Tree_addLeaf : Cond.code y_Tree_addLeaf b_Tree_addLeaf 3 (Option.none : Option Jvm.ClassFile.FieldType) ∈ ma := ma_of (tb_2 _ (List.mem_of_getElem? (i := 177) rfl)) rfl
theorem k_293 : (Jvm.Cond.fieldLink "MachineLoom$Tree" (15 : Nat) "MachineLoom$Tree" "bits" "[I") ∈ ma := ma_of (tb_2 _ (List.mem_of_getElem? (i := 53) rfl)) rfl
theorem k_298 : (Jvm.Cond.fieldLink "MachineLoom$Tree" (30 : Nat) "MachineLoom$Tree" "nodes" "I") ∈ ma := ma_of (tb_2 _ (List.mem_of_getElem? (i := 58) rfl)) rfl
theorem k_294 : (Jvm.Cond.fieldLink "MachineLoom$Tree" (18 : Nat) "MachineLoom$Tree" "lows" "[I") ∈ ma := ma_of (tb_2 _ (List.mem_of_getElem? (i := 54) rfl)) rfl
theorem k_296 : (Jvm.Cond.fieldLink "MachineLoom$Tree" (21 : Nat) "MachineLoom$Tree" "highs" "[I") ∈ ma := ma_of (tb_2 _ (List.mem_of_getElem? (i := 56) rfl)) rfl
theorem d_Tree_addLeaf_0 : decode b_Tree_addLeaf 0 = .ok (.aload_n 0, 1) := by decide +kernel
theorem d_Tree_addLeaf_1 : decode b_Tree_addLeaf 1 = .ok (.getfield 15, 3) := by decide +kernel
theorem d_Tree_addLeaf_4 : decode b_Tree_addLeaf 4 = .ok (.aload_n 0, 1) := by decide +kernel
theorem d_Tree_addLeaf_5 : decode b_Tree_addLeaf 5 = .ok (.getfield 30, 3) := by decide +kernel
theorem d_Tree_addLeaf_8 : decode b_Tree_addLeaf 8 = .ok (.iconst (-1), 1) := by decide +kernel
theorem d_Tree_addLeaf_9 : decode b_Tree_addLeaf 9 = .ok (.iastore, 1) := by decide +kernel
theorem d_Tree_addLeaf_10 : decode b_Tree_addLeaf 10 = .ok (.aload_n 0, 1) := by decide +kernel
theorem d_Tree_addLeaf_11 : decode b_Tree_addLeaf 11 = .ok (.getfield 18, 3) := by decide +kernel
theorem d_Tree_addLeaf_14 : decode b_Tree_addLeaf 14 = .ok (.aload_n 0, 1) := by decide +kernel
theorem d_Tree_addLeaf_15 : decode b_Tree_addLeaf 15 = .ok (.getfield 30, 3) := by decide +kernel
theorem d_Tree_addLeaf_18 : decode b_Tree_addLeaf 18 = .ok (.iload_n 1, 1) := by decide +kernel
theorem d_Tree_addLeaf_19 : decode b_Tree_addLeaf 19 = .ok (.iastore, 1) := by decide +kernel
theorem d_Tree_addLeaf_20 : decode b_Tree_addLeaf 20 = .ok (.aload_n 0, 1) := by decide +kernel
theorem d_Tree_addLeaf_21 : decode b_Tree_addLeaf 21 = .ok (.getfield 21, 3) := by decide +kernel
theorem d_Tree_addLeaf_24 : decode b_Tree_addLeaf 24 = .ok (.aload_n 0, 1) := by decide +kernel
theorem d_Tree_addLeaf_25 : decode b_Tree_addLeaf 25 = .ok (.getfield 30, 3) := by decide +kernel
theorem d_Tree_addLeaf_28 : decode b_Tree_addLeaf 28 = .ok (.iload_n 2, 1) := by decide +kernel
theorem d_Tree_addLeaf_29 : decode b_Tree_addLeaf 29 = .ok (.iastore, 1) := by decide +kernel
theorem d_Tree_addLeaf_30 : decode b_Tree_addLeaf 30 = .ok (.aload_n 0, 1) := by decide +kernel
theorem d_Tree_addLeaf_31 : decode b_Tree_addLeaf 31 = .ok (.dup, 1) := by decide +kernel
theorem d_Tree_addLeaf_32 : decode b_Tree_addLeaf 32 = .ok (.getfield 30, 3) := by decide +kernel
theorem d_Tree_addLeaf_35 : decode b_Tree_addLeaf 35 = .ok (.iconst 1, 1) := by decide +kernel
theorem d_Tree_addLeaf_36 : decode b_Tree_addLeaf 36 = .ok (.iadd, 1) := by decide +kernel
theorem d_Tree_addLeaf_37 : decode b_Tree_addLeaf 37 = .ok (.putfield 30, 3) := by decide +kernel
theorem d_Tree_addLeaf_40 : decode b_Tree_addLeaf 40 = .ok (.return_, 1) := by decide +kernel
set_option maxHeartbeats 4000000 in
set_option maxRecDepth 100000 in
theorem c_Tree_addLeaf_a (l : Launch) {dA : FieldType → ClassId} {D : va_G} {al : Nat → Nat} {ext : mv_Sh} {sk sv : Nat → Nat} (hi : mv_inj (mg dA D al ext)) (σ : mv_H) (a b : Int32) (hq : Ph 32 (mv_r σ)) (g0 : 0 ≤ (mv_i σ 43 4).toInt) (g1 : (mv_i σ 43 4).toInt < 1025) : mv_C l y_Tree_addLeaf (Cond.code y_Tree_addLeaf b_Tree_addLeaf 3 (Option.none : Option Jvm.ClassFile.FieldType) :: ma) ({ frames := 0, cells := 0, slots := 0, locals := 0 }) (mg dA D al ext) (mK sk sv) [.ref (al 43), .int a, .int b] σ (mv_Rv (fun σ1 => σ1 = tr_leaf 32 σ a b)) := by
  refine mv_C.ofV (cc := b_Tree_addLeaf) (nL := 3) (ret := (Option.none : Option Jvm.ClassFile.FieldType)) (by decide +kernel) rfl hi (Nat.le_of_ble_eq_true rfl) ?_
  intro p e s m below meth c B hNs hr hnm hno
  refine mv_aload_n (pc := 0) B d_Tree_addLeaf_0 rfl 0 rfl ?_
  refine mv_getR (pc := 1) (ci := 8) (C := R_Tree) (T := F_Tree) (N := 5) B 1 rfl rfl (by decide) i_Tree (B.2.2.2.1 _ k_293) rfl (hq _ 1 45 rfl) d_Tree_addLeaf_1 ?_
  refine mv_aload_n (pc := 4) B d_Tree_addLeaf_4 rfl 0 rfl ?_
  refine mv_getI (pc := 5) (ci := 8) (C := R_Tree) (T := F_Tree) (N := 5) B 4 rfl rfl (by decide) i_Tree (B.2.2.2.1 _ k_298) rfl d_Tree_addLeaf_5 ?_
  refine mv_iconst (pc := 8) (v := -1) B d_Tree_addLeaf_8 (by decide) ?_
  refine mv_iast (pc := 9) B rfl (i32_in g0 g1) d_Tree_addLeaf_9 ?_
  refine mv_aload_n (pc := 10) B d_Tree_addLeaf_10 rfl 0 rfl ?_
  refine mv_getR (pc := 11) (ci := 8) (C := R_Tree) (T := F_Tree) (N := 5) B 2 rfl rfl (by decide) i_Tree (B.2.2.2.1 _ k_294) rfl (hq _ 2 46 rfl) d_Tree_addLeaf_11 ?_
  refine mv_aload_n (pc := 14) B d_Tree_addLeaf_14 rfl 0 rfl ?_
  refine mv_getI (pc := 15) (ci := 8) (C := R_Tree) (T := F_Tree) (N := 5) B 4 rfl rfl (by decide) i_Tree (B.2.2.2.1 _ k_298) rfl d_Tree_addLeaf_15 ?_
  refine mv_iload_n (pc := 18) B d_Tree_addLeaf_18 rfl 1 rfl ?_
  refine mv_iast (pc := 19) B rfl (i32_in g0 g1) d_Tree_addLeaf_19 ?_
  refine mv_aload_n (pc := 20) B d_Tree_addLeaf_20 rfl 0 rfl ?_
  refine mv_getR (pc := 21) (ci := 8) (C := R_Tree) (T := F_Tree) (N := 5) B 3 rfl rfl (by decide) i_Tree (B.2.2.2.1 _ k_296) rfl (hq _ 3 47 rfl) d_Tree_addLeaf_21 ?_
  refine mv_aload_n (pc := 24) B d_Tree_addLeaf_24 rfl 0 rfl ?_
  refine mv_getI (pc := 25) (ci := 8) (C := R_Tree) (T := F_Tree) (N := 5) B 4 rfl rfl (by decide) i_Tree (B.2.2.2.1 _ k_298) rfl d_Tree_addLeaf_25 ?_
  refine mv_iload_n (pc := 28) B d_Tree_addLeaf_28 rfl 2 rfl ?_
  refine mv_iast (pc := 29) B rfl (i32_in g0 g1) d_Tree_addLeaf_29 ?_
  refine mv_aload_n (pc := 30) B d_Tree_addLeaf_30 rfl 0 rfl ?_
  refine mv_dup (pc := 31) B d_Tree_addLeaf_31 rfl ?_
  refine mv_getI (pc := 32) (ci := 8) (C := R_Tree) (T := F_Tree) (N := 5) B 4 rfl rfl (by decide) i_Tree (B.2.2.2.1 _ k_298) rfl d_Tree_addLeaf_32 ?_
  refine mv_iconst (pc := 35) (v := 1) B d_Tree_addLeaf_35 (by decide) ?_
  refine mv_iadd (pc := 36) B d_Tree_addLeaf_36 ?_
  refine mv_putI (pc := 37) (ci := 8) (C := R_Tree) (T := F_Tree) (N := 5) B 4 rfl rfl (by decide) i_Tree t_Tree_ok n_Tree (B.2.2.2.1 _ k_298) rfl rfl rfl rfl d_Tree_addLeaf_37 ?_
  exact mv_vret (pc := 40) B hr d_Tree_addLeaf_40 (Nat.le_refl _) (Nat.le_refl _) ⟨rfl, rfl⟩
set_option maxHeartbeats 4000000 in
set_option maxRecDepth 100000 in
theorem c_Tree_addLeaf_b (l : Launch) {dA : FieldType → ClassId} {D : va_G} {al : Nat → Nat} {ext : mv_Sh} {sk sv : Nat → Nat} (hi : mv_inj (mg dA D al ext)) (σ : mv_H) (a b : Int32) (hq : Ph 48 (mv_r σ)) (g0 : 0 ≤ (mv_i σ 59 4).toInt) (g1 : (mv_i σ 59 4).toInt < 1025) : mv_C l y_Tree_addLeaf (Cond.code y_Tree_addLeaf b_Tree_addLeaf 3 (Option.none : Option Jvm.ClassFile.FieldType) :: ma) ({ frames := 0, cells := 0, slots := 0, locals := 0 }) (mg dA D al ext) (mK sk sv) [.ref (al 59), .int a, .int b] σ (mv_Rv (fun σ1 => σ1 = tr_leaf 48 σ a b)) := by
  refine mv_C.ofV (cc := b_Tree_addLeaf) (nL := 3) (ret := (Option.none : Option Jvm.ClassFile.FieldType)) (by decide +kernel) rfl hi (Nat.le_of_ble_eq_true rfl) ?_
  intro p e s m below meth c B hNs hr hnm hno
  refine mv_aload_n (pc := 0) B d_Tree_addLeaf_0 rfl 0 rfl ?_
  refine mv_getR (pc := 1) (ci := 8) (C := R_Tree) (T := F_Tree) (N := 5) B 1 rfl rfl (by decide) i_Tree (B.2.2.2.1 _ k_293) rfl (hq _ 1 61 rfl) d_Tree_addLeaf_1 ?_
  refine mv_aload_n (pc := 4) B d_Tree_addLeaf_4 rfl 0 rfl ?_
  refine mv_getI (pc := 5) (ci := 8) (C := R_Tree) (T := F_Tree) (N := 5) B 4 rfl rfl (by decide) i_Tree (B.2.2.2.1 _ k_298) rfl d_Tree_addLeaf_5 ?_
  refine mv_iconst (pc := 8) (v := -1) B d_Tree_addLeaf_8 (by decide) ?_
  refine mv_iast (pc := 9) B rfl (i32_in g0 g1) d_Tree_addLeaf_9 ?_
  refine mv_aload_n (pc := 10) B d_Tree_addLeaf_10 rfl 0 rfl ?_
  refine mv_getR (pc := 11) (ci := 8) (C := R_Tree) (T := F_Tree) (N := 5) B 2 rfl rfl (by decide) i_Tree (B.2.2.2.1 _ k_294) rfl (hq _ 2 62 rfl) d_Tree_addLeaf_11 ?_
  refine mv_aload_n (pc := 14) B d_Tree_addLeaf_14 rfl 0 rfl ?_
  refine mv_getI (pc := 15) (ci := 8) (C := R_Tree) (T := F_Tree) (N := 5) B 4 rfl rfl (by decide) i_Tree (B.2.2.2.1 _ k_298) rfl d_Tree_addLeaf_15 ?_
  refine mv_iload_n (pc := 18) B d_Tree_addLeaf_18 rfl 1 rfl ?_
  refine mv_iast (pc := 19) B rfl (i32_in g0 g1) d_Tree_addLeaf_19 ?_
  refine mv_aload_n (pc := 20) B d_Tree_addLeaf_20 rfl 0 rfl ?_
  refine mv_getR (pc := 21) (ci := 8) (C := R_Tree) (T := F_Tree) (N := 5) B 3 rfl rfl (by decide) i_Tree (B.2.2.2.1 _ k_296) rfl (hq _ 3 63 rfl) d_Tree_addLeaf_21 ?_
  refine mv_aload_n (pc := 24) B d_Tree_addLeaf_24 rfl 0 rfl ?_
  refine mv_getI (pc := 25) (ci := 8) (C := R_Tree) (T := F_Tree) (N := 5) B 4 rfl rfl (by decide) i_Tree (B.2.2.2.1 _ k_298) rfl d_Tree_addLeaf_25 ?_
  refine mv_iload_n (pc := 28) B d_Tree_addLeaf_28 rfl 2 rfl ?_
  refine mv_iast (pc := 29) B rfl (i32_in g0 g1) d_Tree_addLeaf_29 ?_
  refine mv_aload_n (pc := 30) B d_Tree_addLeaf_30 rfl 0 rfl ?_
  refine mv_dup (pc := 31) B d_Tree_addLeaf_31 rfl ?_
  refine mv_getI (pc := 32) (ci := 8) (C := R_Tree) (T := F_Tree) (N := 5) B 4 rfl rfl (by decide) i_Tree (B.2.2.2.1 _ k_298) rfl d_Tree_addLeaf_32 ?_
  refine mv_iconst (pc := 35) (v := 1) B d_Tree_addLeaf_35 (by decide) ?_
  refine mv_iadd (pc := 36) B d_Tree_addLeaf_36 ?_
  refine mv_putI (pc := 37) (ci := 8) (C := R_Tree) (T := F_Tree) (N := 5) B 4 rfl rfl (by decide) i_Tree t_Tree_ok n_Tree (B.2.2.2.1 _ k_298) rfl rfl rfl rfl d_Tree_addLeaf_37 ?_
  exact mv_vret (pc := 40) B hr d_Tree_addLeaf_40 (Nat.le_refl _) (Nat.le_refl _) ⟨rfl, rfl⟩
set_option maxHeartbeats 4000000 in
set_option maxRecDepth 100000 in
theorem c_Tree_addLeaf_c (l : Launch) {dA : FieldType → ClassId} {D : va_G} {al : Nat → Nat} {sk sv : Nat → Nat} (hi : mv_inj (mg dA D al me)) (σ : mv_H) (a b : Int32) (hq : Ph 145 (mv_r σ)) (g0 : 0 ≤ (mv_i σ 156 4).toInt) (g1 : (mv_i σ 156 4).toInt < 97) : mv_C l y_Tree_addLeaf (Cond.code y_Tree_addLeaf b_Tree_addLeaf 3 (Option.none : Option Jvm.ClassFile.FieldType) :: ma) ({ frames := 0, cells := 0, slots := 0, locals := 0 }) (mg dA D al me) (mK sk sv) [.ref (al 156), .int a, .int b] σ (mv_Rv (fun σ1 => σ1 = tr_leaf 145 σ a b)) := by
  refine mv_C.ofV (cc := b_Tree_addLeaf) (nL := 3) (ret := (Option.none : Option Jvm.ClassFile.FieldType)) (by decide +kernel) rfl hi (Nat.le_of_ble_eq_true rfl) ?_
  intro p e s m below meth c B hNs hr hnm hno
  refine mv_aload_n (pc := 0) B d_Tree_addLeaf_0 rfl 0 rfl ?_
  refine mv_getR (pc := 1) (ci := 8) (C := R_Tree) (T := F_Tree) (N := 5) B 1 rfl rfl (by decide) i_Tree (B.2.2.2.1 _ k_293) rfl (hq _ 1 158 rfl) d_Tree_addLeaf_1 ?_
  refine mv_aload_n (pc := 4) B d_Tree_addLeaf_4 rfl 0 rfl ?_
  refine mv_getI (pc := 5) (ci := 8) (C := R_Tree) (T := F_Tree) (N := 5) B 4 rfl rfl (by decide) i_Tree (B.2.2.2.1 _ k_298) rfl d_Tree_addLeaf_5 ?_
  refine mv_iconst (pc := 8) (v := -1) B d_Tree_addLeaf_8 (by decide) ?_
  refine mv_iast (pc := 9) B rfl (i32_in g0 g1) d_Tree_addLeaf_9 ?_
  refine mv_aload_n (pc := 10) B d_Tree_addLeaf_10 rfl 0 rfl ?_
  refine mv_getR (pc := 11) (ci := 8) (C := R_Tree) (T := F_Tree) (N := 5) B 2 rfl rfl (by decide) i_Tree (B.2.2.2.1 _ k_294) rfl (hq _ 2 159 rfl) d_Tree_addLeaf_11 ?_
  refine mv_aload_n (pc := 14) B d_Tree_addLeaf_14 rfl 0 rfl ?_
  refine mv_getI (pc := 15) (ci := 8) (C := R_Tree) (T := F_Tree) (N := 5) B 4 rfl rfl (by decide) i_Tree (B.2.2.2.1 _ k_298) rfl d_Tree_addLeaf_15 ?_
  refine mv_iload_n (pc := 18) B d_Tree_addLeaf_18 rfl 1 rfl ?_
  refine mv_iast (pc := 19) B rfl (i32_in g0 g1) d_Tree_addLeaf_19 ?_
  refine mv_aload_n (pc := 20) B d_Tree_addLeaf_20 rfl 0 rfl ?_
  refine mv_getR (pc := 21) (ci := 8) (C := R_Tree) (T := F_Tree) (N := 5) B 3 rfl rfl (by decide) i_Tree (B.2.2.2.1 _ k_296) rfl (hq _ 3 160 rfl) d_Tree_addLeaf_21 ?_
  refine mv_aload_n (pc := 24) B d_Tree_addLeaf_24 rfl 0 rfl ?_
  refine mv_getI (pc := 25) (ci := 8) (C := R_Tree) (T := F_Tree) (N := 5) B 4 rfl rfl (by decide) i_Tree (B.2.2.2.1 _ k_298) rfl d_Tree_addLeaf_25 ?_
  refine mv_iload_n (pc := 28) B d_Tree_addLeaf_28 rfl 2 rfl ?_
  refine mv_iast (pc := 29) B rfl (i32_in g0 g1) d_Tree_addLeaf_29 ?_
  refine mv_aload_n (pc := 30) B d_Tree_addLeaf_30 rfl 0 rfl ?_
  refine mv_dup (pc := 31) B d_Tree_addLeaf_31 rfl ?_
  refine mv_getI (pc := 32) (ci := 8) (C := R_Tree) (T := F_Tree) (N := 5) B 4 rfl rfl (by decide) i_Tree (B.2.2.2.1 _ k_298) rfl d_Tree_addLeaf_32 ?_
  refine mv_iconst (pc := 35) (v := 1) B d_Tree_addLeaf_35 (by decide) ?_
  refine mv_iadd (pc := 36) B d_Tree_addLeaf_36 ?_
  refine mv_putI (pc := 37) (ci := 8) (C := R_Tree) (T := F_Tree) (N := 5) B 4 rfl rfl (by decide) i_Tree t_Tree_ok n_Tree (B.2.2.2.1 _ k_298) rfl rfl rfl rfl d_Tree_addLeaf_37 ?_
  exact mv_vret (pc := 40) B hr d_Tree_addLeaf_40 (Nat.le_refl _) (Nat.le_refl _) ⟨rfl, rfl⟩
def y_Tree_partingBit : MethodName := ⟨"MachineLoom$Tree", "partingBit", "(LMachineLoom$Program;II)I"⟩
abbrev b_Tree_partingBit : ByteArray := prog_11_method_4_code
theorem kc_Tree_partingBit : Cond.code y_Tree_partingBit b_Tree_partingBit 12 (Option.some Jvm.ClassFile.FieldType.int) ∈ ma := ma_of (tb_2 _ (List.mem_of_getElem? (i := 181) rfl)) rfl
theorem k_423 : (Jvm.Cond.methodLink "MachineLoom$Tree" (54 : Nat) ({ cls := "java/lang/Long", name := "bitCount", desc := "(J)I" } : Jvm.MethodName)) ∈ ma := ma_of (tb_2 _ (List.mem_of_getElem? (i := 183) rfl)) rfl
theorem k_349 : (Jvm.Cond.fieldLink "MachineLoom$Tree" (47 : Nat) "MachineLoom$Program" "masks" "[J") ∈ ma := ma_of (tb_2 _ (List.mem_of_getElem? (i := 109) rfl)) rfl
theorem k_291 : (Jvm.Cond.fieldLink "MachineLoom$Tree" (9 : Nat) "MachineLoom$Tree" "order" "[I") ∈ ma := ma_of (tb_2 _ (List.mem_of_getElem? (i := 51) rfl)) rfl
theorem k_352 : (Jvm.Cond.fieldLink "MachineLoom$Tree" (51 : Nat) "MachineLoom$Program" "values" "[J") ∈ ma := ma_of (tb_2 _ (List.mem_of_getElem? (i := 112) rfl)) rfl
theorem k_422 : (Jvm.Cond.constantLong "MachineLoom$Tree" (45 : Nat) (-1 : Int64)) ∈ ma := ma_of (tb_2 _ (List.mem_of_getElem? (i := 182) rfl)) rfl
theorem d_Tree_partingBit_0 : decode b_Tree_partingBit 0 = .ok (.ldc2_w 45, 3) := by decide +kernel
theorem d_Tree_partingBit_3 : decode b_Tree_partingBit 3 = .ok (.lstore 4, 2) := by decide +kernel
theorem d_Tree_partingBit_5 : decode b_Tree_partingBit 5 = .ok (.lconst 0, 1) := by decide +kernel
theorem d_Tree_partingBit_6 : decode b_Tree_partingBit 6 = .ok (.lstore 6, 2) := by decide +kernel
theorem d_Tree_partingBit_8 : decode b_Tree_partingBit 8 = .ok (.lconst 0, 1) := by decide +kernel
theorem d_Tree_partingBit_9 : decode b_Tree_partingBit 9 = .ok (.lstore 8, 2) := by decide +kernel
theorem d_Tree_partingBit_11 : decode b_Tree_partingBit 11 = .ok (.iload_n 2, 1) := by decide +kernel
theorem d_Tree_partingBit_12 : decode b_Tree_partingBit 12 = .ok (.istore 10, 2) := by decide +kernel
theorem d_Tree_partingBit_14 : decode b_Tree_partingBit 14 = .ok (.iload 10, 2) := by decide +kernel
theorem d_Tree_partingBit_16 : decode b_Tree_partingBit 16 = .ok (.iload_n 3, 1) := by decide +kernel
theorem d_Tree_partingBit_17 : decode b_Tree_partingBit 17 = .ok (.if_icmp .ge (64), 3) := by decide +kernel
theorem d_Tree_partingBit_20 : decode b_Tree_partingBit 20 = .ok (.lload 4, 2) := by decide +kernel
theorem d_Tree_partingBit_22 : decode b_Tree_partingBit 22 = .ok (.aload_n 1, 1) := by decide +kernel
theorem d_Tree_partingBit_23 : decode b_Tree_partingBit 23 = .ok (.getfield 47, 3) := by decide +kernel
theorem d_Tree_partingBit_26 : decode b_Tree_partingBit 26 = .ok (.aload_n 0, 1) := by decide +kernel
theorem d_Tree_partingBit_27 : decode b_Tree_partingBit 27 = .ok (.getfield 9, 3) := by decide +kernel
theorem d_Tree_partingBit_30 : decode b_Tree_partingBit 30 = .ok (.iload 10, 2) := by decide +kernel
theorem d_Tree_partingBit_32 : decode b_Tree_partingBit 32 = .ok (.iaload, 1) := by decide +kernel
theorem d_Tree_partingBit_33 : decode b_Tree_partingBit 33 = .ok (.laload, 1) := by decide +kernel
theorem d_Tree_partingBit_34 : decode b_Tree_partingBit 34 = .ok (.land, 1) := by decide +kernel
theorem d_Tree_partingBit_35 : decode b_Tree_partingBit 35 = .ok (.lstore 4, 2) := by decide +kernel
theorem d_Tree_partingBit_37 : decode b_Tree_partingBit 37 = .ok (.lload 6, 2) := by decide +kernel
theorem d_Tree_partingBit_39 : decode b_Tree_partingBit 39 = .ok (.aload_n 1, 1) := by decide +kernel
theorem d_Tree_partingBit_40 : decode b_Tree_partingBit 40 = .ok (.getfield 51, 3) := by decide +kernel
theorem d_Tree_partingBit_43 : decode b_Tree_partingBit 43 = .ok (.aload_n 0, 1) := by decide +kernel
theorem d_Tree_partingBit_44 : decode b_Tree_partingBit 44 = .ok (.getfield 9, 3) := by decide +kernel
theorem d_Tree_partingBit_47 : decode b_Tree_partingBit 47 = .ok (.iload 10, 2) := by decide +kernel
theorem d_Tree_partingBit_49 : decode b_Tree_partingBit 49 = .ok (.iaload, 1) := by decide +kernel
theorem d_Tree_partingBit_50 : decode b_Tree_partingBit 50 = .ok (.laload, 1) := by decide +kernel
theorem d_Tree_partingBit_51 : decode b_Tree_partingBit 51 = .ok (.lor, 1) := by decide +kernel
theorem d_Tree_partingBit_52 : decode b_Tree_partingBit 52 = .ok (.lstore 6, 2) := by decide +kernel
theorem d_Tree_partingBit_54 : decode b_Tree_partingBit 54 = .ok (.lload 8, 2) := by decide +kernel
theorem d_Tree_partingBit_56 : decode b_Tree_partingBit 56 = .ok (.aload_n 1, 1) := by decide +kernel
theorem d_Tree_partingBit_57 : decode b_Tree_partingBit 57 = .ok (.getfield 51, 3) := by decide +kernel
theorem d_Tree_partingBit_60 : decode b_Tree_partingBit 60 = .ok (.aload_n 0, 1) := by decide +kernel
theorem d_Tree_partingBit_61 : decode b_Tree_partingBit 61 = .ok (.getfield 9, 3) := by decide +kernel
theorem d_Tree_partingBit_64 : decode b_Tree_partingBit 64 = .ok (.iload 10, 2) := by decide +kernel
theorem d_Tree_partingBit_66 : decode b_Tree_partingBit 66 = .ok (.iaload, 1) := by decide +kernel
theorem d_Tree_partingBit_67 : decode b_Tree_partingBit 67 = .ok (.laload, 1) := by decide +kernel
theorem d_Tree_partingBit_68 : decode b_Tree_partingBit 68 = .ok (.ldc2_w 45, 3) := by decide +kernel
theorem d_Tree_partingBit_71 : decode b_Tree_partingBit 71 = .ok (.lxor, 1) := by decide +kernel
theorem d_Tree_partingBit_72 : decode b_Tree_partingBit 72 = .ok (.lor, 1) := by decide +kernel
theorem d_Tree_partingBit_73 : decode b_Tree_partingBit 73 = .ok (.lstore 8, 2) := by decide +kernel
theorem d_Tree_partingBit_75 : decode b_Tree_partingBit 75 = .ok (.iinc 10 (1), 3) := by decide +kernel
theorem d_Tree_partingBit_78 : decode b_Tree_partingBit 78 = .ok (.goto (-64), 3) := by decide +kernel
theorem d_Tree_partingBit_81 : decode b_Tree_partingBit 81 = .ok (.lload 4, 2) := by decide +kernel
theorem d_Tree_partingBit_83 : decode b_Tree_partingBit 83 = .ok (.lload 6, 2) := by decide +kernel
theorem d_Tree_partingBit_85 : decode b_Tree_partingBit 85 = .ok (.land, 1) := by decide +kernel
theorem d_Tree_partingBit_86 : decode b_Tree_partingBit 86 = .ok (.lload 8, 2) := by decide +kernel
theorem d_Tree_partingBit_88 : decode b_Tree_partingBit 88 = .ok (.land, 1) := by decide +kernel
theorem d_Tree_partingBit_89 : decode b_Tree_partingBit 89 = .ok (.lstore 10, 2) := by decide +kernel
theorem d_Tree_partingBit_91 : decode b_Tree_partingBit 91 = .ok (.lload 10, 2) := by decide +kernel
theorem d_Tree_partingBit_93 : decode b_Tree_partingBit 93 = .ok (.lconst 0, 1) := by decide +kernel
theorem d_Tree_partingBit_94 : decode b_Tree_partingBit 94 = .ok (.lcmp, 1) := by decide +kernel
theorem d_Tree_partingBit_95 : decode b_Tree_partingBit 95 = .ok (.ifCond .ne (7), 3) := by decide +kernel
theorem d_Tree_partingBit_98 : decode b_Tree_partingBit 98 = .ok (.iconst (-1), 1) := by decide +kernel
theorem d_Tree_partingBit_99 : decode b_Tree_partingBit 99 = .ok (.goto (14), 3) := by decide +kernel
theorem d_Tree_partingBit_102 : decode b_Tree_partingBit 102 = .ok (.lload 10, 2) := by decide +kernel
theorem d_Tree_partingBit_104 : decode b_Tree_partingBit 104 = .ok (.lload 10, 2) := by decide +kernel
theorem d_Tree_partingBit_106 : decode b_Tree_partingBit 106 = .ok (.lneg, 1) := by decide +kernel
theorem d_Tree_partingBit_107 : decode b_Tree_partingBit 107 = .ok (.land, 1) := by decide +kernel
theorem d_Tree_partingBit_108 : decode b_Tree_partingBit 108 = .ok (.lconst 1, 1) := by decide +kernel
theorem d_Tree_partingBit_109 : decode b_Tree_partingBit 109 = .ok (.lsub, 1) := by decide +kernel
theorem d_Tree_partingBit_110 : decode b_Tree_partingBit 110 = .ok (.invokestatic 54, 3) := by decide +kernel
theorem d_Tree_partingBit_113 : decode b_Tree_partingBit 113 = .ok (.ireturn, 1) := by decide +kernel
set_option maxHeartbeats 4000000 in
set_option maxRecDepth 100000 in
theorem c_Tree_partingBit_a (l : Launch) {dA : FieldType → ClassId} {D : va_G} {al : Nat → Nat} {ext : mv_Sh} {sk sv : Nat → Nat} (hi : mv_inj (mg dA D al ext)) (σ : mv_H) (f e9 : Int32) (hq : Ph 32 (mv_r σ)) (g0 : 0 ≤ f.toInt) (g1 : f.toInt ≤ e9.toInt) (g2 : e9.toInt ≤ 512) (hor : ∀ i : Nat, f.toInt ≤ i → (i : Int) < e9.toInt → 0 ≤ (mv_a σ 44 i).toInt ∧ (mv_a σ 44 i).toInt < 512) : mv_C l y_Tree_partingBit (Cond.code y_Tree_partingBit b_Tree_partingBit 12 (Option.some Jvm.ClassFile.FieldType.int) :: ma) ({ frames := 1, cells := 0, slots := 0, locals := 21 }) (mg dA D al ext) (mK sk sv) [.ref (al 43), .ref (al 32), .int f, .int e9] σ (mv_Ri (fun v σ1 => σ1 = σ ∧ (v = -1 ∨ ∃ b, b < 64 ∧ v = Int32.ofNat b ∧ (∃ i : Nat, f.toInt ≤ i ∧ (i : Int) < e9.toInt ∧ tB 32 σ b i = true) ∧ (∃ i : Nat, f.toInt ≤ i ∧ (i : Int) < e9.toInt ∧ tB 32 σ b i = false) ∧ ∀ i : Nat, f.toInt ≤ i → (i : Int) < e9.toInt → (mv_b σ 37 (mv_a σ 44 i).toNatClampNeg).toBitVec.getLsbD b = true))) := by
  refine mv_C.ofV (cc := b_Tree_partingBit) (nL := 12) (ret := (Option.some Jvm.ClassFile.FieldType.int)) (by decide +kernel) rfl hi (Nat.le_of_ble_eq_true rfl) ?_
  intro p e s m below meth c B hNs hr hnm hno
  have lp : ∀ (nn : Nat) (j : Int32) (w9 : Int64) (n9 : Int64) (x9 : Int64) (q0 : f.toInt ≤ j.toInt) (qj : j.toInt ≤ e9.toInt) (q1 : ∀ b9, w9.toBitVec.getLsbD b9 = true → ∃ i : Nat, f.toInt ≤ i ∧ (i : Int) < j.toInt ∧ tB 32 σ b9 i = true) (q2 : ∀ b9, n9.toBitVec.getLsbD b9 = true → ∃ i : Nat, f.toInt ≤ i ∧ (i : Int) < j.toInt ∧ tB 32 σ b9 i = false) (q3 : ∀ b9, x9.toBitVec.getLsbD b9 = true → ∀ i : Nat, f.toInt ≤ i → (i : Int) < j.toInt → (mv_b σ 37 (mv_a σ 44 i).toNatClampNeg).toBitVec.getLsbD b9 = true), (e9.toInt - j.toInt).toNat < nn → mv_V p l e ({ frames := 1, cells := 0, slots := 0, locals := 21 }) s m ([.ref (al 43), .ref (al 32), .int f, .int e9] : List Value).toArray below meth c (mg dA D al ext) 12 0 0 (mv_Q (mg dA D al ext) below s 0 0 (mv_Ri (fun v σ1 => σ1 = σ ∧ (v = -1 ∨ ∃ b, b < 64 ∧ v = Int32.ofNat b ∧ (∃ i : Nat, f.toInt ≤ i ∧ (i : Int) < e9.toInt ∧ tB 32 σ b i = true) ∧ (∃ i : Nat, f.toInt ≤ i ∧ (i : Int) < e9.toInt ∧ tB 32 σ b i = false) ∧ ∀ i : Nat, f.toInt ≤ i → (i : Int) < e9.toInt → (mv_b σ 37 (mv_a σ 44 i).toNatClampNeg).toBitVec.getLsbD b = true)))) σ 14 [(10, .int j), (8, .long n9), (6, .long w9), (4, .long x9), (0, .ref (al 43)), (1, .ref (al 32)), (2, .int f), (3, .int e9)] [] := by
    intro nn
    induction nn with
    | zero => intro j w9 n9 x9 q0 qj q1 q2 q3 hm; exact absurd hm (Nat.not_lt_zero _)
    | succ nn ih =>
      intro j w9 n9 x9 q0 qj q1 q2 q3 hm
      refine mv_iload (pc := 14) B d_Tree_partingBit_14 0 rfl ?_
      refine mv_iload_n (pc := 16) B d_Tree_partingBit_16 rfl 7 rfl ?_
      refine mv_icmp_ge (pc := 17) (tgt := 81) B d_Tree_partingBit_17 rfl (fun h17 => ?_) (fun h17 => ?_)
      · skip
        rw [Int32.le_iff_toInt_le] at h17
        refine mv_lload (pc := 81) B d_Tree_partingBit_81 3 rfl ?_
        refine mv_lload (pc := 83) B d_Tree_partingBit_83 2 rfl ?_
        refine mv_land (pc := 85) B d_Tree_partingBit_85 ?_
        refine mv_lload (pc := 86) B d_Tree_partingBit_86 1 rfl ?_
        refine mv_land (pc := 88) B d_Tree_partingBit_88 ?_
        refine mv_lstore (pc := 89) B d_Tree_partingBit_89 (by decide) rfl ?_
        refine mv_lload (pc := 91) B d_Tree_partingBit_91 0 rfl ?_
        refine mv_lconst (pc := 93) (v := 0) B d_Tree_partingBit_93 (by decide) ?_
        refine mv_lcmp (pc := 94) B d_Tree_partingBit_94 ?_
        refine mv_if_ne (pc := 95) (tgt := 102) B d_Tree_partingBit_95 rfl (fun h95 => ?_) (fun h95 => ?_)
        · skip
          refine mv_lload (pc := 102) B d_Tree_partingBit_102 0 rfl ?_
          refine mv_lload (pc := 104) B d_Tree_partingBit_104 0 rfl ?_
          refine mv_lneg (pc := 106) B d_Tree_partingBit_106 ?_
          refine mv_land (pc := 107) B d_Tree_partingBit_107 ?_
          refine mv_lconst (pc := 108) (v := 1) B d_Tree_partingBit_108 (by decide) ?_
          refine mv_lsub (pc := 109) B d_Tree_partingBit_109 ?_
          refine mv_callSi (pc := 110) (n := 1) B (mK_ok sk sv) hNs (c_Long_bitCountF l hi _ _) rfl (ma_goodc kc_Long_bitCount) (B.2.2.2.1 _ k_423) (B.2.2.2.1 _ k_424) (B.2.2.2.1 _ k_10) ⟨by decide +kernel, by decide +kernel, by decide +kernel⟩ rfl d_Tree_partingBit_110 rfl (Nat.le_of_ble_eq_true rfl) ⟨by decide, by decide⟩ ⟨by decide, by decide⟩ ⟨by decide, by decide⟩ (mv_noH hno _) (fun v110 σ110 h110 => ?_)
          obtain ⟨e110, b110⟩ := h110
          have e110 := e110.symm
          subst e110
          obtain ⟨b, hb, hpb, hbb⟩ := low_bit _ (lc_ne h95)
          have ha := and_bit hpb
          have hc := and_bit ha.1
          obtain ⟨i1, x1, x2, x3⟩ := q1 b hc.2
          obtain ⟨i2, y1, y2, y3⟩ := q2 b ha.2
          exact mv_iret (pc := 113) B hr rfl d_Tree_partingBit_113 (Nat.le_refl _) (Nat.le_refl _) ⟨_, rfl, rfl, by first | exact Or.inl rfl | exact Or.inr ⟨b, hb, b110.trans hbb, ⟨i1, x1, by omega, x3⟩, ⟨i2, y1, by omega, y3⟩, fun i a e => q3 b hc.1 i a (by omega)⟩⟩
        · skip
          refine mv_iconst (pc := 98) (v := -1) B d_Tree_partingBit_98 (by decide) ?_
          refine mv_goto (pc := 99) (tgt := 113) B d_Tree_partingBit_99 rfl ?_
          exact mv_iret (pc := 113) B hr rfl d_Tree_partingBit_113 (Nat.le_refl _) (Nat.le_refl _) ⟨_, rfl, rfl, by first | exact Or.inl rfl | exact Or.inr ⟨b, hb, b110.trans hbb, ⟨i1, x1, by omega, x3⟩, ⟨i2, y1, by omega, y3⟩, fun i a e => q3 b hc.1 i a (by omega)⟩⟩
      · skip
        rw [Int32.le_iff_toInt_le] at h17
        have ej := i32_cl (x := j) (by omega)
        have ho := hor j.toNatClampNeg (by omega) (by omega)
        have eo := i32_cl (x := mv_a σ 44 j.toNatClampNeg) ho.1
        have u1 : ∀ b9, (w9 ||| mv_b σ 38 (mv_a σ 44 j.toNatClampNeg).toNatClampNeg).toBitVec.getLsbD b9 = true → ∃ i : Nat, f.toInt ≤ i ∧ (i : Int) < (j + 1).toInt ∧ tB 32 σ b9 i = true := fun b9 h => (or_bit h).elim (fun h => by obtain ⟨i, a, b, c⟩ := q1 b9 h; exact ⟨i, a, by rw [i32_inc (by omega)]; omega, c⟩) (fun h => ⟨j.toNatClampNeg, by omega, by rw [i32_inc (by omega)]; omega, h⟩)
        have u2 : ∀ b9, (n9 ||| (mv_b σ 38 (mv_a σ 44 j.toNatClampNeg).toNatClampNeg ^^^ (-1))).toBitVec.getLsbD b9 = true → ∃ i : Nat, f.toInt ≤ i ∧ (i : Int) < (j + 1).toInt ∧ tB 32 σ b9 i = false := fun b9 h => (or_bit h).elim (fun h => by obtain ⟨i, a, b, c⟩ := q2 b9 h; exact ⟨i, a, by rw [i32_inc (by omega)]; omega, c⟩) (fun h => ⟨j.toNatClampNeg, by omega, by rw [i32_inc (by omega)]; omega, not_bit h⟩)
        have u3 : ∀ b9, (x9 &&& mv_b σ 37 (mv_a σ 44 j.toNatClampNeg).toNatClampNeg).toBitVec.getLsbD b9 = true → ∀ i : Nat, f.toInt ≤ i → (i : Int) < (j + 1).toInt → (mv_b σ 37 (mv_a σ 44 i).toNatClampNeg).toBitVec.getLsbD b9 = true := fun b9 h i a b => by obtain ⟨h1, h2⟩ := and_bit h; rw [i32_inc (by omega)] at b; exact (Decidable.em (i = j.toNatClampNeg)).elim (fun e => by rw [e]; exact h2) (fun e => q3 b9 h1 i a (by omega))
        refine mv_lload (pc := 20) B d_Tree_partingBit_20 3 rfl ?_
        refine mv_aload_n (pc := 22) B d_Tree_partingBit_22 rfl 5 rfl ?_
        refine mv_getR (pc := 23) (ci := 7) (C := R_Program) (T := F_Program) (N := 19) B 11 rfl rfl (by decide) i_Program (B.2.2.2.1 _ k_349) rfl (hq _ 11 37 rfl) d_Tree_partingBit_23 ?_
        refine mv_aload_n (pc := 26) B d_Tree_partingBit_26 rfl 4 rfl ?_
        refine mv_getR (pc := 27) (ci := 8) (C := R_Tree) (T := F_Tree) (N := 5) B 0 rfl rfl (by decide) i_Tree (B.2.2.2.1 _ k_291) rfl (hq _ 0 44 rfl) d_Tree_partingBit_27 ?_
        refine mv_iload (pc := 30) B d_Tree_partingBit_30 0 rfl ?_
        refine mv_iald (pc := 32) B rfl (i32_in (by omega) (by omega)) d_Tree_partingBit_32 ?_
        refine mv_lald (pc := 33) B rfl (i32_in ho.1 ho.2) d_Tree_partingBit_33 ?_
        refine mv_land (pc := 34) B d_Tree_partingBit_34 ?_
        refine mv_lstore (pc := 35) B d_Tree_partingBit_35 (by decide) rfl ?_
        refine mv_lload (pc := 37) B d_Tree_partingBit_37 3 rfl ?_
        refine mv_aload_n (pc := 39) B d_Tree_partingBit_39 rfl 5 rfl ?_
        refine mv_getR (pc := 40) (ci := 7) (C := R_Program) (T := F_Program) (N := 19) B 12 rfl rfl (by decide) i_Program (B.2.2.2.1 _ k_352) rfl (hq _ 12 38 rfl) d_Tree_partingBit_40 ?_
        refine mv_aload_n (pc := 43) B d_Tree_partingBit_43 rfl 4 rfl ?_
        refine mv_getR (pc := 44) (ci := 8) (C := R_Tree) (T := F_Tree) (N := 5) B 0 rfl rfl (by decide) i_Tree (B.2.2.2.1 _ k_291) rfl (hq _ 0 44 rfl) d_Tree_partingBit_44 ?_
        refine mv_iload (pc := 47) B d_Tree_partingBit_47 1 rfl ?_
        refine mv_iald (pc := 49) B rfl (i32_in (by omega) (by omega)) d_Tree_partingBit_49 ?_
        refine mv_lald (pc := 50) B rfl (i32_in ho.1 ho.2) d_Tree_partingBit_50 ?_
        refine mv_lor (pc := 51) B d_Tree_partingBit_51 ?_
        refine mv_lstore (pc := 52) B d_Tree_partingBit_52 (by decide) rfl ?_
        refine mv_lload (pc := 54) B d_Tree_partingBit_54 3 rfl ?_
        refine mv_aload_n (pc := 56) B d_Tree_partingBit_56 rfl 5 rfl ?_
        refine mv_getR (pc := 57) (ci := 7) (C := R_Program) (T := F_Program) (N := 19) B 12 rfl rfl (by decide) i_Program (B.2.2.2.1 _ k_352) rfl (hq _ 12 38 rfl) d_Tree_partingBit_57 ?_
        refine mv_aload_n (pc := 60) B d_Tree_partingBit_60 rfl 4 rfl ?_
        refine mv_getR (pc := 61) (ci := 8) (C := R_Tree) (T := F_Tree) (N := 5) B 0 rfl rfl (by decide) i_Tree (B.2.2.2.1 _ k_291) rfl (hq _ 0 44 rfl) d_Tree_partingBit_61 ?_
        refine mv_iload (pc := 64) B d_Tree_partingBit_64 2 rfl ?_
        refine mv_iald (pc := 66) B rfl (i32_in (by omega) (by omega)) d_Tree_partingBit_66 ?_
        refine mv_lald (pc := 67) B rfl (i32_in ho.1 ho.2) d_Tree_partingBit_67 ?_
        refine mv_ldc2 (pc := 68) (v := -1) B (B.2.2.2.1 _ k_422) d_Tree_partingBit_68 ?_
        refine mv_lxor (pc := 71) B d_Tree_partingBit_71 ?_
        refine mv_lor (pc := 72) B d_Tree_partingBit_72 ?_
        refine mv_lstore (pc := 73) B d_Tree_partingBit_73 (by decide) rfl ?_
        refine mv_iinc (pc := 75) (j := 3) (v := 1) B d_Tree_partingBit_75 rfl (by decide) (by decide) rfl ?_
        refine mv_goto (pc := 78) (tgt := 14) B d_Tree_partingBit_78 rfl ?_
        refine mv_lpick [0, 1, 2, 3, 4, 5, 6, 7] rfl ?_
        exact ih _ _ _ _ (by rw [i32_inc (by omega)]; omega) (by rw [i32_inc (by omega)]; omega) u1 u2 u3 (by rw [i32_inc (by omega)]; omega)
  refine mv_ldc2 (pc := 0) (v := -1) B (B.2.2.2.1 _ k_422) d_Tree_partingBit_0 ?_
  refine mv_lstore (pc := 3) B d_Tree_partingBit_3 (by decide) rfl ?_
  refine mv_lconst (pc := 5) (v := 0) B d_Tree_partingBit_5 (by decide) ?_
  refine mv_lstore (pc := 6) B d_Tree_partingBit_6 (by decide) rfl ?_
  refine mv_lconst (pc := 8) (v := 0) B d_Tree_partingBit_8 (by decide) ?_
  refine mv_lstore (pc := 9) B d_Tree_partingBit_9 (by decide) rfl ?_
  refine mv_iload_n (pc := 11) B d_Tree_partingBit_11 rfl 5 rfl ?_
  refine mv_istore (pc := 12) B d_Tree_partingBit_12 (by decide) rfl ?_
  refine mv_lpick [0, 1, 2, 3, 4, 5, 6, 7] rfl ?_
  exact lp _ _ _ _ _ (Int.le_refl _) g1 (fun b9 h => zero_bit h) (fun b9 h => zero_bit h) (fun b9 h i a b => absurd b (by omega)) (Nat.lt_succ_self _)
set_option maxHeartbeats 4000000 in
set_option maxRecDepth 100000 in
theorem c_Tree_partingBit_b (l : Launch) {dA : FieldType → ClassId} {D : va_G} {al : Nat → Nat} {ext : mv_Sh} {sk sv : Nat → Nat} (hi : mv_inj (mg dA D al ext)) (σ : mv_H) (f e9 : Int32) (hq : Ph 48 (mv_r σ)) (g0 : 0 ≤ f.toInt) (g1 : f.toInt ≤ e9.toInt) (g2 : e9.toInt ≤ 512) (hor : ∀ i : Nat, f.toInt ≤ i → (i : Int) < e9.toInt → 0 ≤ (mv_a σ 60 i).toInt ∧ (mv_a σ 60 i).toInt < 512) : mv_C l y_Tree_partingBit (Cond.code y_Tree_partingBit b_Tree_partingBit 12 (Option.some Jvm.ClassFile.FieldType.int) :: ma) ({ frames := 1, cells := 0, slots := 0, locals := 21 }) (mg dA D al ext) (mK sk sv) [.ref (al 59), .ref (al 48), .int f, .int e9] σ (mv_Ri (fun v σ1 => σ1 = σ ∧ (v = -1 ∨ ∃ b, b < 64 ∧ v = Int32.ofNat b ∧ (∃ i : Nat, f.toInt ≤ i ∧ (i : Int) < e9.toInt ∧ tB 48 σ b i = true) ∧ (∃ i : Nat, f.toInt ≤ i ∧ (i : Int) < e9.toInt ∧ tB 48 σ b i = false) ∧ ∀ i : Nat, f.toInt ≤ i → (i : Int) < e9.toInt → (mv_b σ 53 (mv_a σ 60 i).toNatClampNeg).toBitVec.getLsbD b = true))) := by
  refine mv_C.ofV (cc := b_Tree_partingBit) (nL := 12) (ret := (Option.some Jvm.ClassFile.FieldType.int)) (by decide +kernel) rfl hi (Nat.le_of_ble_eq_true rfl) ?_
  intro p e s m below meth c B hNs hr hnm hno
  have lp : ∀ (nn : Nat) (j : Int32) (w9 : Int64) (n9 : Int64) (x9 : Int64) (q0 : f.toInt ≤ j.toInt) (qj : j.toInt ≤ e9.toInt) (q1 : ∀ b9, w9.toBitVec.getLsbD b9 = true → ∃ i : Nat, f.toInt ≤ i ∧ (i : Int) < j.toInt ∧ tB 48 σ b9 i = true) (q2 : ∀ b9, n9.toBitVec.getLsbD b9 = true → ∃ i : Nat, f.toInt ≤ i ∧ (i : Int) < j.toInt ∧ tB 48 σ b9 i = false) (q3 : ∀ b9, x9.toBitVec.getLsbD b9 = true → ∀ i : Nat, f.toInt ≤ i → (i : Int) < j.toInt → (mv_b σ 53 (mv_a σ 60 i).toNatClampNeg).toBitVec.getLsbD b9 = true), (e9.toInt - j.toInt).toNat < nn → mv_V p l e ({ frames := 1, cells := 0, slots := 0, locals := 21 }) s m ([.ref (al 59), .ref (al 48), .int f, .int e9] : List Value).toArray below meth c (mg dA D al ext) 12 0 0 (mv_Q (mg dA D al ext) below s 0 0 (mv_Ri (fun v σ1 => σ1 = σ ∧ (v = -1 ∨ ∃ b, b < 64 ∧ v = Int32.ofNat b ∧ (∃ i : Nat, f.toInt ≤ i ∧ (i : Int) < e9.toInt ∧ tB 48 σ b i = true) ∧ (∃ i : Nat, f.toInt ≤ i ∧ (i : Int) < e9.toInt ∧ tB 48 σ b i = false) ∧ ∀ i : Nat, f.toInt ≤ i → (i : Int) < e9.toInt → (mv_b σ 53 (mv_a σ 60 i).toNatClampNeg).toBitVec.getLsbD b = true)))) σ 14 [(10, .int j), (8, .long n9), (6, .long w9), (4, .long x9), (0, .ref (al 59)), (1, .ref (al 48)), (2, .int f), (3, .int e9)] [] := by
    intro nn
    induction nn with
    | zero => intro j w9 n9 x9 q0 qj q1 q2 q3 hm; exact absurd hm (Nat.not_lt_zero _)
    | succ nn ih =>
      intro j w9 n9 x9 q0 qj q1 q2 q3 hm
      refine mv_iload (pc := 14) B d_Tree_partingBit_14 0 rfl ?_
      refine mv_iload_n (pc := 16) B d_Tree_partingBit_16 rfl 7 rfl ?_
      refine mv_icmp_ge (pc := 17) (tgt := 81) B d_Tree_partingBit_17 rfl (fun h17 => ?_) (fun h17 => ?_)
      · skip
        rw [Int32.le_iff_toInt_le] at h17
        refine mv_lload (pc := 81) B d_Tree_partingBit_81 3 rfl ?_
        refine mv_lload (pc := 83) B d_Tree_partingBit_83 2 rfl ?_
        refine mv_land (pc := 85) B d_Tree_partingBit_85 ?_
        refine mv_lload (pc := 86) B d_Tree_partingBit_86 1 rfl ?_
        refine mv_land (pc := 88) B d_Tree_partingBit_88 ?_
        refine mv_lstore (pc := 89) B d_Tree_partingBit_89 (by decide) rfl ?_
        refine mv_lload (pc := 91) B d_Tree_partingBit_91 0 rfl ?_
        refine mv_lconst (pc := 93) (v := 0) B d_Tree_partingBit_93 (by decide) ?_
        refine mv_lcmp (pc := 94) B d_Tree_partingBit_94 ?_
        refine mv_if_ne (pc := 95) (tgt := 102) B d_Tree_partingBit_95 rfl (fun h95 => ?_) (fun h95 => ?_)
        · skip
          refine mv_lload (pc := 102) B d_Tree_partingBit_102 0 rfl ?_
          refine mv_lload (pc := 104) B d_Tree_partingBit_104 0 rfl ?_
          refine mv_lneg (pc := 106) B d_Tree_partingBit_106 ?_
          refine mv_land (pc := 107) B d_Tree_partingBit_107 ?_
          refine mv_lconst (pc := 108) (v := 1) B d_Tree_partingBit_108 (by decide) ?_
          refine mv_lsub (pc := 109) B d_Tree_partingBit_109 ?_
          refine mv_callSi (pc := 110) (n := 1) B (mK_ok sk sv) hNs (c_Long_bitCountF l hi _ _) rfl (ma_goodc kc_Long_bitCount) (B.2.2.2.1 _ k_423) (B.2.2.2.1 _ k_424) (B.2.2.2.1 _ k_10) ⟨by decide +kernel, by decide +kernel, by decide +kernel⟩ rfl d_Tree_partingBit_110 rfl (Nat.le_of_ble_eq_true rfl) ⟨by decide, by decide⟩ ⟨by decide, by decide⟩ ⟨by decide, by decide⟩ (mv_noH hno _) (fun v110 σ110 h110 => ?_)
          obtain ⟨e110, b110⟩ := h110
          have e110 := e110.symm
          subst e110
          obtain ⟨b, hb, hpb, hbb⟩ := low_bit _ (lc_ne h95)
          have ha := and_bit hpb
          have hc := and_bit ha.1
          obtain ⟨i1, x1, x2, x3⟩ := q1 b hc.2
          obtain ⟨i2, y1, y2, y3⟩ := q2 b ha.2
          exact mv_iret (pc := 113) B hr rfl d_Tree_partingBit_113 (Nat.le_refl _) (Nat.le_refl _) ⟨_, rfl, rfl, by first | exact Or.inl rfl | exact Or.inr ⟨b, hb, b110.trans hbb, ⟨i1, x1, by omega, x3⟩, ⟨i2, y1, by omega, y3⟩, fun i a e => q3 b hc.1 i a (by omega)⟩⟩
        · skip
          refine mv_iconst (pc := 98) (v := -1) B d_Tree_partingBit_98 (by decide) ?_
          refine mv_goto (pc := 99) (tgt := 113) B d_Tree_partingBit_99 rfl ?_
          exact mv_iret (pc := 113) B hr rfl d_Tree_partingBit_113 (Nat.le_refl _) (Nat.le_refl _) ⟨_, rfl, rfl, by first | exact Or.inl rfl | exact Or.inr ⟨b, hb, b110.trans hbb, ⟨i1, x1, by omega, x3⟩, ⟨i2, y1, by omega, y3⟩, fun i a e => q3 b hc.1 i a (by omega)⟩⟩
      · skip
        rw [Int32.le_iff_toInt_le] at h17
        have ej := i32_cl (x := j) (by omega)
        have ho := hor j.toNatClampNeg (by omega) (by omega)
        have eo := i32_cl (x := mv_a σ 60 j.toNatClampNeg) ho.1
        have u1 : ∀ b9, (w9 ||| mv_b σ 54 (mv_a σ 60 j.toNatClampNeg).toNatClampNeg).toBitVec.getLsbD b9 = true → ∃ i : Nat, f.toInt ≤ i ∧ (i : Int) < (j + 1).toInt ∧ tB 48 σ b9 i = true := fun b9 h => (or_bit h).elim (fun h => by obtain ⟨i, a, b, c⟩ := q1 b9 h; exact ⟨i, a, by rw [i32_inc (by omega)]; omega, c⟩) (fun h => ⟨j.toNatClampNeg, by omega, by rw [i32_inc (by omega)]; omega, h⟩)
        have u2 : ∀ b9, (n9 ||| (mv_b σ 54 (mv_a σ 60 j.toNatClampNeg).toNatClampNeg ^^^ (-1))).toBitVec.getLsbD b9 = true → ∃ i : Nat, f.toInt ≤ i ∧ (i : Int) < (j + 1).toInt ∧ tB 48 σ b9 i = false := fun b9 h => (or_bit h).elim (fun h => by obtain ⟨i, a, b, c⟩ := q2 b9 h; exact ⟨i, a, by rw [i32_inc (by omega)]; omega, c⟩) (fun h => ⟨j.toNatClampNeg, by omega, by rw [i32_inc (by omega)]; omega, not_bit h⟩)
        have u3 : ∀ b9, (x9 &&& mv_b σ 53 (mv_a σ 60 j.toNatClampNeg).toNatClampNeg).toBitVec.getLsbD b9 = true → ∀ i : Nat, f.toInt ≤ i → (i : Int) < (j + 1).toInt → (mv_b σ 53 (mv_a σ 60 i).toNatClampNeg).toBitVec.getLsbD b9 = true := fun b9 h i a b => by obtain ⟨h1, h2⟩ := and_bit h; rw [i32_inc (by omega)] at b; exact (Decidable.em (i = j.toNatClampNeg)).elim (fun e => by rw [e]; exact h2) (fun e => q3 b9 h1 i a (by omega))
        refine mv_lload (pc := 20) B d_Tree_partingBit_20 3 rfl ?_
        refine mv_aload_n (pc := 22) B d_Tree_partingBit_22 rfl 5 rfl ?_
        refine mv_getR (pc := 23) (ci := 7) (C := R_Program) (T := F_Program) (N := 19) B 11 rfl rfl (by decide) i_Program (B.2.2.2.1 _ k_349) rfl (hq _ 11 53 rfl) d_Tree_partingBit_23 ?_
        refine mv_aload_n (pc := 26) B d_Tree_partingBit_26 rfl 4 rfl ?_
        refine mv_getR (pc := 27) (ci := 8) (C := R_Tree) (T := F_Tree) (N := 5) B 0 rfl rfl (by decide) i_Tree (B.2.2.2.1 _ k_291) rfl (hq _ 0 60 rfl) d_Tree_partingBit_27 ?_
        refine mv_iload (pc := 30) B d_Tree_partingBit_30 0 rfl ?_
        refine mv_iald (pc := 32) B rfl (i32_in (by omega) (by omega)) d_Tree_partingBit_32 ?_
        refine mv_lald (pc := 33) B rfl (i32_in ho.1 ho.2) d_Tree_partingBit_33 ?_
        refine mv_land (pc := 34) B d_Tree_partingBit_34 ?_
        refine mv_lstore (pc := 35) B d_Tree_partingBit_35 (by decide) rfl ?_
        refine mv_lload (pc := 37) B d_Tree_partingBit_37 3 rfl ?_
        refine mv_aload_n (pc := 39) B d_Tree_partingBit_39 rfl 5 rfl ?_
        refine mv_getR (pc := 40) (ci := 7) (C := R_Program) (T := F_Program) (N := 19) B 12 rfl rfl (by decide) i_Program (B.2.2.2.1 _ k_352) rfl (hq _ 12 54 rfl) d_Tree_partingBit_40 ?_
        refine mv_aload_n (pc := 43) B d_Tree_partingBit_43 rfl 4 rfl ?_
        refine mv_getR (pc := 44) (ci := 8) (C := R_Tree) (T := F_Tree) (N := 5) B 0 rfl rfl (by decide) i_Tree (B.2.2.2.1 _ k_291) rfl (hq _ 0 60 rfl) d_Tree_partingBit_44 ?_
        refine mv_iload (pc := 47) B d_Tree_partingBit_47 1 rfl ?_
        refine mv_iald (pc := 49) B rfl (i32_in (by omega) (by omega)) d_Tree_partingBit_49 ?_
        refine mv_lald (pc := 50) B rfl (i32_in ho.1 ho.2) d_Tree_partingBit_50 ?_
        refine mv_lor (pc := 51) B d_Tree_partingBit_51 ?_
        refine mv_lstore (pc := 52) B d_Tree_partingBit_52 (by decide) rfl ?_
        refine mv_lload (pc := 54) B d_Tree_partingBit_54 3 rfl ?_
        refine mv_aload_n (pc := 56) B d_Tree_partingBit_56 rfl 5 rfl ?_
        refine mv_getR (pc := 57) (ci := 7) (C := R_Program) (T := F_Program) (N := 19) B 12 rfl rfl (by decide) i_Program (B.2.2.2.1 _ k_352) rfl (hq _ 12 54 rfl) d_Tree_partingBit_57 ?_
        refine mv_aload_n (pc := 60) B d_Tree_partingBit_60 rfl 4 rfl ?_
        refine mv_getR (pc := 61) (ci := 8) (C := R_Tree) (T := F_Tree) (N := 5) B 0 rfl rfl (by decide) i_Tree (B.2.2.2.1 _ k_291) rfl (hq _ 0 60 rfl) d_Tree_partingBit_61 ?_
        refine mv_iload (pc := 64) B d_Tree_partingBit_64 2 rfl ?_
        refine mv_iald (pc := 66) B rfl (i32_in (by omega) (by omega)) d_Tree_partingBit_66 ?_
        refine mv_lald (pc := 67) B rfl (i32_in ho.1 ho.2) d_Tree_partingBit_67 ?_
        refine mv_ldc2 (pc := 68) (v := -1) B (B.2.2.2.1 _ k_422) d_Tree_partingBit_68 ?_
        refine mv_lxor (pc := 71) B d_Tree_partingBit_71 ?_
        refine mv_lor (pc := 72) B d_Tree_partingBit_72 ?_
        refine mv_lstore (pc := 73) B d_Tree_partingBit_73 (by decide) rfl ?_
        refine mv_iinc (pc := 75) (j := 3) (v := 1) B d_Tree_partingBit_75 rfl (by decide) (by decide) rfl ?_
        refine mv_goto (pc := 78) (tgt := 14) B d_Tree_partingBit_78 rfl ?_
        refine mv_lpick [0, 1, 2, 3, 4, 5, 6, 7] rfl ?_
        exact ih _ _ _ _ (by rw [i32_inc (by omega)]; omega) (by rw [i32_inc (by omega)]; omega) u1 u2 u3 (by rw [i32_inc (by omega)]; omega)
  refine mv_ldc2 (pc := 0) (v := -1) B (B.2.2.2.1 _ k_422) d_Tree_partingBit_0 ?_
  refine mv_lstore (pc := 3) B d_Tree_partingBit_3 (by decide) rfl ?_
  refine mv_lconst (pc := 5) (v := 0) B d_Tree_partingBit_5 (by decide) ?_
  refine mv_lstore (pc := 6) B d_Tree_partingBit_6 (by decide) rfl ?_
  refine mv_lconst (pc := 8) (v := 0) B d_Tree_partingBit_8 (by decide) ?_
  refine mv_lstore (pc := 9) B d_Tree_partingBit_9 (by decide) rfl ?_
  refine mv_iload_n (pc := 11) B d_Tree_partingBit_11 rfl 5 rfl ?_
  refine mv_istore (pc := 12) B d_Tree_partingBit_12 (by decide) rfl ?_
  refine mv_lpick [0, 1, 2, 3, 4, 5, 6, 7] rfl ?_
  exact lp _ _ _ _ _ (Int.le_refl _) g1 (fun b9 h => zero_bit h) (fun b9 h => zero_bit h) (fun b9 h i a b => absurd b (by omega)) (Nat.lt_succ_self _)
set_option maxHeartbeats 4000000 in
set_option maxRecDepth 100000 in
theorem c_Tree_partingBit_c (l : Launch) {dA : FieldType → ClassId} {D : va_G} {al : Nat → Nat} {sk sv : Nat → Nat} (hi : mv_inj (mg dA D al me)) (σ : mv_H) (f e9 : Int32) (hq : Ph 145 (mv_r σ)) (g0 : 0 ≤ f.toInt) (g1 : f.toInt ≤ e9.toInt) (g2 : e9.toInt ≤ 48) (hor : ∀ i : Nat, f.toInt ≤ i → (i : Int) < e9.toInt → 0 ≤ (mv_a σ 157 i).toInt ∧ (mv_a σ 157 i).toInt < 48) : mv_C l y_Tree_partingBit (Cond.code y_Tree_partingBit b_Tree_partingBit 12 (Option.some Jvm.ClassFile.FieldType.int) :: ma) ({ frames := 1, cells := 0, slots := 0, locals := 21 }) (mg dA D al me) (mK sk sv) [.ref (al 156), .ref (al 145), .int f, .int e9] σ (mv_Ri (fun v σ1 => σ1 = σ ∧ (v = -1 ∨ ∃ b, b < 64 ∧ v = Int32.ofNat b ∧ (∃ i : Nat, f.toInt ≤ i ∧ (i : Int) < e9.toInt ∧ tB 145 σ b i = true) ∧ (∃ i : Nat, f.toInt ≤ i ∧ (i : Int) < e9.toInt ∧ tB 145 σ b i = false) ∧ ∀ i : Nat, f.toInt ≤ i → (i : Int) < e9.toInt → (mv_b σ 150 (mv_a σ 157 i).toNatClampNeg).toBitVec.getLsbD b = true))) := by
  refine mv_C.ofV (cc := b_Tree_partingBit) (nL := 12) (ret := (Option.some Jvm.ClassFile.FieldType.int)) (by decide +kernel) rfl hi (Nat.le_of_ble_eq_true rfl) ?_
  intro p e s m below meth c B hNs hr hnm hno
  have lp : ∀ (nn : Nat) (j : Int32) (w9 : Int64) (n9 : Int64) (x9 : Int64) (q0 : f.toInt ≤ j.toInt) (qj : j.toInt ≤ e9.toInt) (q1 : ∀ b9, w9.toBitVec.getLsbD b9 = true → ∃ i : Nat, f.toInt ≤ i ∧ (i : Int) < j.toInt ∧ tB 145 σ b9 i = true) (q2 : ∀ b9, n9.toBitVec.getLsbD b9 = true → ∃ i : Nat, f.toInt ≤ i ∧ (i : Int) < j.toInt ∧ tB 145 σ b9 i = false) (q3 : ∀ b9, x9.toBitVec.getLsbD b9 = true → ∀ i : Nat, f.toInt ≤ i → (i : Int) < j.toInt → (mv_b σ 150 (mv_a σ 157 i).toNatClampNeg).toBitVec.getLsbD b9 = true), (e9.toInt - j.toInt).toNat < nn → mv_V p l e ({ frames := 1, cells := 0, slots := 0, locals := 21 }) s m ([.ref (al 156), .ref (al 145), .int f, .int e9] : List Value).toArray below meth c (mg dA D al me) 12 0 0 (mv_Q (mg dA D al me) below s 0 0 (mv_Ri (fun v σ1 => σ1 = σ ∧ (v = -1 ∨ ∃ b, b < 64 ∧ v = Int32.ofNat b ∧ (∃ i : Nat, f.toInt ≤ i ∧ (i : Int) < e9.toInt ∧ tB 145 σ b i = true) ∧ (∃ i : Nat, f.toInt ≤ i ∧ (i : Int) < e9.toInt ∧ tB 145 σ b i = false) ∧ ∀ i : Nat, f.toInt ≤ i → (i : Int) < e9.toInt → (mv_b σ 150 (mv_a σ 157 i).toNatClampNeg).toBitVec.getLsbD b = true)))) σ 14 [(10, .int j), (8, .long n9), (6, .long w9), (4, .long x9), (0, .ref (al 156)), (1, .ref (al 145)), (2, .int f), (3, .int e9)] [] := by
    intro nn
    induction nn with
    | zero => intro j w9 n9 x9 q0 qj q1 q2 q3 hm; exact absurd hm (Nat.not_lt_zero _)
    | succ nn ih =>
      intro j w9 n9 x9 q0 qj q1 q2 q3 hm
      refine mv_iload (pc := 14) B d_Tree_partingBit_14 0 rfl ?_
      refine mv_iload_n (pc := 16) B d_Tree_partingBit_16 rfl 7 rfl ?_
      refine mv_icmp_ge (pc := 17) (tgt := 81) B d_Tree_partingBit_17 rfl (fun h17 => ?_) (fun h17 => ?_)
      · skip
        rw [Int32.le_iff_toInt_le] at h17
        refine mv_lload (pc := 81) B d_Tree_partingBit_81 3 rfl ?_
        refine mv_lload (pc := 83) B d_Tree_partingBit_83 2 rfl ?_
        refine mv_land (pc := 85) B d_Tree_partingBit_85 ?_
        refine mv_lload (pc := 86) B d_Tree_partingBit_86 1 rfl ?_
        refine mv_land (pc := 88) B d_Tree_partingBit_88 ?_
        refine mv_lstore (pc := 89) B d_Tree_partingBit_89 (by decide) rfl ?_
        refine mv_lload (pc := 91) B d_Tree_partingBit_91 0 rfl ?_
        refine mv_lconst (pc := 93) (v := 0) B d_Tree_partingBit_93 (by decide) ?_
        refine mv_lcmp (pc := 94) B d_Tree_partingBit_94 ?_
        refine mv_if_ne (pc := 95) (tgt := 102) B d_Tree_partingBit_95 rfl (fun h95 => ?_) (fun h95 => ?_)
        · skip
          refine mv_lload (pc := 102) B d_Tree_partingBit_102 0 rfl ?_
          refine mv_lload (pc := 104) B d_Tree_partingBit_104 0 rfl ?_
          refine mv_lneg (pc := 106) B d_Tree_partingBit_106 ?_
          refine mv_land (pc := 107) B d_Tree_partingBit_107 ?_
          refine mv_lconst (pc := 108) (v := 1) B d_Tree_partingBit_108 (by decide) ?_
          refine mv_lsub (pc := 109) B d_Tree_partingBit_109 ?_
          refine mv_callSi (pc := 110) (n := 1) B (mK_ok sk sv) hNs (c_Long_bitCountF l hi _ _) rfl (ma_goodc kc_Long_bitCount) (B.2.2.2.1 _ k_423) (B.2.2.2.1 _ k_424) (B.2.2.2.1 _ k_10) ⟨by decide +kernel, by decide +kernel, by decide +kernel⟩ rfl d_Tree_partingBit_110 rfl (Nat.le_of_ble_eq_true rfl) ⟨by decide, by decide⟩ ⟨by decide, by decide⟩ ⟨by decide, by decide⟩ (mv_noH hno _) (fun v110 σ110 h110 => ?_)
          obtain ⟨e110, b110⟩ := h110
          have e110 := e110.symm
          subst e110
          obtain ⟨b, hb, hpb, hbb⟩ := low_bit _ (lc_ne h95)
          have ha := and_bit hpb
          have hc := and_bit ha.1
          obtain ⟨i1, x1, x2, x3⟩ := q1 b hc.2
          obtain ⟨i2, y1, y2, y3⟩ := q2 b ha.2
          exact mv_iret (pc := 113) B hr rfl d_Tree_partingBit_113 (Nat.le_refl _) (Nat.le_refl _) ⟨_, rfl, rfl, by first | exact Or.inl rfl | exact Or.inr ⟨b, hb, b110.trans hbb, ⟨i1, x1, by omega, x3⟩, ⟨i2, y1, by omega, y3⟩, fun i a e => q3 b hc.1 i a (by omega)⟩⟩
        · skip
          refine mv_iconst (pc := 98) (v := -1) B d_Tree_partingBit_98 (by decide) ?_
          refine mv_goto (pc := 99) (tgt := 113) B d_Tree_partingBit_99 rfl ?_
          exact mv_iret (pc := 113) B hr rfl d_Tree_partingBit_113 (Nat.le_refl _) (Nat.le_refl _) ⟨_, rfl, rfl, by first | exact Or.inl rfl | exact Or.inr ⟨b, hb, b110.trans hbb, ⟨i1, x1, by omega, x3⟩, ⟨i2, y1, by omega, y3⟩, fun i a e => q3 b hc.1 i a (by omega)⟩⟩
      · skip
        rw [Int32.le_iff_toInt_le] at h17
        have ej := i32_cl (x := j) (by omega)
        have ho := hor j.toNatClampNeg (by omega) (by omega)
        have eo := i32_cl (x := mv_a σ 157 j.toNatClampNeg) ho.1
        have u1 : ∀ b9, (w9 ||| mv_b σ 151 (mv_a σ 157 j.toNatClampNeg).toNatClampNeg).toBitVec.getLsbD b9 = true → ∃ i : Nat, f.toInt ≤ i ∧ (i : Int) < (j + 1).toInt ∧ tB 145 σ b9 i = true := fun b9 h => (or_bit h).elim (fun h => by obtain ⟨i, a, b, c⟩ := q1 b9 h; exact ⟨i, a, by rw [i32_inc (by omega)]; omega, c⟩) (fun h => ⟨j.toNatClampNeg, by omega, by rw [i32_inc (by omega)]; omega, h⟩)
        have u2 : ∀ b9, (n9 ||| (mv_b σ 151 (mv_a σ 157 j.toNatClampNeg).toNatClampNeg ^^^ (-1))).toBitVec.getLsbD b9 = true → ∃ i : Nat, f.toInt ≤ i ∧ (i : Int) < (j + 1).toInt ∧ tB 145 σ b9 i = false := fun b9 h => (or_bit h).elim (fun h => by obtain ⟨i, a, b, c⟩ := q2 b9 h; exact ⟨i, a, by rw [i32_inc (by omega)]; omega, c⟩) (fun h => ⟨j.toNatClampNeg, by omega, by rw [i32_inc (by omega)]; omega, not_bit h⟩)
        have u3 : ∀ b9, (x9 &&& mv_b σ 150 (mv_a σ 157 j.toNatClampNeg).toNatClampNeg).toBitVec.getLsbD b9 = true → ∀ i : Nat, f.toInt ≤ i → (i : Int) < (j + 1).toInt → (mv_b σ 150 (mv_a σ 157 i).toNatClampNeg).toBitVec.getLsbD b9 = true := fun b9 h i a b => by obtain ⟨h1, h2⟩ := and_bit h; rw [i32_inc (by omega)] at b; exact (Decidable.em (i = j.toNatClampNeg)).elim (fun e => by rw [e]; exact h2) (fun e => q3 b9 h1 i a (by omega))
        refine mv_lload (pc := 20) B d_Tree_partingBit_20 3 rfl ?_
        refine mv_aload_n (pc := 22) B d_Tree_partingBit_22 rfl 5 rfl ?_
        refine mv_getR (pc := 23) (ci := 7) (C := R_Program) (T := F_Program) (N := 19) B 11 rfl rfl (by decide) i_Program (B.2.2.2.1 _ k_349) rfl (hq _ 11 150 rfl) d_Tree_partingBit_23 ?_
        refine mv_aload_n (pc := 26) B d_Tree_partingBit_26 rfl 4 rfl ?_
        refine mv_getR (pc := 27) (ci := 8) (C := R_Tree) (T := F_Tree) (N := 5) B 0 rfl rfl (by decide) i_Tree (B.2.2.2.1 _ k_291) rfl (hq _ 0 157 rfl) d_Tree_partingBit_27 ?_
        refine mv_iload (pc := 30) B d_Tree_partingBit_30 0 rfl ?_
        refine mv_iald (pc := 32) B rfl (i32_in (by omega) (by omega)) d_Tree_partingBit_32 ?_
        refine mv_lald (pc := 33) B rfl (i32_in ho.1 ho.2) d_Tree_partingBit_33 ?_
        refine mv_land (pc := 34) B d_Tree_partingBit_34 ?_
        refine mv_lstore (pc := 35) B d_Tree_partingBit_35 (by decide) rfl ?_
        refine mv_lload (pc := 37) B d_Tree_partingBit_37 3 rfl ?_
        refine mv_aload_n (pc := 39) B d_Tree_partingBit_39 rfl 5 rfl ?_
        refine mv_getR (pc := 40) (ci := 7) (C := R_Program) (T := F_Program) (N := 19) B 12 rfl rfl (by decide) i_Program (B.2.2.2.1 _ k_352) rfl (hq _ 12 151 rfl) d_Tree_partingBit_40 ?_
        refine mv_aload_n (pc := 43) B d_Tree_partingBit_43 rfl 4 rfl ?_
        refine mv_getR (pc := 44) (ci := 8) (C := R_Tree) (T := F_Tree) (N := 5) B 0 rfl rfl (by decide) i_Tree (B.2.2.2.1 _ k_291) rfl (hq _ 0 157 rfl) d_Tree_partingBit_44 ?_
        refine mv_iload (pc := 47) B d_Tree_partingBit_47 1 rfl ?_
        refine mv_iald (pc := 49) B rfl (i32_in (by omega) (by omega)) d_Tree_partingBit_49 ?_
        refine mv_lald (pc := 50) B rfl (i32_in ho.1 ho.2) d_Tree_partingBit_50 ?_
        refine mv_lor (pc := 51) B d_Tree_partingBit_51 ?_
        refine mv_lstore (pc := 52) B d_Tree_partingBit_52 (by decide) rfl ?_
        refine mv_lload (pc := 54) B d_Tree_partingBit_54 3 rfl ?_
        refine mv_aload_n (pc := 56) B d_Tree_partingBit_56 rfl 5 rfl ?_
        refine mv_getR (pc := 57) (ci := 7) (C := R_Program) (T := F_Program) (N := 19) B 12 rfl rfl (by decide) i_Program (B.2.2.2.1 _ k_352) rfl (hq _ 12 151 rfl) d_Tree_partingBit_57 ?_
        refine mv_aload_n (pc := 60) B d_Tree_partingBit_60 rfl 4 rfl ?_
        refine mv_getR (pc := 61) (ci := 8) (C := R_Tree) (T := F_Tree) (N := 5) B 0 rfl rfl (by decide) i_Tree (B.2.2.2.1 _ k_291) rfl (hq _ 0 157 rfl) d_Tree_partingBit_61 ?_
        refine mv_iload (pc := 64) B d_Tree_partingBit_64 2 rfl ?_
        refine mv_iald (pc := 66) B rfl (i32_in (by omega) (by omega)) d_Tree_partingBit_66 ?_
        refine mv_lald (pc := 67) B rfl (i32_in ho.1 ho.2) d_Tree_partingBit_67 ?_
        refine mv_ldc2 (pc := 68) (v := -1) B (B.2.2.2.1 _ k_422) d_Tree_partingBit_68 ?_
        refine mv_lxor (pc := 71) B d_Tree_partingBit_71 ?_
        refine mv_lor (pc := 72) B d_Tree_partingBit_72 ?_
        refine mv_lstore (pc := 73) B d_Tree_partingBit_73 (by decide) rfl ?_
        refine mv_iinc (pc := 75) (j := 3) (v := 1) B d_Tree_partingBit_75 rfl (by decide) (by decide) rfl ?_
        refine mv_goto (pc := 78) (tgt := 14) B d_Tree_partingBit_78 rfl ?_
        refine mv_lpick [0, 1, 2, 3, 4, 5, 6, 7] rfl ?_
        exact ih _ _ _ _ (by rw [i32_inc (by omega)]; omega) (by rw [i32_inc (by omega)]; omega) u1 u2 u3 (by rw [i32_inc (by omega)]; omega)
  refine mv_ldc2 (pc := 0) (v := -1) B (B.2.2.2.1 _ k_422) d_Tree_partingBit_0 ?_
  refine mv_lstore (pc := 3) B d_Tree_partingBit_3 (by decide) rfl ?_
  refine mv_lconst (pc := 5) (v := 0) B d_Tree_partingBit_5 (by decide) ?_
  refine mv_lstore (pc := 6) B d_Tree_partingBit_6 (by decide) rfl ?_
  refine mv_lconst (pc := 8) (v := 0) B d_Tree_partingBit_8 (by decide) ?_
  refine mv_lstore (pc := 9) B d_Tree_partingBit_9 (by decide) rfl ?_
  refine mv_iload_n (pc := 11) B d_Tree_partingBit_11 rfl 5 rfl ?_
  refine mv_istore (pc := 12) B d_Tree_partingBit_12 (by decide) rfl ?_
  refine mv_lpick [0, 1, 2, 3, 4, 5, 6, 7] rfl ?_
  exact lp _ _ _ _ _ (Int.le_refl _) g1 (fun b9 h => zero_bit h) (fun b9 h => zero_bit h) (fun b9 h i a b => absurd b (by omega)) (Nat.lt_succ_self _)
