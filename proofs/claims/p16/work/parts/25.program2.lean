/-! Program: addOp, aimAll, has, maskOf, apart, unused -/
theorem Lk.up {f g : Nat → Int64} {l : List Nat} : ∀ {p : Int}, Lk f p l → (∀ y ∈ l, g y = f y) → Lk g p l := by
  induction l with
  | nil => intro p h _; exact h
  | cons x xs ih =>
    intro p h hg
    exact ⟨h.1, h.2.1, by rw [hg x List.mem_cons_self]; exact ih h.2.2 (fun y hy => hg y (List.mem_cons_of_mem _ hy))⟩
theorem Lk.rg {f : Nat → Int64} {l : List Nat} {p : Int} {n : Nat} (h : Lk f p l) (hn : ∀ y ∈ l, y < n) (hb : n < 2147483648) : -1 ≤ p ∧ p < 2147483648 := by
  cases l with
  | nil => have e : p = -1 := h; omega
  | cons x xs => have e := h.1; have := hn x List.mem_cons_self; omega
theorem u_row {β : Type} (f : Nat → Nat → β) (o k : Nat) (v : β) (j : Nat) : mv_u f o k v o j = if j = k then v else f o j := by
  unfold mv_u
  by_cases h : j = k
  · rw [if_pos ⟨rfl, h⟩, if_pos h]
  · rw [if_neg (fun q => h q.2), if_neg h]
theorem l2i_toInt {x : Int64} (h1 : -2147483648 ≤ x.toInt) (h2 : x.toInt < 2147483648) : x.toInt32.toInt = x.toInt := by
  rw [Int64.toInt_toInt32]
  exact Int.bmod_eq_of_le (by omega) (by omega)
def pr_op (P : Nat) (σ σ1 : mv_H) : Prop := Fr (fun o k => o = P ∧ k = 10) (fun o => o = P + 7 ∨ o = P + 8) (fun o => o = P + 5 ∨ o = P + 6) σ σ1 ∧ mv_i σ1 P 10 = mv_i σ P 10 + 1 ∧ ∀ j, mv_a σ1 (P + 7) j = if j = (mv_i σ P 10).toNatClampNeg then mv_i σ P 17 else mv_a σ (P + 7) j
def y_Program_addOp : MethodName := ⟨"MachineLoom$Program", "addOp", "([BI)V"⟩
abbrev b_Program_addOp : ByteArray := prog_7_method_4_code
theorem kc_Program_addOp : Cond.code y_Program_addOp b_Program_addOp 9 (Option.none : Option Jvm.ClassFile.FieldType) ∈ ma := ma_of (tb_6 _ (List.mem_of_getElem? (i := 157) rfl)) rfl
theorem k_348 : (Jvm.Cond.fieldLink "MachineLoom$Program" (25 : Nat) "MachineLoom$Program" "masks" "[J") ∈ ma := ma_of (tb_2 _ (List.mem_of_getElem? (i := 108) rfl)) rfl
theorem k_351 : (Jvm.Cond.fieldLink "MachineLoom$Program" (29 : Nat) "MachineLoom$Program" "values" "[J") ∈ ma := ma_of (tb_2 _ (List.mem_of_getElem? (i := 111) rfl)) rfl
theorem k_354 : (Jvm.Cond.fieldLink "MachineLoom$Program" (32 : Nat) "MachineLoom$Program" "starts" "[I") ∈ ma := ma_of (tb_2 _ (List.mem_of_getElem? (i := 114) rfl)) rfl
theorem k_356 : (Jvm.Cond.fieldLink "MachineLoom$Program" (35 : Nat) "MachineLoom$Program" "signs" "[B") ∈ ma := ma_of (tb_2 _ (List.mem_of_getElem? (i := 116) rfl)) rfl
theorem d_Program_addOp_0 : decode b_Program_addOp 0 = .ok (.lconst 0, 1) := by decide +kernel
theorem d_Program_addOp_1 : decode b_Program_addOp 1 = .ok (.lstore_n 3, 1) := by decide +kernel
theorem d_Program_addOp_2 : decode b_Program_addOp 2 = .ok (.lconst 0, 1) := by decide +kernel
theorem d_Program_addOp_3 : decode b_Program_addOp 3 = .ok (.lstore 5, 2) := by decide +kernel
theorem d_Program_addOp_5 : decode b_Program_addOp 5 = .ok (.iconst 0, 1) := by decide +kernel
theorem d_Program_addOp_6 : decode b_Program_addOp 6 = .ok (.istore 7, 2) := by decide +kernel
theorem d_Program_addOp_8 : decode b_Program_addOp 8 = .ok (.iload 7, 2) := by decide +kernel
theorem d_Program_addOp_10 : decode b_Program_addOp 10 = .ok (.aload_n 0, 1) := by decide +kernel
theorem d_Program_addOp_11 : decode b_Program_addOp 11 = .ok (.getfield 54, 3) := by decide +kernel
theorem d_Program_addOp_14 : decode b_Program_addOp 14 = .ok (.if_icmp .ge (79), 3) := by decide +kernel
theorem d_Program_addOp_17 : decode b_Program_addOp 17 = .ok (.aload_n 1, 1) := by decide +kernel
theorem d_Program_addOp_18 : decode b_Program_addOp 18 = .ok (.iload_n 2, 1) := by decide +kernel
theorem d_Program_addOp_19 : decode b_Program_addOp 19 = .ok (.iload 7, 2) := by decide +kernel
theorem d_Program_addOp_21 : decode b_Program_addOp 21 = .ok (.iadd, 1) := by decide +kernel
theorem d_Program_addOp_22 : decode b_Program_addOp 22 = .ok (.baload, 1) := by decide +kernel
theorem d_Program_addOp_23 : decode b_Program_addOp 23 = .ok (.istore 8, 2) := by decide +kernel
theorem d_Program_addOp_25 : decode b_Program_addOp 25 = .ok (.aload_n 0, 1) := by decide +kernel
theorem d_Program_addOp_26 : decode b_Program_addOp 26 = .ok (.getfield 35, 3) := by decide +kernel
theorem d_Program_addOp_29 : decode b_Program_addOp 29 = .ok (.aload_n 0, 1) := by decide +kernel
theorem d_Program_addOp_30 : decode b_Program_addOp 30 = .ok (.getfield 73, 3) := by decide +kernel
theorem d_Program_addOp_33 : decode b_Program_addOp 33 = .ok (.bipush 64, 2) := by decide +kernel
theorem d_Program_addOp_35 : decode b_Program_addOp 35 = .ok (.imul, 1) := by decide +kernel
theorem d_Program_addOp_36 : decode b_Program_addOp 36 = .ok (.iload 7, 2) := by decide +kernel
theorem d_Program_addOp_38 : decode b_Program_addOp 38 = .ok (.iadd, 1) := by decide +kernel
theorem d_Program_addOp_39 : decode b_Program_addOp 39 = .ok (.iload 8, 2) := by decide +kernel
theorem d_Program_addOp_41 : decode b_Program_addOp 41 = .ok (.bastore, 1) := by decide +kernel
theorem d_Program_addOp_42 : decode b_Program_addOp 42 = .ok (.lload_n 3, 1) := by decide +kernel
theorem d_Program_addOp_43 : decode b_Program_addOp 43 = .ok (.iconst 1, 1) := by decide +kernel
theorem d_Program_addOp_44 : decode b_Program_addOp 44 = .ok (.lshl, 1) := by decide +kernel
theorem d_Program_addOp_45 : decode b_Program_addOp 45 = .ok (.iload 8, 2) := by decide +kernel
theorem d_Program_addOp_47 : decode b_Program_addOp 47 = .ok (.bipush 48, 2) := by decide +kernel
theorem d_Program_addOp_49 : decode b_Program_addOp 49 = .ok (.if_icmp .eq (10), 3) := by decide +kernel
theorem d_Program_addOp_52 : decode b_Program_addOp 52 = .ok (.iload 8, 2) := by decide +kernel
theorem d_Program_addOp_54 : decode b_Program_addOp 54 = .ok (.bipush 49, 2) := by decide +kernel
theorem d_Program_addOp_56 : decode b_Program_addOp 56 = .ok (.if_icmp .ne (7), 3) := by decide +kernel
theorem d_Program_addOp_59 : decode b_Program_addOp 59 = .ok (.iconst 1, 1) := by decide +kernel
theorem d_Program_addOp_60 : decode b_Program_addOp 60 = .ok (.goto (4), 3) := by decide +kernel
theorem d_Program_addOp_63 : decode b_Program_addOp 63 = .ok (.iconst 0, 1) := by decide +kernel
theorem d_Program_addOp_64 : decode b_Program_addOp 64 = .ok (.i2l, 1) := by decide +kernel
theorem d_Program_addOp_65 : decode b_Program_addOp 65 = .ok (.lor, 1) := by decide +kernel
theorem d_Program_addOp_66 : decode b_Program_addOp 66 = .ok (.lstore_n 3, 1) := by decide +kernel
theorem d_Program_addOp_67 : decode b_Program_addOp 67 = .ok (.lload 5, 2) := by decide +kernel
theorem d_Program_addOp_69 : decode b_Program_addOp 69 = .ok (.iconst 1, 1) := by decide +kernel
theorem d_Program_addOp_70 : decode b_Program_addOp 70 = .ok (.lshl, 1) := by decide +kernel
theorem d_Program_addOp_71 : decode b_Program_addOp 71 = .ok (.iload 8, 2) := by decide +kernel
theorem d_Program_addOp_73 : decode b_Program_addOp 73 = .ok (.bipush 49, 2) := by decide +kernel
theorem d_Program_addOp_75 : decode b_Program_addOp 75 = .ok (.if_icmp .ne (7), 3) := by decide +kernel
theorem d_Program_addOp_78 : decode b_Program_addOp 78 = .ok (.iconst 1, 1) := by decide +kernel
theorem d_Program_addOp_79 : decode b_Program_addOp 79 = .ok (.goto (4), 3) := by decide +kernel
theorem d_Program_addOp_82 : decode b_Program_addOp 82 = .ok (.iconst 0, 1) := by decide +kernel
theorem d_Program_addOp_83 : decode b_Program_addOp 83 = .ok (.i2l, 1) := by decide +kernel
theorem d_Program_addOp_84 : decode b_Program_addOp 84 = .ok (.lor, 1) := by decide +kernel
theorem d_Program_addOp_85 : decode b_Program_addOp 85 = .ok (.lstore 5, 2) := by decide +kernel
theorem d_Program_addOp_87 : decode b_Program_addOp 87 = .ok (.iinc 7 (1), 3) := by decide +kernel
theorem d_Program_addOp_90 : decode b_Program_addOp 90 = .ok (.goto (-82), 3) := by decide +kernel
theorem d_Program_addOp_93 : decode b_Program_addOp 93 = .ok (.aload_n 0, 1) := by decide +kernel
theorem d_Program_addOp_94 : decode b_Program_addOp 94 = .ok (.getfield 25, 3) := by decide +kernel
theorem d_Program_addOp_97 : decode b_Program_addOp 97 = .ok (.aload_n 0, 1) := by decide +kernel
theorem d_Program_addOp_98 : decode b_Program_addOp 98 = .ok (.getfield 73, 3) := by decide +kernel
theorem d_Program_addOp_101 : decode b_Program_addOp 101 = .ok (.lload_n 3, 1) := by decide +kernel
theorem d_Program_addOp_102 : decode b_Program_addOp 102 = .ok (.lastore, 1) := by decide +kernel
theorem d_Program_addOp_103 : decode b_Program_addOp 103 = .ok (.aload_n 0, 1) := by decide +kernel
theorem d_Program_addOp_104 : decode b_Program_addOp 104 = .ok (.getfield 29, 3) := by decide +kernel
theorem d_Program_addOp_107 : decode b_Program_addOp 107 = .ok (.aload_n 0, 1) := by decide +kernel
theorem d_Program_addOp_108 : decode b_Program_addOp 108 = .ok (.getfield 73, 3) := by decide +kernel
theorem d_Program_addOp_111 : decode b_Program_addOp 111 = .ok (.lload 5, 2) := by decide +kernel
theorem d_Program_addOp_113 : decode b_Program_addOp 113 = .ok (.lastore, 1) := by decide +kernel
theorem d_Program_addOp_114 : decode b_Program_addOp 114 = .ok (.aload_n 0, 1) := by decide +kernel
theorem d_Program_addOp_115 : decode b_Program_addOp 115 = .ok (.getfield 32, 3) := by decide +kernel
theorem d_Program_addOp_118 : decode b_Program_addOp 118 = .ok (.aload_n 0, 1) := by decide +kernel
theorem d_Program_addOp_119 : decode b_Program_addOp 119 = .ok (.getfield 73, 3) := by decide +kernel
theorem d_Program_addOp_122 : decode b_Program_addOp 122 = .ok (.aload_n 0, 1) := by decide +kernel
theorem d_Program_addOp_123 : decode b_Program_addOp 123 = .ok (.getfield 76, 3) := by decide +kernel
theorem d_Program_addOp_126 : decode b_Program_addOp 126 = .ok (.iastore, 1) := by decide +kernel
theorem d_Program_addOp_127 : decode b_Program_addOp 127 = .ok (.aload_n 0, 1) := by decide +kernel
theorem d_Program_addOp_128 : decode b_Program_addOp 128 = .ok (.dup, 1) := by decide +kernel
theorem d_Program_addOp_129 : decode b_Program_addOp 129 = .ok (.getfield 73, 3) := by decide +kernel
theorem d_Program_addOp_132 : decode b_Program_addOp 132 = .ok (.iconst 1, 1) := by decide +kernel
theorem d_Program_addOp_133 : decode b_Program_addOp 133 = .ok (.iadd, 1) := by decide +kernel
theorem d_Program_addOp_134 : decode b_Program_addOp 134 = .ok (.putfield 73, 3) := by decide +kernel
theorem d_Program_addOp_137 : decode b_Program_addOp 137 = .ok (.return_, 1) := by decide +kernel
set_option maxHeartbeats 4000000 in
set_option maxRecDepth 100000 in
theorem c_Program_addOp_a (l : Launch) {dA : FieldType → ClassId} {D : va_G} {al : Nat → Nat} {ext : mv_Sh} {sk sv : Nat → Nat} (hi : mv_inj (mg dA D al ext)) (σ : mv_H) (t tn : Nat) (f : Int32) (hq : Ph 32 (mv_r σ)) (hts : (mb ++ ext)[t]? = some (.inr (.byte, tn))) (htn : tn ≤ 32768) (hf : 0 ≤ f.toInt) (hl0 : 0 ≤ (mv_i σ 32 0).toInt) (hl1 : (mv_i σ 32 0).toInt ≤ 64) (hl2 : f.toInt + (mv_i σ 32 0).toInt ≤ tn) (g0 : 0 ≤ (mv_i σ 32 10).toInt) (g1 : (mv_i σ 32 10).toInt < 512) : mv_C l y_Program_addOp (Cond.code y_Program_addOp b_Program_addOp 9 (Option.none : Option Jvm.ClassFile.FieldType) :: ma) ({ frames := 0, cells := 0, slots := 0, locals := 0 }) (mg dA D al ext) (mK sk sv) [.ref (al 32), .ref (al t), .int f] σ (mv_Rv (fun σ1 => pr_op 32 σ σ1)) := by
  refine mv_C.ofV (cc := b_Program_addOp) (nL := 9) (ret := (Option.none : Option Jvm.ClassFile.FieldType)) (by decide +kernel) rfl hi (Nat.le_of_ble_eq_true rfl) ?_
  intro p e s m below meth c B hNs hr hnm hno
  have lp : ∀ (nn : Nat) (τ : mv_H) (i : Int32) (m9 : Int64) (v9 : Int64) (q0 : 0 ≤ i.toInt) (qi : mv_i τ 32 0 = mv_i σ 32 0 ∧ mv_i τ 32 10 = mv_i σ 32 10) (qq : Ph 32 (mv_r τ)) (qf : Fr (fun _ _ => False) (fun o => o = 40) (fun _ => False) σ τ), (64 - i.toInt).toNat < nn → mv_V p l e ({ frames := 0, cells := 0, slots := 0, locals := 0 }) s m ([.ref (al 32), .ref (al t), .int f] : List Value).toArray below meth c (mg dA D al ext) 9 0 0 (mv_Q (mg dA D al ext) below s 0 0 (mv_Rv (fun σ1 => pr_op 32 σ σ1))) τ 8 [(7, .int i), (5, .long v9), (3, .long m9), (0, .ref (al 32)), (1, .ref (al t)), (2, .int f)] [] := by
    intro nn
    induction nn with
    | zero => intro τ i m9 v9 q0 qi qq qf hm; exact absurd hm (Nat.not_lt_zero _)
    | succ nn ih =>
      intro τ i m9 v9 q0 qi qq qf hm
      refine mv_iload (pc := 8) B d_Program_addOp_8 0 rfl ?_
      refine mv_aload_n (pc := 10) B d_Program_addOp_10 rfl 3 rfl ?_
      refine mv_getI (pc := 11) (ci := 7) (C := R_Program) (T := F_Program) (N := 19) B 0 rfl rfl (by decide) i_Program (B.2.2.2.1 _ k_311) rfl d_Program_addOp_11 ?_
      refine mv_icmp_ge (pc := 14) (tgt := 93) B d_Program_addOp_14 rfl (fun h14 => ?_) (fun h14 => ?_)
      · skip
        have qo0 : 0 ≤ (mv_i τ 32 10).toInt := by rw [qi.2]; exact g0
        have qo1 : (mv_i τ 32 10).toInt < 512 := by rw [qi.2]; exact g1
        have f0 : Fr (fun o k => o = 32 ∧ k = 10) (fun o => o = 39 ∨ o = 40) (fun o => o = 37 ∨ o = 38) σ τ := qf.up (fun _ _ h => h.elim) (fun _ h => Or.inr h) (fun _ h => h.elim)
        refine mv_aload_n (pc := 93) B d_Program_addOp_93 rfl 3 rfl ?_
        refine mv_getR (pc := 94) (ci := 7) (C := R_Program) (T := F_Program) (N := 19) B 11 rfl rfl (by decide) i_Program (B.2.2.2.1 _ k_348) rfl (qq _ 11 37 rfl) d_Program_addOp_94 ?_
        refine mv_aload_n (pc := 97) B d_Program_addOp_97 rfl 3 rfl ?_
        refine mv_getI (pc := 98) (ci := 7) (C := R_Program) (T := F_Program) (N := 19) B 10 rfl rfl (by decide) i_Program (B.2.2.2.1 _ k_345) rfl d_Program_addOp_98 ?_
        refine mv_lload_n (pc := 101) B d_Program_addOp_101 rfl 2 rfl ?_
        refine mv_last (pc := 102) B rfl (i32_in qo0 qo1) d_Program_addOp_102 ?_
        refine mv_aload_n (pc := 103) B d_Program_addOp_103 rfl 3 rfl ?_
        refine mv_getR (pc := 104) (ci := 7) (C := R_Program) (T := F_Program) (N := 19) B 12 rfl rfl (by decide) i_Program (B.2.2.2.1 _ k_351) rfl (qq _ 12 38 rfl) d_Program_addOp_104 ?_
        refine mv_aload_n (pc := 107) B d_Program_addOp_107 rfl 3 rfl ?_
        refine mv_getI (pc := 108) (ci := 7) (C := R_Program) (T := F_Program) (N := 19) B 10 rfl rfl (by decide) i_Program (B.2.2.2.1 _ k_345) rfl d_Program_addOp_108 ?_
        refine mv_lload (pc := 111) B d_Program_addOp_111 1 rfl ?_
        refine mv_last (pc := 113) B rfl (i32_in qo0 qo1) d_Program_addOp_113 ?_
        refine mv_aload_n (pc := 114) B d_Program_addOp_114 rfl 3 rfl ?_
        refine mv_getR (pc := 115) (ci := 7) (C := R_Program) (T := F_Program) (N := 19) B 13 rfl rfl (by decide) i_Program (B.2.2.2.1 _ k_354) rfl (qq _ 13 39 rfl) d_Program_addOp_115 ?_
        refine mv_aload_n (pc := 118) B d_Program_addOp_118 rfl 3 rfl ?_
        refine mv_getI (pc := 119) (ci := 7) (C := R_Program) (T := F_Program) (N := 19) B 10 rfl rfl (by decide) i_Program (B.2.2.2.1 _ k_345) rfl d_Program_addOp_119 ?_
        refine mv_aload_n (pc := 122) B d_Program_addOp_122 rfl 3 rfl ?_
        refine mv_getI (pc := 123) (ci := 7) (C := R_Program) (T := F_Program) (N := 19) B 17 rfl rfl (by decide) i_Program (B.2.2.2.1 _ k_361) rfl d_Program_addOp_123 ?_
        refine mv_iast (pc := 126) B rfl (i32_in qo0 qo1) d_Program_addOp_126 ?_
        refine mv_aload_n (pc := 127) B d_Program_addOp_127 rfl 3 rfl ?_
        refine mv_dup (pc := 128) B d_Program_addOp_128 rfl ?_
        refine mv_getI (pc := 129) (ci := 7) (C := R_Program) (T := F_Program) (N := 19) B 10 rfl rfl (by decide) i_Program (B.2.2.2.1 _ k_345) rfl d_Program_addOp_129 ?_
        refine mv_iconst (pc := 132) (v := 1) B d_Program_addOp_132 (by decide) ?_
        refine mv_iadd (pc := 133) B d_Program_addOp_133 ?_
        refine mv_putI (pc := 134) (ci := 7) (C := R_Program) (T := F_Program) (N := 19) B 10 rfl rfl (by decide) i_Program t_Program_ok n_Program (B.2.2.2.1 _ k_345) rfl rfl rfl rfl d_Program_addOp_134 ?_
        exact mv_vret (pc := 137) B hr d_Program_addOp_137 (Nat.le_refl _) (Nat.le_refl _) ⟨rfl, (((f0.sb (Or.inl rfl)).sb (Or.inr rfl)).sa (Or.inl rfl)).si ⟨rfl, rfl⟩, (show mv_i τ 32 10 + 1 = mv_i σ 32 10 + 1 by rw [qi.2]), fun j => (u_row (mv_a τ) 39 (mv_i τ 32 10).toNatClampNeg (mv_i τ 32 17) j).trans (by rw [qi.2, qf.1 32 17 (fun q => q), qf.2.1 39 (by decide)])⟩
      · skip
        rw [Int32.le_iff_toInt_le, qi.1] at h14
        refine mv_aload_n (pc := 17) B d_Program_addOp_17 rfl 4 rfl ?_
        refine mv_iload_n (pc := 18) B d_Program_addOp_18 rfl 5 rfl ?_
        refine mv_iload (pc := 19) B d_Program_addOp_19 0 rfl ?_
        refine mv_iadd (pc := 21) B d_Program_addOp_21 ?_
        refine mv_topi (fun y21 ey21 => ?_)
        have fy21 := i32_addE ey21 (by (try simp only [Int32.reduceToInt]); omega) (by (try simp only [Int32.reduceToInt]); omega)
        try simp only [Int32.reduceToInt] at fy21
        refine mv_bald (pc := 22) B hts (i32_in (by omega) (by omega)) d_Program_addOp_22 ?_
        refine mv_istore (pc := 23) B d_Program_addOp_23 (by decide) rfl ?_
        have qo : (mv_i τ 32 10).toInt = (mv_i σ 32 10).toInt := by rw [qi.2]
        refine mv_aload_n (pc := 25) B d_Program_addOp_25 rfl 4 rfl ?_
        refine mv_getR (pc := 26) (ci := 7) (C := R_Program) (T := F_Program) (N := 19) B 14 rfl rfl (by decide) i_Program (B.2.2.2.1 _ k_356) rfl (qq _ 14 40 rfl) d_Program_addOp_26 ?_
        refine mv_aload_n (pc := 29) B d_Program_addOp_29 rfl 4 rfl ?_
        refine mv_getI (pc := 30) (ci := 7) (C := R_Program) (T := F_Program) (N := 19) B 10 rfl rfl (by decide) i_Program (B.2.2.2.1 _ k_345) rfl d_Program_addOp_30 ?_
        refine mv_bipush (pc := 33) (v := 64) B d_Program_addOp_33 (by decide) ?_
        refine mv_imul (pc := 35) B d_Program_addOp_35 ?_
        refine mv_topi (fun y35 ey35 => ?_)
        have fy35 := i32_mulE ey35 (by (try simp only [Int32.reduceToInt]); omega) (by (try simp only [Int32.reduceToInt]); omega)
        try simp only [Int32.reduceToInt] at fy35
        refine mv_iload (pc := 36) B d_Program_addOp_36 1 rfl ?_
        refine mv_iadd (pc := 38) B d_Program_addOp_38 ?_
        refine mv_topi (fun y38 ey38 => ?_)
        have fy38 := i32_addE ey38 (by (try simp only [Int32.reduceToInt]); omega) (by (try simp only [Int32.reduceToInt]); omega)
        try simp only [Int32.reduceToInt] at fy38
        refine mv_iload (pc := 39) B d_Program_addOp_39 0 rfl ?_
        refine mv_bast (pc := 41) B rfl (i32_in (by omega) (by omega)) d_Program_addOp_41 ?_
        refine mv_lload_n (pc := 42) B d_Program_addOp_42 rfl 3 rfl ?_
        refine mv_iconst (pc := 43) (v := 1) B d_Program_addOp_43 (by decide) ?_
        refine mv_lshl (pc := 44) B d_Program_addOp_44 ?_
        refine mv_iload (pc := 45) B d_Program_addOp_45 0 rfl ?_
        refine mv_bipush (pc := 47) (v := 48) B d_Program_addOp_47 (by decide) ?_
        refine mv_icmp_eq (pc := 49) (tgt := 59) B d_Program_addOp_49 rfl (fun h49 => ?_) (fun h49 => ?_)
        · skip
          refine mv_iconst (pc := 59) (v := 1) B d_Program_addOp_59 (by decide) ?_
          refine mv_goto (pc := 60) (tgt := 64) B d_Program_addOp_60 rfl ?_
          refine mv_i2l (pc := 64) B d_Program_addOp_64 ?_
          refine mv_lor (pc := 65) B d_Program_addOp_65 ?_
          refine mv_lstore_n (pc := 66) B d_Program_addOp_66 rfl (by decide) rfl ?_
          refine mv_lload (pc := 67) B d_Program_addOp_67 3 rfl ?_
          refine mv_iconst (pc := 69) (v := 1) B d_Program_addOp_69 (by decide) ?_
          refine mv_lshl (pc := 70) B d_Program_addOp_70 ?_
          refine mv_iload (pc := 71) B d_Program_addOp_71 1 rfl ?_
          refine mv_bipush (pc := 73) (v := 49) B d_Program_addOp_73 (by decide) ?_
          refine mv_icmp_ne (pc := 75) (tgt := 82) B d_Program_addOp_75 rfl (fun h75 => ?_) (fun h75 => ?_)
          · skip
            refine mv_iconst (pc := 82) (v := 0) B d_Program_addOp_82 (by decide) ?_
            refine mv_i2l (pc := 83) B d_Program_addOp_83 ?_
            refine mv_lor (pc := 84) B d_Program_addOp_84 ?_
            refine mv_lstore (pc := 85) B d_Program_addOp_85 (by decide) rfl ?_
            refine mv_iinc (pc := 87) (j := 3) (v := 1) B d_Program_addOp_87 rfl (by decide) (by decide) rfl ?_
            refine mv_goto (pc := 90) (tgt := 8) B d_Program_addOp_90 rfl ?_
            refine mv_lpick [0, 1, 2, 4, 5, 6] rfl ?_
            exact ih _ _ _ _ (by rw [i32_inc (by omega)]; omega) qi qq (qf.sa rfl) (by rw [i32_inc (by omega)]; omega)
          · skip
            refine mv_iconst (pc := 78) (v := 1) B d_Program_addOp_78 (by decide) ?_
            refine mv_goto (pc := 79) (tgt := 83) B d_Program_addOp_79 rfl ?_
            refine mv_i2l (pc := 83) B d_Program_addOp_83 ?_
            refine mv_lor (pc := 84) B d_Program_addOp_84 ?_
            refine mv_lstore (pc := 85) B d_Program_addOp_85 (by decide) rfl ?_
            refine mv_iinc (pc := 87) (j := 3) (v := 1) B d_Program_addOp_87 rfl (by decide) (by decide) rfl ?_
            refine mv_goto (pc := 90) (tgt := 8) B d_Program_addOp_90 rfl ?_
            refine mv_lpick [0, 1, 2, 4, 5, 6] rfl ?_
            exact ih _ _ _ _ (by rw [i32_inc (by omega)]; omega) qi qq (qf.sa rfl) (by rw [i32_inc (by omega)]; omega)
        · skip
          refine mv_iload (pc := 52) B d_Program_addOp_52 0 rfl ?_
          refine mv_bipush (pc := 54) (v := 49) B d_Program_addOp_54 (by decide) ?_
          refine mv_icmp_ne (pc := 56) (tgt := 63) B d_Program_addOp_56 rfl (fun h56 => ?_) (fun h56 => ?_)
          · skip
            refine mv_iconst (pc := 63) (v := 0) B d_Program_addOp_63 (by decide) ?_
            refine mv_i2l (pc := 64) B d_Program_addOp_64 ?_
            refine mv_lor (pc := 65) B d_Program_addOp_65 ?_
            refine mv_lstore_n (pc := 66) B d_Program_addOp_66 rfl (by decide) rfl ?_
            refine mv_lload (pc := 67) B d_Program_addOp_67 3 rfl ?_
            refine mv_iconst (pc := 69) (v := 1) B d_Program_addOp_69 (by decide) ?_
            refine mv_lshl (pc := 70) B d_Program_addOp_70 ?_
            refine mv_iload (pc := 71) B d_Program_addOp_71 1 rfl ?_
            refine mv_bipush (pc := 73) (v := 49) B d_Program_addOp_73 (by decide) ?_
            refine mv_icmp_ne (pc := 75) (tgt := 82) B d_Program_addOp_75 rfl (fun h75 => ?_) (fun h75 => ?_)
            · skip
              refine mv_iconst (pc := 82) (v := 0) B d_Program_addOp_82 (by decide) ?_
              refine mv_i2l (pc := 83) B d_Program_addOp_83 ?_
              refine mv_lor (pc := 84) B d_Program_addOp_84 ?_
              refine mv_lstore (pc := 85) B d_Program_addOp_85 (by decide) rfl ?_
              refine mv_iinc (pc := 87) (j := 3) (v := 1) B d_Program_addOp_87 rfl (by decide) (by decide) rfl ?_
              refine mv_goto (pc := 90) (tgt := 8) B d_Program_addOp_90 rfl ?_
              refine mv_lpick [0, 1, 2, 4, 5, 6] rfl ?_
              exact ih _ _ _ _ (by rw [i32_inc (by omega)]; omega) qi qq (qf.sa rfl) (by rw [i32_inc (by omega)]; omega)
            · skip
              refine mv_iconst (pc := 78) (v := 1) B d_Program_addOp_78 (by decide) ?_
              refine mv_goto (pc := 79) (tgt := 83) B d_Program_addOp_79 rfl ?_
              refine mv_i2l (pc := 83) B d_Program_addOp_83 ?_
              refine mv_lor (pc := 84) B d_Program_addOp_84 ?_
              refine mv_lstore (pc := 85) B d_Program_addOp_85 (by decide) rfl ?_
              refine mv_iinc (pc := 87) (j := 3) (v := 1) B d_Program_addOp_87 rfl (by decide) (by decide) rfl ?_
              refine mv_goto (pc := 90) (tgt := 8) B d_Program_addOp_90 rfl ?_
              refine mv_lpick [0, 1, 2, 4, 5, 6] rfl ?_
              exact ih _ _ _ _ (by rw [i32_inc (by omega)]; omega) qi qq (qf.sa rfl) (by rw [i32_inc (by omega)]; omega)
          · skip
            refine mv_iconst (pc := 59) (v := 1) B d_Program_addOp_59 (by decide) ?_
            refine mv_goto (pc := 60) (tgt := 64) B d_Program_addOp_60 rfl ?_
            refine mv_i2l (pc := 64) B d_Program_addOp_64 ?_
            refine mv_lor (pc := 65) B d_Program_addOp_65 ?_
            refine mv_lstore_n (pc := 66) B d_Program_addOp_66 rfl (by decide) rfl ?_
            refine mv_lload (pc := 67) B d_Program_addOp_67 3 rfl ?_
            refine mv_iconst (pc := 69) (v := 1) B d_Program_addOp_69 (by decide) ?_
            refine mv_lshl (pc := 70) B d_Program_addOp_70 ?_
            refine mv_iload (pc := 71) B d_Program_addOp_71 1 rfl ?_
            refine mv_bipush (pc := 73) (v := 49) B d_Program_addOp_73 (by decide) ?_
            refine mv_icmp_ne (pc := 75) (tgt := 82) B d_Program_addOp_75 rfl (fun h75 => ?_) (fun h75 => ?_)
            · skip
              refine mv_iconst (pc := 82) (v := 0) B d_Program_addOp_82 (by decide) ?_
              refine mv_i2l (pc := 83) B d_Program_addOp_83 ?_
              refine mv_lor (pc := 84) B d_Program_addOp_84 ?_
              refine mv_lstore (pc := 85) B d_Program_addOp_85 (by decide) rfl ?_
              refine mv_iinc (pc := 87) (j := 3) (v := 1) B d_Program_addOp_87 rfl (by decide) (by decide) rfl ?_
              refine mv_goto (pc := 90) (tgt := 8) B d_Program_addOp_90 rfl ?_
              refine mv_lpick [0, 1, 2, 4, 5, 6] rfl ?_
              exact ih _ _ _ _ (by rw [i32_inc (by omega)]; omega) qi qq (qf.sa rfl) (by rw [i32_inc (by omega)]; omega)
            · skip
              refine mv_iconst (pc := 78) (v := 1) B d_Program_addOp_78 (by decide) ?_
              refine mv_goto (pc := 79) (tgt := 83) B d_Program_addOp_79 rfl ?_
              refine mv_i2l (pc := 83) B d_Program_addOp_83 ?_
              refine mv_lor (pc := 84) B d_Program_addOp_84 ?_
              refine mv_lstore (pc := 85) B d_Program_addOp_85 (by decide) rfl ?_
              refine mv_iinc (pc := 87) (j := 3) (v := 1) B d_Program_addOp_87 rfl (by decide) (by decide) rfl ?_
              refine mv_goto (pc := 90) (tgt := 8) B d_Program_addOp_90 rfl ?_
              refine mv_lpick [0, 1, 2, 4, 5, 6] rfl ?_
              exact ih _ _ _ _ (by rw [i32_inc (by omega)]; omega) qi qq (qf.sa rfl) (by rw [i32_inc (by omega)]; omega)
  refine mv_lconst (pc := 0) (v := 0) B d_Program_addOp_0 (by decide) ?_
  refine mv_lstore_n (pc := 1) B d_Program_addOp_1 rfl (by decide) rfl ?_
  refine mv_lconst (pc := 2) (v := 0) B d_Program_addOp_2 (by decide) ?_
  refine mv_lstore (pc := 3) B d_Program_addOp_3 (by decide) rfl ?_
  refine mv_iconst (pc := 5) (v := 0) B d_Program_addOp_5 (by decide) ?_
  refine mv_istore (pc := 6) B d_Program_addOp_6 (by decide) rfl ?_
  refine mv_lpick [0, 1, 2, 3, 4, 5] rfl ?_
  exact lp _ _ _ _ _ (by decide) ⟨rfl, rfl⟩ hq Fr.rf (Nat.lt_succ_self _)
set_option maxHeartbeats 4000000 in
set_option maxRecDepth 100000 in
theorem c_Program_addOp_b (l : Launch) {dA : FieldType → ClassId} {D : va_G} {al : Nat → Nat} {ext : mv_Sh} {sk sv : Nat → Nat} (hi : mv_inj (mg dA D al ext)) (σ : mv_H) (t tn : Nat) (f : Int32) (hq : Ph 48 (mv_r σ)) (hts : (mb ++ ext)[t]? = some (.inr (.byte, tn))) (htn : tn ≤ 32768) (hf : 0 ≤ f.toInt) (hl0 : 0 ≤ (mv_i σ 48 0).toInt) (hl1 : (mv_i σ 48 0).toInt ≤ 64) (hl2 : f.toInt + (mv_i σ 48 0).toInt ≤ tn) (g0 : 0 ≤ (mv_i σ 48 10).toInt) (g1 : (mv_i σ 48 10).toInt < 512) : mv_C l y_Program_addOp (Cond.code y_Program_addOp b_Program_addOp 9 (Option.none : Option Jvm.ClassFile.FieldType) :: ma) ({ frames := 0, cells := 0, slots := 0, locals := 0 }) (mg dA D al ext) (mK sk sv) [.ref (al 48), .ref (al t), .int f] σ (mv_Rv (fun σ1 => pr_op 48 σ σ1)) := by
  refine mv_C.ofV (cc := b_Program_addOp) (nL := 9) (ret := (Option.none : Option Jvm.ClassFile.FieldType)) (by decide +kernel) rfl hi (Nat.le_of_ble_eq_true rfl) ?_
  intro p e s m below meth c B hNs hr hnm hno
  have lp : ∀ (nn : Nat) (τ : mv_H) (i : Int32) (m9 : Int64) (v9 : Int64) (q0 : 0 ≤ i.toInt) (qi : mv_i τ 48 0 = mv_i σ 48 0 ∧ mv_i τ 48 10 = mv_i σ 48 10) (qq : Ph 48 (mv_r τ)) (qf : Fr (fun _ _ => False) (fun o => o = 56) (fun _ => False) σ τ), (64 - i.toInt).toNat < nn → mv_V p l e ({ frames := 0, cells := 0, slots := 0, locals := 0 }) s m ([.ref (al 48), .ref (al t), .int f] : List Value).toArray below meth c (mg dA D al ext) 9 0 0 (mv_Q (mg dA D al ext) below s 0 0 (mv_Rv (fun σ1 => pr_op 48 σ σ1))) τ 8 [(7, .int i), (5, .long v9), (3, .long m9), (0, .ref (al 48)), (1, .ref (al t)), (2, .int f)] [] := by
    intro nn
    induction nn with
    | zero => intro τ i m9 v9 q0 qi qq qf hm; exact absurd hm (Nat.not_lt_zero _)
    | succ nn ih =>
      intro τ i m9 v9 q0 qi qq qf hm
      refine mv_iload (pc := 8) B d_Program_addOp_8 0 rfl ?_
      refine mv_aload_n (pc := 10) B d_Program_addOp_10 rfl 3 rfl ?_
      refine mv_getI (pc := 11) (ci := 7) (C := R_Program) (T := F_Program) (N := 19) B 0 rfl rfl (by decide) i_Program (B.2.2.2.1 _ k_311) rfl d_Program_addOp_11 ?_
      refine mv_icmp_ge (pc := 14) (tgt := 93) B d_Program_addOp_14 rfl (fun h14 => ?_) (fun h14 => ?_)
      · skip
        have qo0 : 0 ≤ (mv_i τ 48 10).toInt := by rw [qi.2]; exact g0
        have qo1 : (mv_i τ 48 10).toInt < 512 := by rw [qi.2]; exact g1
        have f0 : Fr (fun o k => o = 48 ∧ k = 10) (fun o => o = 55 ∨ o = 56) (fun o => o = 53 ∨ o = 54) σ τ := qf.up (fun _ _ h => h.elim) (fun _ h => Or.inr h) (fun _ h => h.elim)
        refine mv_aload_n (pc := 93) B d_Program_addOp_93 rfl 3 rfl ?_
        refine mv_getR (pc := 94) (ci := 7) (C := R_Program) (T := F_Program) (N := 19) B 11 rfl rfl (by decide) i_Program (B.2.2.2.1 _ k_348) rfl (qq _ 11 53 rfl) d_Program_addOp_94 ?_
        refine mv_aload_n (pc := 97) B d_Program_addOp_97 rfl 3 rfl ?_
        refine mv_getI (pc := 98) (ci := 7) (C := R_Program) (T := F_Program) (N := 19) B 10 rfl rfl (by decide) i_Program (B.2.2.2.1 _ k_345) rfl d_Program_addOp_98 ?_
        refine mv_lload_n (pc := 101) B d_Program_addOp_101 rfl 2 rfl ?_
        refine mv_last (pc := 102) B rfl (i32_in qo0 qo1) d_Program_addOp_102 ?_
        refine mv_aload_n (pc := 103) B d_Program_addOp_103 rfl 3 rfl ?_
        refine mv_getR (pc := 104) (ci := 7) (C := R_Program) (T := F_Program) (N := 19) B 12 rfl rfl (by decide) i_Program (B.2.2.2.1 _ k_351) rfl (qq _ 12 54 rfl) d_Program_addOp_104 ?_
        refine mv_aload_n (pc := 107) B d_Program_addOp_107 rfl 3 rfl ?_
        refine mv_getI (pc := 108) (ci := 7) (C := R_Program) (T := F_Program) (N := 19) B 10 rfl rfl (by decide) i_Program (B.2.2.2.1 _ k_345) rfl d_Program_addOp_108 ?_
        refine mv_lload (pc := 111) B d_Program_addOp_111 1 rfl ?_
        refine mv_last (pc := 113) B rfl (i32_in qo0 qo1) d_Program_addOp_113 ?_
        refine mv_aload_n (pc := 114) B d_Program_addOp_114 rfl 3 rfl ?_
        refine mv_getR (pc := 115) (ci := 7) (C := R_Program) (T := F_Program) (N := 19) B 13 rfl rfl (by decide) i_Program (B.2.2.2.1 _ k_354) rfl (qq _ 13 55 rfl) d_Program_addOp_115 ?_
        refine mv_aload_n (pc := 118) B d_Program_addOp_118 rfl 3 rfl ?_
        refine mv_getI (pc := 119) (ci := 7) (C := R_Program) (T := F_Program) (N := 19) B 10 rfl rfl (by decide) i_Program (B.2.2.2.1 _ k_345) rfl d_Program_addOp_119 ?_
        refine mv_aload_n (pc := 122) B d_Program_addOp_122 rfl 3 rfl ?_
        refine mv_getI (pc := 123) (ci := 7) (C := R_Program) (T := F_Program) (N := 19) B 17 rfl rfl (by decide) i_Program (B.2.2.2.1 _ k_361) rfl d_Program_addOp_123 ?_
        refine mv_iast (pc := 126) B rfl (i32_in qo0 qo1) d_Program_addOp_126 ?_
        refine mv_aload_n (pc := 127) B d_Program_addOp_127 rfl 3 rfl ?_
        refine mv_dup (pc := 128) B d_Program_addOp_128 rfl ?_
        refine mv_getI (pc := 129) (ci := 7) (C := R_Program) (T := F_Program) (N := 19) B 10 rfl rfl (by decide) i_Program (B.2.2.2.1 _ k_345) rfl d_Program_addOp_129 ?_
        refine mv_iconst (pc := 132) (v := 1) B d_Program_addOp_132 (by decide) ?_
        refine mv_iadd (pc := 133) B d_Program_addOp_133 ?_
        refine mv_putI (pc := 134) (ci := 7) (C := R_Program) (T := F_Program) (N := 19) B 10 rfl rfl (by decide) i_Program t_Program_ok n_Program (B.2.2.2.1 _ k_345) rfl rfl rfl rfl d_Program_addOp_134 ?_
        exact mv_vret (pc := 137) B hr d_Program_addOp_137 (Nat.le_refl _) (Nat.le_refl _) ⟨rfl, (((f0.sb (Or.inl rfl)).sb (Or.inr rfl)).sa (Or.inl rfl)).si ⟨rfl, rfl⟩, (show mv_i τ 48 10 + 1 = mv_i σ 48 10 + 1 by rw [qi.2]), fun j => (u_row (mv_a τ) 55 (mv_i τ 48 10).toNatClampNeg (mv_i τ 48 17) j).trans (by rw [qi.2, qf.1 48 17 (fun q => q), qf.2.1 55 (by decide)])⟩
      · skip
        rw [Int32.le_iff_toInt_le, qi.1] at h14
        refine mv_aload_n (pc := 17) B d_Program_addOp_17 rfl 4 rfl ?_
        refine mv_iload_n (pc := 18) B d_Program_addOp_18 rfl 5 rfl ?_
        refine mv_iload (pc := 19) B d_Program_addOp_19 0 rfl ?_
        refine mv_iadd (pc := 21) B d_Program_addOp_21 ?_
        refine mv_topi (fun y21 ey21 => ?_)
        have fy21 := i32_addE ey21 (by (try simp only [Int32.reduceToInt]); omega) (by (try simp only [Int32.reduceToInt]); omega)
        try simp only [Int32.reduceToInt] at fy21
        refine mv_bald (pc := 22) B hts (i32_in (by omega) (by omega)) d_Program_addOp_22 ?_
        refine mv_istore (pc := 23) B d_Program_addOp_23 (by decide) rfl ?_
        have qo : (mv_i τ 48 10).toInt = (mv_i σ 48 10).toInt := by rw [qi.2]
        refine mv_aload_n (pc := 25) B d_Program_addOp_25 rfl 4 rfl ?_
        refine mv_getR (pc := 26) (ci := 7) (C := R_Program) (T := F_Program) (N := 19) B 14 rfl rfl (by decide) i_Program (B.2.2.2.1 _ k_356) rfl (qq _ 14 56 rfl) d_Program_addOp_26 ?_
        refine mv_aload_n (pc := 29) B d_Program_addOp_29 rfl 4 rfl ?_
        refine mv_getI (pc := 30) (ci := 7) (C := R_Program) (T := F_Program) (N := 19) B 10 rfl rfl (by decide) i_Program (B.2.2.2.1 _ k_345) rfl d_Program_addOp_30 ?_
        refine mv_bipush (pc := 33) (v := 64) B d_Program_addOp_33 (by decide) ?_
        refine mv_imul (pc := 35) B d_Program_addOp_35 ?_
        refine mv_topi (fun y35 ey35 => ?_)
        have fy35 := i32_mulE ey35 (by (try simp only [Int32.reduceToInt]); omega) (by (try simp only [Int32.reduceToInt]); omega)
        try simp only [Int32.reduceToInt] at fy35
        refine mv_iload (pc := 36) B d_Program_addOp_36 1 rfl ?_
        refine mv_iadd (pc := 38) B d_Program_addOp_38 ?_
        refine mv_topi (fun y38 ey38 => ?_)
        have fy38 := i32_addE ey38 (by (try simp only [Int32.reduceToInt]); omega) (by (try simp only [Int32.reduceToInt]); omega)
        try simp only [Int32.reduceToInt] at fy38
        refine mv_iload (pc := 39) B d_Program_addOp_39 0 rfl ?_
        refine mv_bast (pc := 41) B rfl (i32_in (by omega) (by omega)) d_Program_addOp_41 ?_
        refine mv_lload_n (pc := 42) B d_Program_addOp_42 rfl 3 rfl ?_
        refine mv_iconst (pc := 43) (v := 1) B d_Program_addOp_43 (by decide) ?_
        refine mv_lshl (pc := 44) B d_Program_addOp_44 ?_
        refine mv_iload (pc := 45) B d_Program_addOp_45 0 rfl ?_
        refine mv_bipush (pc := 47) (v := 48) B d_Program_addOp_47 (by decide) ?_
        refine mv_icmp_eq (pc := 49) (tgt := 59) B d_Program_addOp_49 rfl (fun h49 => ?_) (fun h49 => ?_)
        · skip
          refine mv_iconst (pc := 59) (v := 1) B d_Program_addOp_59 (by decide) ?_
          refine mv_goto (pc := 60) (tgt := 64) B d_Program_addOp_60 rfl ?_
          refine mv_i2l (pc := 64) B d_Program_addOp_64 ?_
          refine mv_lor (pc := 65) B d_Program_addOp_65 ?_
          refine mv_lstore_n (pc := 66) B d_Program_addOp_66 rfl (by decide) rfl ?_
          refine mv_lload (pc := 67) B d_Program_addOp_67 3 rfl ?_
          refine mv_iconst (pc := 69) (v := 1) B d_Program_addOp_69 (by decide) ?_
          refine mv_lshl (pc := 70) B d_Program_addOp_70 ?_
          refine mv_iload (pc := 71) B d_Program_addOp_71 1 rfl ?_
          refine mv_bipush (pc := 73) (v := 49) B d_Program_addOp_73 (by decide) ?_
          refine mv_icmp_ne (pc := 75) (tgt := 82) B d_Program_addOp_75 rfl (fun h75 => ?_) (fun h75 => ?_)
          · skip
            refine mv_iconst (pc := 82) (v := 0) B d_Program_addOp_82 (by decide) ?_
            refine mv_i2l (pc := 83) B d_Program_addOp_83 ?_
            refine mv_lor (pc := 84) B d_Program_addOp_84 ?_
            refine mv_lstore (pc := 85) B d_Program_addOp_85 (by decide) rfl ?_
            refine mv_iinc (pc := 87) (j := 3) (v := 1) B d_Program_addOp_87 rfl (by decide) (by decide) rfl ?_
            refine mv_goto (pc := 90) (tgt := 8) B d_Program_addOp_90 rfl ?_
            refine mv_lpick [0, 1, 2, 4, 5, 6] rfl ?_
            exact ih _ _ _ _ (by rw [i32_inc (by omega)]; omega) qi qq (qf.sa rfl) (by rw [i32_inc (by omega)]; omega)
          · skip
            refine mv_iconst (pc := 78) (v := 1) B d_Program_addOp_78 (by decide) ?_
            refine mv_goto (pc := 79) (tgt := 83) B d_Program_addOp_79 rfl ?_
            refine mv_i2l (pc := 83) B d_Program_addOp_83 ?_
            refine mv_lor (pc := 84) B d_Program_addOp_84 ?_
            refine mv_lstore (pc := 85) B d_Program_addOp_85 (by decide) rfl ?_
            refine mv_iinc (pc := 87) (j := 3) (v := 1) B d_Program_addOp_87 rfl (by decide) (by decide) rfl ?_
            refine mv_goto (pc := 90) (tgt := 8) B d_Program_addOp_90 rfl ?_
            refine mv_lpick [0, 1, 2, 4, 5, 6] rfl ?_
            exact ih _ _ _ _ (by rw [i32_inc (by omega)]; omega) qi qq (qf.sa rfl) (by rw [i32_inc (by omega)]; omega)
        · skip
          refine mv_iload (pc := 52) B d_Program_addOp_52 0 rfl ?_
          refine mv_bipush (pc := 54) (v := 49) B d_Program_addOp_54 (by decide) ?_
          refine mv_icmp_ne (pc := 56) (tgt := 63) B d_Program_addOp_56 rfl (fun h56 => ?_) (fun h56 => ?_)
          · skip
            refine mv_iconst (pc := 63) (v := 0) B d_Program_addOp_63 (by decide) ?_
            refine mv_i2l (pc := 64) B d_Program_addOp_64 ?_
            refine mv_lor (pc := 65) B d_Program_addOp_65 ?_
            refine mv_lstore_n (pc := 66) B d_Program_addOp_66 rfl (by decide) rfl ?_
            refine mv_lload (pc := 67) B d_Program_addOp_67 3 rfl ?_
            refine mv_iconst (pc := 69) (v := 1) B d_Program_addOp_69 (by decide) ?_
            refine mv_lshl (pc := 70) B d_Program_addOp_70 ?_
            refine mv_iload (pc := 71) B d_Program_addOp_71 1 rfl ?_
            refine mv_bipush (pc := 73) (v := 49) B d_Program_addOp_73 (by decide) ?_
            refine mv_icmp_ne (pc := 75) (tgt := 82) B d_Program_addOp_75 rfl (fun h75 => ?_) (fun h75 => ?_)
            · skip
              refine mv_iconst (pc := 82) (v := 0) B d_Program_addOp_82 (by decide) ?_
              refine mv_i2l (pc := 83) B d_Program_addOp_83 ?_
              refine mv_lor (pc := 84) B d_Program_addOp_84 ?_
              refine mv_lstore (pc := 85) B d_Program_addOp_85 (by decide) rfl ?_
              refine mv_iinc (pc := 87) (j := 3) (v := 1) B d_Program_addOp_87 rfl (by decide) (by decide) rfl ?_
              refine mv_goto (pc := 90) (tgt := 8) B d_Program_addOp_90 rfl ?_
              refine mv_lpick [0, 1, 2, 4, 5, 6] rfl ?_
              exact ih _ _ _ _ (by rw [i32_inc (by omega)]; omega) qi qq (qf.sa rfl) (by rw [i32_inc (by omega)]; omega)
            · skip
              refine mv_iconst (pc := 78) (v := 1) B d_Program_addOp_78 (by decide) ?_
              refine mv_goto (pc := 79) (tgt := 83) B d_Program_addOp_79 rfl ?_
              refine mv_i2l (pc := 83) B d_Program_addOp_83 ?_
              refine mv_lor (pc := 84) B d_Program_addOp_84 ?_
              refine mv_lstore (pc := 85) B d_Program_addOp_85 (by decide) rfl ?_
              refine mv_iinc (pc := 87) (j := 3) (v := 1) B d_Program_addOp_87 rfl (by decide) (by decide) rfl ?_
              refine mv_goto (pc := 90) (tgt := 8) B d_Program_addOp_90 rfl ?_
              refine mv_lpick [0, 1, 2, 4, 5, 6] rfl ?_
              exact ih _ _ _ _ (by rw [i32_inc (by omega)]; omega) qi qq (qf.sa rfl) (by rw [i32_inc (by omega)]; omega)
          · skip
            refine mv_iconst (pc := 59) (v := 1) B d_Program_addOp_59 (by decide) ?_
            refine mv_goto (pc := 60) (tgt := 64) B d_Program_addOp_60 rfl ?_
            refine mv_i2l (pc := 64) B d_Program_addOp_64 ?_
            refine mv_lor (pc := 65) B d_Program_addOp_65 ?_
            refine mv_lstore_n (pc := 66) B d_Program_addOp_66 rfl (by decide) rfl ?_
            refine mv_lload (pc := 67) B d_Program_addOp_67 3 rfl ?_
            refine mv_iconst (pc := 69) (v := 1) B d_Program_addOp_69 (by decide) ?_
            refine mv_lshl (pc := 70) B d_Program_addOp_70 ?_
            refine mv_iload (pc := 71) B d_Program_addOp_71 1 rfl ?_
            refine mv_bipush (pc := 73) (v := 49) B d_Program_addOp_73 (by decide) ?_
            refine mv_icmp_ne (pc := 75) (tgt := 82) B d_Program_addOp_75 rfl (fun h75 => ?_) (fun h75 => ?_)
            · skip
              refine mv_iconst (pc := 82) (v := 0) B d_Program_addOp_82 (by decide) ?_
              refine mv_i2l (pc := 83) B d_Program_addOp_83 ?_
              refine mv_lor (pc := 84) B d_Program_addOp_84 ?_
              refine mv_lstore (pc := 85) B d_Program_addOp_85 (by decide) rfl ?_
              refine mv_iinc (pc := 87) (j := 3) (v := 1) B d_Program_addOp_87 rfl (by decide) (by decide) rfl ?_
              refine mv_goto (pc := 90) (tgt := 8) B d_Program_addOp_90 rfl ?_
              refine mv_lpick [0, 1, 2, 4, 5, 6] rfl ?_
              exact ih _ _ _ _ (by rw [i32_inc (by omega)]; omega) qi qq (qf.sa rfl) (by rw [i32_inc (by omega)]; omega)
            · skip
              refine mv_iconst (pc := 78) (v := 1) B d_Program_addOp_78 (by decide) ?_
              refine mv_goto (pc := 79) (tgt := 83) B d_Program_addOp_79 rfl ?_
              refine mv_i2l (pc := 83) B d_Program_addOp_83 ?_
              refine mv_lor (pc := 84) B d_Program_addOp_84 ?_
              refine mv_lstore (pc := 85) B d_Program_addOp_85 (by decide) rfl ?_
              refine mv_iinc (pc := 87) (j := 3) (v := 1) B d_Program_addOp_87 rfl (by decide) (by decide) rfl ?_
              refine mv_goto (pc := 90) (tgt := 8) B d_Program_addOp_90 rfl ?_
              refine mv_lpick [0, 1, 2, 4, 5, 6] rfl ?_
              exact ih _ _ _ _ (by rw [i32_inc (by omega)]; omega) qi qq (qf.sa rfl) (by rw [i32_inc (by omega)]; omega)
  refine mv_lconst (pc := 0) (v := 0) B d_Program_addOp_0 (by decide) ?_
  refine mv_lstore_n (pc := 1) B d_Program_addOp_1 rfl (by decide) rfl ?_
  refine mv_lconst (pc := 2) (v := 0) B d_Program_addOp_2 (by decide) ?_
  refine mv_lstore (pc := 3) B d_Program_addOp_3 (by decide) rfl ?_
  refine mv_iconst (pc := 5) (v := 0) B d_Program_addOp_5 (by decide) ?_
  refine mv_istore (pc := 6) B d_Program_addOp_6 (by decide) rfl ?_
  refine mv_lpick [0, 1, 2, 3, 4, 5] rfl ?_
  exact lp _ _ _ _ _ (by decide) ⟨rfl, rfl⟩ hq Fr.rf (Nat.lt_succ_self _)
set_option maxHeartbeats 4000000 in
set_option maxRecDepth 100000 in
theorem c_Program_addOp_c (l : Launch) {dA : FieldType → ClassId} {D : va_G} {al : Nat → Nat} {sk sv : Nat → Nat} (hi : mv_inj (mg dA D al me)) (σ : mv_H) (t tn : Nat) (f : Int32) (hq : Ph 145 (mv_r σ)) (hts : (mb ++ me)[t]? = some (.inr (.byte, tn))) (htn : tn ≤ 32768) (hf : 0 ≤ f.toInt) (hl0 : 0 ≤ (mv_i σ 145 0).toInt) (hl1 : (mv_i σ 145 0).toInt ≤ 64) (hl2 : f.toInt + (mv_i σ 145 0).toInt ≤ tn) (g0 : 0 ≤ (mv_i σ 145 10).toInt) (g1 : (mv_i σ 145 10).toInt < 48) : mv_C l y_Program_addOp (Cond.code y_Program_addOp b_Program_addOp 9 (Option.none : Option Jvm.ClassFile.FieldType) :: ma) ({ frames := 0, cells := 0, slots := 0, locals := 0 }) (mg dA D al me) (mK sk sv) [.ref (al 145), .ref (al t), .int f] σ (mv_Rv (fun σ1 => pr_op 145 σ σ1)) := by
  refine mv_C.ofV (cc := b_Program_addOp) (nL := 9) (ret := (Option.none : Option Jvm.ClassFile.FieldType)) (by decide +kernel) rfl hi (Nat.le_of_ble_eq_true rfl) ?_
  intro p e s m below meth c B hNs hr hnm hno
  have lp : ∀ (nn : Nat) (τ : mv_H) (i : Int32) (m9 : Int64) (v9 : Int64) (q0 : 0 ≤ i.toInt) (qi : mv_i τ 145 0 = mv_i σ 145 0 ∧ mv_i τ 145 10 = mv_i σ 145 10) (qq : Ph 145 (mv_r τ)) (qf : Fr (fun _ _ => False) (fun o => o = 153) (fun _ => False) σ τ), (64 - i.toInt).toNat < nn → mv_V p l e ({ frames := 0, cells := 0, slots := 0, locals := 0 }) s m ([.ref (al 145), .ref (al t), .int f] : List Value).toArray below meth c (mg dA D al me) 9 0 0 (mv_Q (mg dA D al me) below s 0 0 (mv_Rv (fun σ1 => pr_op 145 σ σ1))) τ 8 [(7, .int i), (5, .long v9), (3, .long m9), (0, .ref (al 145)), (1, .ref (al t)), (2, .int f)] [] := by
    intro nn
    induction nn with
    | zero => intro τ i m9 v9 q0 qi qq qf hm; exact absurd hm (Nat.not_lt_zero _)
    | succ nn ih =>
      intro τ i m9 v9 q0 qi qq qf hm
      refine mv_iload (pc := 8) B d_Program_addOp_8 0 rfl ?_
      refine mv_aload_n (pc := 10) B d_Program_addOp_10 rfl 3 rfl ?_
      refine mv_getI (pc := 11) (ci := 7) (C := R_Program) (T := F_Program) (N := 19) B 0 rfl rfl (by decide) i_Program (B.2.2.2.1 _ k_311) rfl d_Program_addOp_11 ?_
      refine mv_icmp_ge (pc := 14) (tgt := 93) B d_Program_addOp_14 rfl (fun h14 => ?_) (fun h14 => ?_)
      · skip
        have qo0 : 0 ≤ (mv_i τ 145 10).toInt := by rw [qi.2]; exact g0
        have qo1 : (mv_i τ 145 10).toInt < 48 := by rw [qi.2]; exact g1
        have f0 : Fr (fun o k => o = 145 ∧ k = 10) (fun o => o = 152 ∨ o = 153) (fun o => o = 150 ∨ o = 151) σ τ := qf.up (fun _ _ h => h.elim) (fun _ h => Or.inr h) (fun _ h => h.elim)
        refine mv_aload_n (pc := 93) B d_Program_addOp_93 rfl 3 rfl ?_
        refine mv_getR (pc := 94) (ci := 7) (C := R_Program) (T := F_Program) (N := 19) B 11 rfl rfl (by decide) i_Program (B.2.2.2.1 _ k_348) rfl (qq _ 11 150 rfl) d_Program_addOp_94 ?_
        refine mv_aload_n (pc := 97) B d_Program_addOp_97 rfl 3 rfl ?_
        refine mv_getI (pc := 98) (ci := 7) (C := R_Program) (T := F_Program) (N := 19) B 10 rfl rfl (by decide) i_Program (B.2.2.2.1 _ k_345) rfl d_Program_addOp_98 ?_
        refine mv_lload_n (pc := 101) B d_Program_addOp_101 rfl 2 rfl ?_
        refine mv_last (pc := 102) B rfl (i32_in qo0 qo1) d_Program_addOp_102 ?_
        refine mv_aload_n (pc := 103) B d_Program_addOp_103 rfl 3 rfl ?_
        refine mv_getR (pc := 104) (ci := 7) (C := R_Program) (T := F_Program) (N := 19) B 12 rfl rfl (by decide) i_Program (B.2.2.2.1 _ k_351) rfl (qq _ 12 151 rfl) d_Program_addOp_104 ?_
        refine mv_aload_n (pc := 107) B d_Program_addOp_107 rfl 3 rfl ?_
        refine mv_getI (pc := 108) (ci := 7) (C := R_Program) (T := F_Program) (N := 19) B 10 rfl rfl (by decide) i_Program (B.2.2.2.1 _ k_345) rfl d_Program_addOp_108 ?_
        refine mv_lload (pc := 111) B d_Program_addOp_111 1 rfl ?_
        refine mv_last (pc := 113) B rfl (i32_in qo0 qo1) d_Program_addOp_113 ?_
        refine mv_aload_n (pc := 114) B d_Program_addOp_114 rfl 3 rfl ?_
        refine mv_getR (pc := 115) (ci := 7) (C := R_Program) (T := F_Program) (N := 19) B 13 rfl rfl (by decide) i_Program (B.2.2.2.1 _ k_354) rfl (qq _ 13 152 rfl) d_Program_addOp_115 ?_
        refine mv_aload_n (pc := 118) B d_Program_addOp_118 rfl 3 rfl ?_
        refine mv_getI (pc := 119) (ci := 7) (C := R_Program) (T := F_Program) (N := 19) B 10 rfl rfl (by decide) i_Program (B.2.2.2.1 _ k_345) rfl d_Program_addOp_119 ?_
        refine mv_aload_n (pc := 122) B d_Program_addOp_122 rfl 3 rfl ?_
        refine mv_getI (pc := 123) (ci := 7) (C := R_Program) (T := F_Program) (N := 19) B 17 rfl rfl (by decide) i_Program (B.2.2.2.1 _ k_361) rfl d_Program_addOp_123 ?_
        refine mv_iast (pc := 126) B rfl (i32_in qo0 qo1) d_Program_addOp_126 ?_
        refine mv_aload_n (pc := 127) B d_Program_addOp_127 rfl 3 rfl ?_
        refine mv_dup (pc := 128) B d_Program_addOp_128 rfl ?_
        refine mv_getI (pc := 129) (ci := 7) (C := R_Program) (T := F_Program) (N := 19) B 10 rfl rfl (by decide) i_Program (B.2.2.2.1 _ k_345) rfl d_Program_addOp_129 ?_
        refine mv_iconst (pc := 132) (v := 1) B d_Program_addOp_132 (by decide) ?_
        refine mv_iadd (pc := 133) B d_Program_addOp_133 ?_
        refine mv_putI (pc := 134) (ci := 7) (C := R_Program) (T := F_Program) (N := 19) B 10 rfl rfl (by decide) i_Program t_Program_ok n_Program (B.2.2.2.1 _ k_345) rfl rfl rfl rfl d_Program_addOp_134 ?_
        exact mv_vret (pc := 137) B hr d_Program_addOp_137 (Nat.le_refl _) (Nat.le_refl _) ⟨rfl, (((f0.sb (Or.inl rfl)).sb (Or.inr rfl)).sa (Or.inl rfl)).si ⟨rfl, rfl⟩, (show mv_i τ 145 10 + 1 = mv_i σ 145 10 + 1 by rw [qi.2]), fun j => (u_row (mv_a τ) 152 (mv_i τ 145 10).toNatClampNeg (mv_i τ 145 17) j).trans (by rw [qi.2, qf.1 145 17 (fun q => q), qf.2.1 152 (by decide)])⟩
      · skip
        rw [Int32.le_iff_toInt_le, qi.1] at h14
        refine mv_aload_n (pc := 17) B d_Program_addOp_17 rfl 4 rfl ?_
        refine mv_iload_n (pc := 18) B d_Program_addOp_18 rfl 5 rfl ?_
        refine mv_iload (pc := 19) B d_Program_addOp_19 0 rfl ?_
        refine mv_iadd (pc := 21) B d_Program_addOp_21 ?_
        refine mv_topi (fun y21 ey21 => ?_)
        have fy21 := i32_addE ey21 (by (try simp only [Int32.reduceToInt]); omega) (by (try simp only [Int32.reduceToInt]); omega)
        try simp only [Int32.reduceToInt] at fy21
        refine mv_bald (pc := 22) B hts (i32_in (by omega) (by omega)) d_Program_addOp_22 ?_
        refine mv_istore (pc := 23) B d_Program_addOp_23 (by decide) rfl ?_
        have qo : (mv_i τ 145 10).toInt = (mv_i σ 145 10).toInt := by rw [qi.2]
        refine mv_aload_n (pc := 25) B d_Program_addOp_25 rfl 4 rfl ?_
        refine mv_getR (pc := 26) (ci := 7) (C := R_Program) (T := F_Program) (N := 19) B 14 rfl rfl (by decide) i_Program (B.2.2.2.1 _ k_356) rfl (qq _ 14 153 rfl) d_Program_addOp_26 ?_
        refine mv_aload_n (pc := 29) B d_Program_addOp_29 rfl 4 rfl ?_
        refine mv_getI (pc := 30) (ci := 7) (C := R_Program) (T := F_Program) (N := 19) B 10 rfl rfl (by decide) i_Program (B.2.2.2.1 _ k_345) rfl d_Program_addOp_30 ?_
        refine mv_bipush (pc := 33) (v := 64) B d_Program_addOp_33 (by decide) ?_
        refine mv_imul (pc := 35) B d_Program_addOp_35 ?_
        refine mv_topi (fun y35 ey35 => ?_)
        have fy35 := i32_mulE ey35 (by (try simp only [Int32.reduceToInt]); omega) (by (try simp only [Int32.reduceToInt]); omega)
        try simp only [Int32.reduceToInt] at fy35
        refine mv_iload (pc := 36) B d_Program_addOp_36 1 rfl ?_
        refine mv_iadd (pc := 38) B d_Program_addOp_38 ?_
        refine mv_topi (fun y38 ey38 => ?_)
        have fy38 := i32_addE ey38 (by (try simp only [Int32.reduceToInt]); omega) (by (try simp only [Int32.reduceToInt]); omega)
        try simp only [Int32.reduceToInt] at fy38
        refine mv_iload (pc := 39) B d_Program_addOp_39 0 rfl ?_
        refine mv_bast (pc := 41) B rfl (i32_in (by omega) (by omega)) d_Program_addOp_41 ?_
        refine mv_lload_n (pc := 42) B d_Program_addOp_42 rfl 3 rfl ?_
        refine mv_iconst (pc := 43) (v := 1) B d_Program_addOp_43 (by decide) ?_
        refine mv_lshl (pc := 44) B d_Program_addOp_44 ?_
        refine mv_iload (pc := 45) B d_Program_addOp_45 0 rfl ?_
        refine mv_bipush (pc := 47) (v := 48) B d_Program_addOp_47 (by decide) ?_
        refine mv_icmp_eq (pc := 49) (tgt := 59) B d_Program_addOp_49 rfl (fun h49 => ?_) (fun h49 => ?_)
        · skip
          refine mv_iconst (pc := 59) (v := 1) B d_Program_addOp_59 (by decide) ?_
          refine mv_goto (pc := 60) (tgt := 64) B d_Program_addOp_60 rfl ?_
          refine mv_i2l (pc := 64) B d_Program_addOp_64 ?_
          refine mv_lor (pc := 65) B d_Program_addOp_65 ?_
          refine mv_lstore_n (pc := 66) B d_Program_addOp_66 rfl (by decide) rfl ?_
          refine mv_lload (pc := 67) B d_Program_addOp_67 3 rfl ?_
          refine mv_iconst (pc := 69) (v := 1) B d_Program_addOp_69 (by decide) ?_
          refine mv_lshl (pc := 70) B d_Program_addOp_70 ?_
          refine mv_iload (pc := 71) B d_Program_addOp_71 1 rfl ?_
          refine mv_bipush (pc := 73) (v := 49) B d_Program_addOp_73 (by decide) ?_
          refine mv_icmp_ne (pc := 75) (tgt := 82) B d_Program_addOp_75 rfl (fun h75 => ?_) (fun h75 => ?_)
          · skip
            refine mv_iconst (pc := 82) (v := 0) B d_Program_addOp_82 (by decide) ?_
            refine mv_i2l (pc := 83) B d_Program_addOp_83 ?_
            refine mv_lor (pc := 84) B d_Program_addOp_84 ?_
            refine mv_lstore (pc := 85) B d_Program_addOp_85 (by decide) rfl ?_
            refine mv_iinc (pc := 87) (j := 3) (v := 1) B d_Program_addOp_87 rfl (by decide) (by decide) rfl ?_
            refine mv_goto (pc := 90) (tgt := 8) B d_Program_addOp_90 rfl ?_
            refine mv_lpick [0, 1, 2, 4, 5, 6] rfl ?_
            exact ih _ _ _ _ (by rw [i32_inc (by omega)]; omega) qi qq (qf.sa rfl) (by rw [i32_inc (by omega)]; omega)
          · skip
            refine mv_iconst (pc := 78) (v := 1) B d_Program_addOp_78 (by decide) ?_
            refine mv_goto (pc := 79) (tgt := 83) B d_Program_addOp_79 rfl ?_
            refine mv_i2l (pc := 83) B d_Program_addOp_83 ?_
            refine mv_lor (pc := 84) B d_Program_addOp_84 ?_
            refine mv_lstore (pc := 85) B d_Program_addOp_85 (by decide) rfl ?_
            refine mv_iinc (pc := 87) (j := 3) (v := 1) B d_Program_addOp_87 rfl (by decide) (by decide) rfl ?_
            refine mv_goto (pc := 90) (tgt := 8) B d_Program_addOp_90 rfl ?_
            refine mv_lpick [0, 1, 2, 4, 5, 6] rfl ?_
            exact ih _ _ _ _ (by rw [i32_inc (by omega)]; omega) qi qq (qf.sa rfl) (by rw [i32_inc (by omega)]; omega)
        · skip
          refine mv_iload (pc := 52) B d_Program_addOp_52 0 rfl ?_
          refine mv_bipush (pc := 54) (v := 49) B d_Program_addOp_54 (by decide) ?_
          refine mv_icmp_ne (pc := 56) (tgt := 63) B d_Program_addOp_56 rfl (fun h56 => ?_) (fun h56 => ?_)
          · skip
            refine mv_iconst (pc := 63) (v := 0) B d_Program_addOp_63 (by decide) ?_
            refine mv_i2l (pc := 64) B d_Program_addOp_64 ?_
            refine mv_lor (pc := 65) B d_Program_addOp_65 ?_
            refine mv_lstore_n (pc := 66) B d_Program_addOp_66 rfl (by decide) rfl ?_
            refine mv_lload (pc := 67) B d_Program_addOp_67 3 rfl ?_
            refine mv_iconst (pc := 69) (v := 1) B d_Program_addOp_69 (by decide) ?_
            refine mv_lshl (pc := 70) B d_Program_addOp_70 ?_
            refine mv_iload (pc := 71) B d_Program_addOp_71 1 rfl ?_
            refine mv_bipush (pc := 73) (v := 49) B d_Program_addOp_73 (by decide) ?_
            refine mv_icmp_ne (pc := 75) (tgt := 82) B d_Program_addOp_75 rfl (fun h75 => ?_) (fun h75 => ?_)
            · skip
              refine mv_iconst (pc := 82) (v := 0) B d_Program_addOp_82 (by decide) ?_
              refine mv_i2l (pc := 83) B d_Program_addOp_83 ?_
              refine mv_lor (pc := 84) B d_Program_addOp_84 ?_
              refine mv_lstore (pc := 85) B d_Program_addOp_85 (by decide) rfl ?_
              refine mv_iinc (pc := 87) (j := 3) (v := 1) B d_Program_addOp_87 rfl (by decide) (by decide) rfl ?_
              refine mv_goto (pc := 90) (tgt := 8) B d_Program_addOp_90 rfl ?_
              refine mv_lpick [0, 1, 2, 4, 5, 6] rfl ?_
              exact ih _ _ _ _ (by rw [i32_inc (by omega)]; omega) qi qq (qf.sa rfl) (by rw [i32_inc (by omega)]; omega)
            · skip
              refine mv_iconst (pc := 78) (v := 1) B d_Program_addOp_78 (by decide) ?_
              refine mv_goto (pc := 79) (tgt := 83) B d_Program_addOp_79 rfl ?_
              refine mv_i2l (pc := 83) B d_Program_addOp_83 ?_
              refine mv_lor (pc := 84) B d_Program_addOp_84 ?_
              refine mv_lstore (pc := 85) B d_Program_addOp_85 (by decide) rfl ?_
              refine mv_iinc (pc := 87) (j := 3) (v := 1) B d_Program_addOp_87 rfl (by decide) (by decide) rfl ?_
              refine mv_goto (pc := 90) (tgt := 8) B d_Program_addOp_90 rfl ?_
              refine mv_lpick [0, 1, 2, 4, 5, 6] rfl ?_
              exact ih _ _ _ _ (by rw [i32_inc (by omega)]; omega) qi qq (qf.sa rfl) (by rw [i32_inc (by omega)]; omega)
          · skip
            refine mv_iconst (pc := 59) (v := 1) B d_Program_addOp_59 (by decide) ?_
            refine mv_goto (pc := 60) (tgt := 64) B d_Program_addOp_60 rfl ?_
            refine mv_i2l (pc := 64) B d_Program_addOp_64 ?_
            refine mv_lor (pc := 65) B d_Program_addOp_65 ?_
            refine mv_lstore_n (pc := 66) B d_Program_addOp_66 rfl (by decide) rfl ?_
            refine mv_lload (pc := 67) B d_Program_addOp_67 3 rfl ?_
            refine mv_iconst (pc := 69) (v := 1) B d_Program_addOp_69 (by decide) ?_
            refine mv_lshl (pc := 70) B d_Program_addOp_70 ?_
            refine mv_iload (pc := 71) B d_Program_addOp_71 1 rfl ?_
            refine mv_bipush (pc := 73) (v := 49) B d_Program_addOp_73 (by decide) ?_
            refine mv_icmp_ne (pc := 75) (tgt := 82) B d_Program_addOp_75 rfl (fun h75 => ?_) (fun h75 => ?_)
            · skip
              refine mv_iconst (pc := 82) (v := 0) B d_Program_addOp_82 (by decide) ?_
              refine mv_i2l (pc := 83) B d_Program_addOp_83 ?_
              refine mv_lor (pc := 84) B d_Program_addOp_84 ?_
              refine mv_lstore (pc := 85) B d_Program_addOp_85 (by decide) rfl ?_
              refine mv_iinc (pc := 87) (j := 3) (v := 1) B d_Program_addOp_87 rfl (by decide) (by decide) rfl ?_
              refine mv_goto (pc := 90) (tgt := 8) B d_Program_addOp_90 rfl ?_
              refine mv_lpick [0, 1, 2, 4, 5, 6] rfl ?_
              exact ih _ _ _ _ (by rw [i32_inc (by omega)]; omega) qi qq (qf.sa rfl) (by rw [i32_inc (by omega)]; omega)
            · skip
              refine mv_iconst (pc := 78) (v := 1) B d_Program_addOp_78 (by decide) ?_
              refine mv_goto (pc := 79) (tgt := 83) B d_Program_addOp_79 rfl ?_
              refine mv_i2l (pc := 83) B d_Program_addOp_83 ?_
              refine mv_lor (pc := 84) B d_Program_addOp_84 ?_
              refine mv_lstore (pc := 85) B d_Program_addOp_85 (by decide) rfl ?_
              refine mv_iinc (pc := 87) (j := 3) (v := 1) B d_Program_addOp_87 rfl (by decide) (by decide) rfl ?_
              refine mv_goto (pc := 90) (tgt := 8) B d_Program_addOp_90 rfl ?_
              refine mv_lpick [0, 1, 2, 4, 5, 6] rfl ?_
              exact ih _ _ _ _ (by rw [i32_inc (by omega)]; omega) qi qq (qf.sa rfl) (by rw [i32_inc (by omega)]; omega)
  refine mv_lconst (pc := 0) (v := 0) B d_Program_addOp_0 (by decide) ?_
  refine mv_lstore_n (pc := 1) B d_Program_addOp_1 rfl (by decide) rfl ?_
  refine mv_lconst (pc := 2) (v := 0) B d_Program_addOp_2 (by decide) ?_
  refine mv_lstore (pc := 3) B d_Program_addOp_3 (by decide) rfl ?_
  refine mv_iconst (pc := 5) (v := 0) B d_Program_addOp_5 (by decide) ?_
  refine mv_istore (pc := 6) B d_Program_addOp_6 (by decide) rfl ?_
  refine mv_lpick [0, 1, 2, 3, 4, 5] rfl ?_
  exact lp _ _ _ _ _ (by decide) ⟨rfl, rfl⟩ hq Fr.rf (Nat.lt_succ_self _)
theorem lk_len {f : Nat → Int64} {l : List Nat} : ∀ {p : Int} {n : Nat}, Lk f p l → (∀ y ∈ l, y < n) → l.length ≤ n := by
  induction l with
  | nil => intro p n _ _; exact Nat.zero_le _
  | cons x xs ih =>
    intro p n h hn
    have h1 := ih h.2.2 h.2.1
    have h2 := hn x List.mem_cons_self
    simp only [List.length_cons]
    omega
def y_Program_aimAll : MethodName := ⟨"MachineLoom$Program", "aimAll", "(I)V"⟩
abbrev b_Program_aimAll : ByteArray := prog_7_method_7_code
theorem kc_Program_aimAll : Cond.code y_Program_aimAll b_Program_aimAll 5 (Option.none : Option Jvm.ClassFile.FieldType) ∈ ma := ma_of (tb_6 _ (List.mem_of_getElem? (i := 209) rfl)) rfl
theorem d_Program_aimAll_0 : decode b_Program_aimAll 0 = .ok (.iload_n 1, 1) := by decide +kernel
theorem d_Program_aimAll_1 : decode b_Program_aimAll 1 = .ok (.istore_n 2, 1) := by decide +kernel
theorem d_Program_aimAll_2 : decode b_Program_aimAll 2 = .ok (.iconst 0, 1) := by decide +kernel
theorem d_Program_aimAll_3 : decode b_Program_aimAll 3 = .ok (.istore_n 3, 1) := by decide +kernel
theorem d_Program_aimAll_4 : decode b_Program_aimAll 4 = .ok (.iload_n 3, 1) := by decide +kernel
theorem d_Program_aimAll_5 : decode b_Program_aimAll 5 = .ok (.aload_n 0, 1) := by decide +kernel
theorem d_Program_aimAll_6 : decode b_Program_aimAll 6 = .ok (.getfield 76, 3) := by decide +kernel
theorem d_Program_aimAll_9 : decode b_Program_aimAll 9 = .ok (.if_icmp .ge (36), 3) := by decide +kernel
theorem d_Program_aimAll_12 : decode b_Program_aimAll 12 = .ok (.iload_n 2, 1) := by decide +kernel
theorem d_Program_aimAll_13 : decode b_Program_aimAll 13 = .ok (.ifCond .lt (32), 3) := by decide +kernel
theorem d_Program_aimAll_16 : decode b_Program_aimAll 16 = .ok (.aload_n 0, 1) := by decide +kernel
theorem d_Program_aimAll_17 : decode b_Program_aimAll 17 = .ok (.getfield 42, 3) := by decide +kernel
theorem d_Program_aimAll_20 : decode b_Program_aimAll 20 = .ok (.iload_n 2, 1) := by decide +kernel
theorem d_Program_aimAll_21 : decode b_Program_aimAll 21 = .ok (.laload, 1) := by decide +kernel
theorem d_Program_aimAll_22 : decode b_Program_aimAll 22 = .ok (.l2i, 1) := by decide +kernel
theorem d_Program_aimAll_23 : decode b_Program_aimAll 23 = .ok (.istore 4, 2) := by decide +kernel
theorem d_Program_aimAll_25 : decode b_Program_aimAll 25 = .ok (.aload_n 0, 1) := by decide +kernel
theorem d_Program_aimAll_26 : decode b_Program_aimAll 26 = .ok (.getfield 42, 3) := by decide +kernel
theorem d_Program_aimAll_29 : decode b_Program_aimAll 29 = .ok (.iload_n 2, 1) := by decide +kernel
theorem d_Program_aimAll_30 : decode b_Program_aimAll 30 = .ok (.aload_n 0, 1) := by decide +kernel
theorem d_Program_aimAll_31 : decode b_Program_aimAll 31 = .ok (.getfield 76, 3) := by decide +kernel
theorem d_Program_aimAll_34 : decode b_Program_aimAll 34 = .ok (.i2l, 1) := by decide +kernel
theorem d_Program_aimAll_35 : decode b_Program_aimAll 35 = .ok (.lastore, 1) := by decide +kernel
theorem d_Program_aimAll_36 : decode b_Program_aimAll 36 = .ok (.iload 4, 2) := by decide +kernel
theorem d_Program_aimAll_38 : decode b_Program_aimAll 38 = .ok (.istore_n 2, 1) := by decide +kernel
theorem d_Program_aimAll_39 : decode b_Program_aimAll 39 = .ok (.iinc 3 (1), 3) := by decide +kernel
theorem d_Program_aimAll_42 : decode b_Program_aimAll 42 = .ok (.goto (-38), 3) := by decide +kernel
theorem d_Program_aimAll_45 : decode b_Program_aimAll 45 = .ok (.return_, 1) := by decide +kernel
set_option maxHeartbeats 4000000 in
set_option maxRecDepth 100000 in
theorem c_Program_aimAll_a (l : Launch) {dA : FieldType → ClassId} {D : va_G} {al : Nat → Nat} {ext : mv_Sh} {sk sv : Nat → Nat} (hi : mv_inj (mg dA D al ext)) (σ : mv_H) (k0 : Int32) (sz : Nat) (l0 : List Nat) (hq : Ph 32 (mv_r σ)) (hsz : (mv_i σ 32 17).toInt = sz) (hR : sz ≤ 32768) (hl : Lk (mv_b σ 42) k0.toInt l0) (hls : ∀ y ∈ l0, y < sz) : mv_C l y_Program_aimAll (Cond.code y_Program_aimAll b_Program_aimAll 5 (Option.none : Option Jvm.ClassFile.FieldType) :: ma) ({ frames := 0, cells := 0, slots := 0, locals := 0 }) (mg dA D al ext) (mK sk sv) [.ref (al 32), .int k0] σ (mv_Rv (fun σ1 => Fr (fun _ _ => False) (fun _ => False) (fun o => o = 42) σ σ1 ∧ ∀ j, (j ∈ l0 → mv_b σ1 42 j = (mv_i σ 32 17).toInt64) ∧ (¬ j ∈ l0 → mv_b σ1 42 j = mv_b σ 42 j))) := by
  refine mv_C.ofV (cc := b_Program_aimAll) (nL := 5) (ret := (Option.none : Option Jvm.ClassFile.FieldType)) (by decide +kernel) rfl hi (Nat.le_of_ble_eq_true rfl) ?_
  intro p e s m below meth c B hNs hr hnm hno
  have hln := lk_len hl hls
  have lp : ∀ (nn : Nat) (τ : mv_H) (j : Int32) (k : Int32) (lc : List Nat) (q0 : 0 ≤ j.toInt) (qi : mv_i τ 32 17 = mv_i σ 32 17) (qq : Ph 32 (mv_r τ)) (qf : Fr (fun _ _ => False) (fun _ => False) (fun o => o = 42) σ τ) (ql : Lk (mv_b τ 42) k.toInt lc) (qs : ∀ y ∈ lc, y < sz) (qn : (lc.length : Int) + j.toInt ≤ sz) (qm : ∀ y ∈ lc, y ∈ l0) (qd : ∀ j, (j ∈ l0 → ¬ j ∈ lc → mv_b τ 42 j = (mv_i σ 32 17).toInt64) ∧ (¬ j ∈ l0 → mv_b τ 42 j = mv_b σ 42 j)), (sz - j.toInt).toNat < nn → mv_V p l e ({ frames := 0, cells := 0, slots := 0, locals := 0 }) s m ([.ref (al 32), .int k0] : List Value).toArray below meth c (mg dA D al ext) 5 0 0 (mv_Q (mg dA D al ext) below s 0 0 (mv_Rv (fun σ1 => Fr (fun _ _ => False) (fun _ => False) (fun o => o = 42) σ σ1 ∧ ∀ j, (j ∈ l0 → mv_b σ1 42 j = (mv_i σ 32 17).toInt64) ∧ (¬ j ∈ l0 → mv_b σ1 42 j = mv_b σ 42 j)))) τ 4 [(3, .int j), (2, .int k), (0, .ref (al 32)), (1, .int k0)] [] := by
    intro nn
    induction nn with
    | zero => intro τ j k lc q0 qi qq qf ql qs qn qm qd hm; exact absurd hm (Nat.not_lt_zero _)
    | succ nn ih =>
      intro τ j k lc q0 qi qq qf ql qs qn qm qd hm
      refine mv_iload_n (pc := 4) B d_Program_aimAll_4 rfl 0 rfl ?_
      refine mv_aload_n (pc := 5) B d_Program_aimAll_5 rfl 2 rfl ?_
      refine mv_getI (pc := 6) (ci := 7) (C := R_Program) (T := F_Program) (N := 19) B 17 rfl rfl (by decide) i_Program (B.2.2.2.1 _ k_361) rfl d_Program_aimAll_6 ?_
      refine mv_icmp_ge (pc := 9) (tgt := 45) B d_Program_aimAll_9 rfl (fun h9 => ?_) (fun h9 => ?_)
      · skip
        rw [Int32.le_iff_toInt_le, qi] at h9
        have hl : lc = [] := List.eq_nil_of_length_eq_zero (by omega)
        exact mv_vret (pc := 45) B hr d_Program_aimAll_45 (Nat.le_refl _) (Nat.le_refl _) ⟨rfl, qf, fun j => ⟨fun h => (qd j).1 h (by rw [hl]; exact List.not_mem_nil), (qd j).2⟩⟩
      · skip
        rw [Int32.le_iff_toInt_le, qi] at h9
        refine mv_iload_n (pc := 12) B d_Program_aimAll_12 rfl 1 rfl ?_
        refine mv_if_lt (pc := 13) (tgt := 45) B d_Program_aimAll_13 rfl (fun h13 => ?_) (fun h13 => ?_)
        · skip
          rw [Int32.lt_iff_toInt_lt] at h13
          simp only [Int32.reduceToInt] at h13
          have hl : lc = [] := by
            cases lc with
            | nil => rfl
            | cons x xs => have e := ql.1; omega
          exact mv_vret (pc := 45) B hr d_Program_aimAll_45 (Nat.le_refl _) (Nat.le_refl _) ⟨rfl, qf, fun j => ⟨fun h => (qd j).1 h (by rw [hl]; exact List.not_mem_nil), (qd j).2⟩⟩
        · skip
          rw [Int32.lt_iff_toInt_lt] at h13
          simp only [Int32.reduceToInt] at h13
          cases lc with
          | nil => exact absurd (show k.toInt = -1 from ql) (by omega)
          | cons x xs =>
          have ek : k.toInt = x := ql.1
          have ec := i32_cl (x := k) (by omega)
          have ex : k.toNatClampNeg = x := by omega
          have hxs := qs x List.mem_cons_self
          have rg := ql.2.2.rg (fun y hy => qs y (List.mem_cons_of_mem _ hy)) (by omega)
          have u0 : ((mv_b τ 42 k.toNatClampNeg).toInt32).toInt = (mv_b τ 42 x).toInt := by rw [ex]; exact l2i_toInt (by omega) rg.2
          have u1 : Lk (mv_b (mv_sb τ 42 k.toNatClampNeg (mv_i τ 32 17).toInt64) 42) ((mv_b τ 42 k.toNatClampNeg).toInt32).toInt xs := by rw [u0]; exact ql.2.2.up (fun y hy => mv_u_ne (mv_b τ) _ (fun q => by have := ql.2.1 y hy; omega))
          have u2 : ∀ jj, (jj ∈ l0 → ¬ jj ∈ xs → mv_b (mv_sb τ 42 k.toNatClampNeg (mv_i τ 32 17).toInt64) 42 jj = (mv_i σ 32 17).toInt64) ∧ (¬ jj ∈ l0 → mv_b (mv_sb τ 42 k.toNatClampNeg (mv_i τ 32 17).toInt64) 42 jj = mv_b σ 42 jj) := fun jj => ⟨fun h1 h2 => (u_row (mv_b τ) 42 k.toNatClampNeg (mv_i τ 32 17).toInt64 jj).trans (by
            rw [qi, ex]
            by_cases e : jj = x
            · exact if_pos e
            · exact (if_neg e).trans ((qd jj).1 h1 (fun q => (List.mem_cons.mp q).elim e h2))), fun h1 => (mv_u_ne (mv_b τ) _ (fun q => h1 (by rw [q.2, ex]; exact qm x List.mem_cons_self))).trans ((qd jj).2 h1)⟩
          have u3 : (xs.length : Int) + (j + 1).toInt ≤ sz := by rw [i32_inc (by omega)]; simp only [List.length_cons] at qn; omega
          have u4 : 0 ≤ (j + 1).toInt := by rw [i32_inc (by omega)]; omega
          have u5 : ((sz : Int) - (j + 1).toInt).toNat < nn := by rw [i32_inc (by omega)]; omega
          refine mv_aload_n (pc := 16) B d_Program_aimAll_16 rfl 2 rfl ?_
          refine mv_getR (pc := 17) (ci := 7) (C := R_Program) (T := F_Program) (N := 19) B 16 rfl rfl (by decide) i_Program (B.2.2.2.1 _ k_359) rfl (qq _ 16 42 rfl) d_Program_aimAll_17 ?_
          refine mv_iload_n (pc := 20) B d_Program_aimAll_20 rfl 1 rfl ?_
          refine mv_lald (pc := 21) B rfl (i32_in (by omega) (by omega)) d_Program_aimAll_21 ?_
          refine mv_l2i (pc := 22) B d_Program_aimAll_22 ?_
          refine mv_istore (pc := 23) B d_Program_aimAll_23 (by decide) rfl ?_
          refine mv_aload_n (pc := 25) B d_Program_aimAll_25 rfl 3 rfl ?_
          refine mv_getR (pc := 26) (ci := 7) (C := R_Program) (T := F_Program) (N := 19) B 16 rfl rfl (by decide) i_Program (B.2.2.2.1 _ k_359) rfl (qq _ 16 42 rfl) d_Program_aimAll_26 ?_
          refine mv_iload_n (pc := 29) B d_Program_aimAll_29 rfl 2 rfl ?_
          refine mv_aload_n (pc := 30) B d_Program_aimAll_30 rfl 3 rfl ?_
          refine mv_getI (pc := 31) (ci := 7) (C := R_Program) (T := F_Program) (N := 19) B 17 rfl rfl (by decide) i_Program (B.2.2.2.1 _ k_361) rfl d_Program_aimAll_31 ?_
          refine mv_i2l (pc := 34) B d_Program_aimAll_34 ?_
          refine mv_last (pc := 35) B rfl (i32_in (by omega) (by omega)) d_Program_aimAll_35 ?_
          refine mv_iload (pc := 36) B d_Program_aimAll_36 0 rfl ?_
          refine mv_istore_n (pc := 38) B d_Program_aimAll_38 rfl (by decide) rfl ?_
          refine mv_iinc (pc := 39) (j := 2) (v := 1) B d_Program_aimAll_39 rfl (by decide) (by decide) rfl ?_
          refine mv_goto (pc := 42) (tgt := 4) B d_Program_aimAll_42 rfl ?_
          refine mv_lpick [0, 1, 3, 4] rfl ?_
          exact ih (mv_sb τ 42 k.toNatClampNeg (mv_i τ 32 17).toInt64) _ _ xs u4 qi qq (qf.sb rfl) u1 (fun y hy => qs y (List.mem_cons_of_mem _ hy)) u3 (fun y hy => qm y (List.mem_cons_of_mem _ hy)) u2 u5
  refine mv_iload_n (pc := 0) B d_Program_aimAll_0 rfl 1 rfl ?_
  refine mv_istore_n (pc := 1) B d_Program_aimAll_1 rfl (by decide) rfl ?_
  refine mv_iconst (pc := 2) (v := 0) B d_Program_aimAll_2 (by decide) ?_
  refine mv_istore_n (pc := 3) B d_Program_aimAll_3 rfl (by decide) rfl ?_
  refine mv_lpick [0, 1, 2, 3] rfl ?_
  exact lp _ _ _ _ l0 (by decide) rfl hq Fr.rf hl hls (by show (l0.length : Int) + 0 ≤ sz; omega) (fun y h => h) (fun j => ⟨fun h1 h2 => absurd h1 h2, fun _ => rfl⟩) (Nat.lt_succ_self _)
set_option maxHeartbeats 4000000 in
set_option maxRecDepth 100000 in
theorem c_Program_aimAll_b (l : Launch) {dA : FieldType → ClassId} {D : va_G} {al : Nat → Nat} {ext : mv_Sh} {sk sv : Nat → Nat} (hi : mv_inj (mg dA D al ext)) (σ : mv_H) (k0 : Int32) (sz : Nat) (l0 : List Nat) (hq : Ph 48 (mv_r σ)) (hsz : (mv_i σ 48 17).toInt = sz) (hR : sz ≤ 32768) (hl : Lk (mv_b σ 58) k0.toInt l0) (hls : ∀ y ∈ l0, y < sz) : mv_C l y_Program_aimAll (Cond.code y_Program_aimAll b_Program_aimAll 5 (Option.none : Option Jvm.ClassFile.FieldType) :: ma) ({ frames := 0, cells := 0, slots := 0, locals := 0 }) (mg dA D al ext) (mK sk sv) [.ref (al 48), .int k0] σ (mv_Rv (fun σ1 => Fr (fun _ _ => False) (fun _ => False) (fun o => o = 58) σ σ1 ∧ ∀ j, (j ∈ l0 → mv_b σ1 58 j = (mv_i σ 48 17).toInt64) ∧ (¬ j ∈ l0 → mv_b σ1 58 j = mv_b σ 58 j))) := by
  refine mv_C.ofV (cc := b_Program_aimAll) (nL := 5) (ret := (Option.none : Option Jvm.ClassFile.FieldType)) (by decide +kernel) rfl hi (Nat.le_of_ble_eq_true rfl) ?_
  intro p e s m below meth c B hNs hr hnm hno
  have hln := lk_len hl hls
  have lp : ∀ (nn : Nat) (τ : mv_H) (j : Int32) (k : Int32) (lc : List Nat) (q0 : 0 ≤ j.toInt) (qi : mv_i τ 48 17 = mv_i σ 48 17) (qq : Ph 48 (mv_r τ)) (qf : Fr (fun _ _ => False) (fun _ => False) (fun o => o = 58) σ τ) (ql : Lk (mv_b τ 58) k.toInt lc) (qs : ∀ y ∈ lc, y < sz) (qn : (lc.length : Int) + j.toInt ≤ sz) (qm : ∀ y ∈ lc, y ∈ l0) (qd : ∀ j, (j ∈ l0 → ¬ j ∈ lc → mv_b τ 58 j = (mv_i σ 48 17).toInt64) ∧ (¬ j ∈ l0 → mv_b τ 58 j = mv_b σ 58 j)), (sz - j.toInt).toNat < nn → mv_V p l e ({ frames := 0, cells := 0, slots := 0, locals := 0 }) s m ([.ref (al 48), .int k0] : List Value).toArray below meth c (mg dA D al ext) 5 0 0 (mv_Q (mg dA D al ext) below s 0 0 (mv_Rv (fun σ1 => Fr (fun _ _ => False) (fun _ => False) (fun o => o = 58) σ σ1 ∧ ∀ j, (j ∈ l0 → mv_b σ1 58 j = (mv_i σ 48 17).toInt64) ∧ (¬ j ∈ l0 → mv_b σ1 58 j = mv_b σ 58 j)))) τ 4 [(3, .int j), (2, .int k), (0, .ref (al 48)), (1, .int k0)] [] := by
    intro nn
    induction nn with
    | zero => intro τ j k lc q0 qi qq qf ql qs qn qm qd hm; exact absurd hm (Nat.not_lt_zero _)
    | succ nn ih =>
      intro τ j k lc q0 qi qq qf ql qs qn qm qd hm
      refine mv_iload_n (pc := 4) B d_Program_aimAll_4 rfl 0 rfl ?_
      refine mv_aload_n (pc := 5) B d_Program_aimAll_5 rfl 2 rfl ?_
      refine mv_getI (pc := 6) (ci := 7) (C := R_Program) (T := F_Program) (N := 19) B 17 rfl rfl (by decide) i_Program (B.2.2.2.1 _ k_361) rfl d_Program_aimAll_6 ?_
      refine mv_icmp_ge (pc := 9) (tgt := 45) B d_Program_aimAll_9 rfl (fun h9 => ?_) (fun h9 => ?_)
      · skip
        rw [Int32.le_iff_toInt_le, qi] at h9
        have hl : lc = [] := List.eq_nil_of_length_eq_zero (by omega)
        exact mv_vret (pc := 45) B hr d_Program_aimAll_45 (Nat.le_refl _) (Nat.le_refl _) ⟨rfl, qf, fun j => ⟨fun h => (qd j).1 h (by rw [hl]; exact List.not_mem_nil), (qd j).2⟩⟩
      · skip
        rw [Int32.le_iff_toInt_le, qi] at h9
        refine mv_iload_n (pc := 12) B d_Program_aimAll_12 rfl 1 rfl ?_
        refine mv_if_lt (pc := 13) (tgt := 45) B d_Program_aimAll_13 rfl (fun h13 => ?_) (fun h13 => ?_)
        · skip
          rw [Int32.lt_iff_toInt_lt] at h13
          simp only [Int32.reduceToInt] at h13
          have hl : lc = [] := by
            cases lc with
            | nil => rfl
            | cons x xs => have e := ql.1; omega
          exact mv_vret (pc := 45) B hr d_Program_aimAll_45 (Nat.le_refl _) (Nat.le_refl _) ⟨rfl, qf, fun j => ⟨fun h => (qd j).1 h (by rw [hl]; exact List.not_mem_nil), (qd j).2⟩⟩
        · skip
          rw [Int32.lt_iff_toInt_lt] at h13
          simp only [Int32.reduceToInt] at h13
          cases lc with
          | nil => exact absurd (show k.toInt = -1 from ql) (by omega)
          | cons x xs =>
          have ek : k.toInt = x := ql.1
          have ec := i32_cl (x := k) (by omega)
          have ex : k.toNatClampNeg = x := by omega
          have hxs := qs x List.mem_cons_self
          have rg := ql.2.2.rg (fun y hy => qs y (List.mem_cons_of_mem _ hy)) (by omega)
          have u0 : ((mv_b τ 58 k.toNatClampNeg).toInt32).toInt = (mv_b τ 58 x).toInt := by rw [ex]; exact l2i_toInt (by omega) rg.2
          have u1 : Lk (mv_b (mv_sb τ 58 k.toNatClampNeg (mv_i τ 48 17).toInt64) 58) ((mv_b τ 58 k.toNatClampNeg).toInt32).toInt xs := by rw [u0]; exact ql.2.2.up (fun y hy => mv_u_ne (mv_b τ) _ (fun q => by have := ql.2.1 y hy; omega))
          have u2 : ∀ jj, (jj ∈ l0 → ¬ jj ∈ xs → mv_b (mv_sb τ 58 k.toNatClampNeg (mv_i τ 48 17).toInt64) 58 jj = (mv_i σ 48 17).toInt64) ∧ (¬ jj ∈ l0 → mv_b (mv_sb τ 58 k.toNatClampNeg (mv_i τ 48 17).toInt64) 58 jj = mv_b σ 58 jj) := fun jj => ⟨fun h1 h2 => (u_row (mv_b τ) 58 k.toNatClampNeg (mv_i τ 48 17).toInt64 jj).trans (by
            rw [qi, ex]
            by_cases e : jj = x
            · exact if_pos e
            · exact (if_neg e).trans ((qd jj).1 h1 (fun q => (List.mem_cons.mp q).elim e h2))), fun h1 => (mv_u_ne (mv_b τ) _ (fun q => h1 (by rw [q.2, ex]; exact qm x List.mem_cons_self))).trans ((qd jj).2 h1)⟩
          have u3 : (xs.length : Int) + (j + 1).toInt ≤ sz := by rw [i32_inc (by omega)]; simp only [List.length_cons] at qn; omega
          have u4 : 0 ≤ (j + 1).toInt := by rw [i32_inc (by omega)]; omega
          have u5 : ((sz : Int) - (j + 1).toInt).toNat < nn := by rw [i32_inc (by omega)]; omega
          refine mv_aload_n (pc := 16) B d_Program_aimAll_16 rfl 2 rfl ?_
          refine mv_getR (pc := 17) (ci := 7) (C := R_Program) (T := F_Program) (N := 19) B 16 rfl rfl (by decide) i_Program (B.2.2.2.1 _ k_359) rfl (qq _ 16 58 rfl) d_Program_aimAll_17 ?_
          refine mv_iload_n (pc := 20) B d_Program_aimAll_20 rfl 1 rfl ?_
          refine mv_lald (pc := 21) B rfl (i32_in (by omega) (by omega)) d_Program_aimAll_21 ?_
          refine mv_l2i (pc := 22) B d_Program_aimAll_22 ?_
          refine mv_istore (pc := 23) B d_Program_aimAll_23 (by decide) rfl ?_
          refine mv_aload_n (pc := 25) B d_Program_aimAll_25 rfl 3 rfl ?_
          refine mv_getR (pc := 26) (ci := 7) (C := R_Program) (T := F_Program) (N := 19) B 16 rfl rfl (by decide) i_Program (B.2.2.2.1 _ k_359) rfl (qq _ 16 58 rfl) d_Program_aimAll_26 ?_
          refine mv_iload_n (pc := 29) B d_Program_aimAll_29 rfl 2 rfl ?_
          refine mv_aload_n (pc := 30) B d_Program_aimAll_30 rfl 3 rfl ?_
          refine mv_getI (pc := 31) (ci := 7) (C := R_Program) (T := F_Program) (N := 19) B 17 rfl rfl (by decide) i_Program (B.2.2.2.1 _ k_361) rfl d_Program_aimAll_31 ?_
          refine mv_i2l (pc := 34) B d_Program_aimAll_34 ?_
          refine mv_last (pc := 35) B rfl (i32_in (by omega) (by omega)) d_Program_aimAll_35 ?_
          refine mv_iload (pc := 36) B d_Program_aimAll_36 0 rfl ?_
          refine mv_istore_n (pc := 38) B d_Program_aimAll_38 rfl (by decide) rfl ?_
          refine mv_iinc (pc := 39) (j := 2) (v := 1) B d_Program_aimAll_39 rfl (by decide) (by decide) rfl ?_
          refine mv_goto (pc := 42) (tgt := 4) B d_Program_aimAll_42 rfl ?_
          refine mv_lpick [0, 1, 3, 4] rfl ?_
          exact ih (mv_sb τ 58 k.toNatClampNeg (mv_i τ 48 17).toInt64) _ _ xs u4 qi qq (qf.sb rfl) u1 (fun y hy => qs y (List.mem_cons_of_mem _ hy)) u3 (fun y hy => qm y (List.mem_cons_of_mem _ hy)) u2 u5
  refine mv_iload_n (pc := 0) B d_Program_aimAll_0 rfl 1 rfl ?_
  refine mv_istore_n (pc := 1) B d_Program_aimAll_1 rfl (by decide) rfl ?_
  refine mv_iconst (pc := 2) (v := 0) B d_Program_aimAll_2 (by decide) ?_
  refine mv_istore_n (pc := 3) B d_Program_aimAll_3 rfl (by decide) rfl ?_
  refine mv_lpick [0, 1, 2, 3] rfl ?_
  exact lp _ _ _ _ l0 (by decide) rfl hq Fr.rf hl hls (by show (l0.length : Int) + 0 ≤ sz; omega) (fun y h => h) (fun j => ⟨fun h1 h2 => absurd h1 h2, fun _ => rfl⟩) (Nat.lt_succ_self _)
set_option maxHeartbeats 4000000 in
set_option maxRecDepth 100000 in
theorem c_Program_aimAll_c (l : Launch) {dA : FieldType → ClassId} {D : va_G} {al : Nat → Nat} {sk sv : Nat → Nat} (hi : mv_inj (mg dA D al me)) (σ : mv_H) (k0 : Int32) (sz : Nat) (l0 : List Nat) (hq : Ph 145 (mv_r σ)) (hsz : (mv_i σ 145 17).toInt = sz) (hR : sz ≤ 8192) (hl : Lk (mv_b σ 155) k0.toInt l0) (hls : ∀ y ∈ l0, y < sz) : mv_C l y_Program_aimAll (Cond.code y_Program_aimAll b_Program_aimAll 5 (Option.none : Option Jvm.ClassFile.FieldType) :: ma) ({ frames := 0, cells := 0, slots := 0, locals := 0 }) (mg dA D al me) (mK sk sv) [.ref (al 145), .int k0] σ (mv_Rv (fun σ1 => Fr (fun _ _ => False) (fun _ => False) (fun o => o = 155) σ σ1 ∧ ∀ j, (j ∈ l0 → mv_b σ1 155 j = (mv_i σ 145 17).toInt64) ∧ (¬ j ∈ l0 → mv_b σ1 155 j = mv_b σ 155 j))) := by
  refine mv_C.ofV (cc := b_Program_aimAll) (nL := 5) (ret := (Option.none : Option Jvm.ClassFile.FieldType)) (by decide +kernel) rfl hi (Nat.le_of_ble_eq_true rfl) ?_
  intro p e s m below meth c B hNs hr hnm hno
  have hln := lk_len hl hls
  have lp : ∀ (nn : Nat) (τ : mv_H) (j : Int32) (k : Int32) (lc : List Nat) (q0 : 0 ≤ j.toInt) (qi : mv_i τ 145 17 = mv_i σ 145 17) (qq : Ph 145 (mv_r τ)) (qf : Fr (fun _ _ => False) (fun _ => False) (fun o => o = 155) σ τ) (ql : Lk (mv_b τ 155) k.toInt lc) (qs : ∀ y ∈ lc, y < sz) (qn : (lc.length : Int) + j.toInt ≤ sz) (qm : ∀ y ∈ lc, y ∈ l0) (qd : ∀ j, (j ∈ l0 → ¬ j ∈ lc → mv_b τ 155 j = (mv_i σ 145 17).toInt64) ∧ (¬ j ∈ l0 → mv_b τ 155 j = mv_b σ 155 j)), (sz - j.toInt).toNat < nn → mv_V p l e ({ frames := 0, cells := 0, slots := 0, locals := 0 }) s m ([.ref (al 145), .int k0] : List Value).toArray below meth c (mg dA D al me) 5 0 0 (mv_Q (mg dA D al me) below s 0 0 (mv_Rv (fun σ1 => Fr (fun _ _ => False) (fun _ => False) (fun o => o = 155) σ σ1 ∧ ∀ j, (j ∈ l0 → mv_b σ1 155 j = (mv_i σ 145 17).toInt64) ∧ (¬ j ∈ l0 → mv_b σ1 155 j = mv_b σ 155 j)))) τ 4 [(3, .int j), (2, .int k), (0, .ref (al 145)), (1, .int k0)] [] := by
    intro nn
    induction nn with
    | zero => intro τ j k lc q0 qi qq qf ql qs qn qm qd hm; exact absurd hm (Nat.not_lt_zero _)
    | succ nn ih =>
      intro τ j k lc q0 qi qq qf ql qs qn qm qd hm
      refine mv_iload_n (pc := 4) B d_Program_aimAll_4 rfl 0 rfl ?_
      refine mv_aload_n (pc := 5) B d_Program_aimAll_5 rfl 2 rfl ?_
      refine mv_getI (pc := 6) (ci := 7) (C := R_Program) (T := F_Program) (N := 19) B 17 rfl rfl (by decide) i_Program (B.2.2.2.1 _ k_361) rfl d_Program_aimAll_6 ?_
      refine mv_icmp_ge (pc := 9) (tgt := 45) B d_Program_aimAll_9 rfl (fun h9 => ?_) (fun h9 => ?_)
      · skip
        rw [Int32.le_iff_toInt_le, qi] at h9
        have hl : lc = [] := List.eq_nil_of_length_eq_zero (by omega)
        exact mv_vret (pc := 45) B hr d_Program_aimAll_45 (Nat.le_refl _) (Nat.le_refl _) ⟨rfl, qf, fun j => ⟨fun h => (qd j).1 h (by rw [hl]; exact List.not_mem_nil), (qd j).2⟩⟩
      · skip
        rw [Int32.le_iff_toInt_le, qi] at h9
        refine mv_iload_n (pc := 12) B d_Program_aimAll_12 rfl 1 rfl ?_
        refine mv_if_lt (pc := 13) (tgt := 45) B d_Program_aimAll_13 rfl (fun h13 => ?_) (fun h13 => ?_)
        · skip
          rw [Int32.lt_iff_toInt_lt] at h13
          simp only [Int32.reduceToInt] at h13
          have hl : lc = [] := by
            cases lc with
            | nil => rfl
            | cons x xs => have e := ql.1; omega
          exact mv_vret (pc := 45) B hr d_Program_aimAll_45 (Nat.le_refl _) (Nat.le_refl _) ⟨rfl, qf, fun j => ⟨fun h => (qd j).1 h (by rw [hl]; exact List.not_mem_nil), (qd j).2⟩⟩
        · skip
          rw [Int32.lt_iff_toInt_lt] at h13
          simp only [Int32.reduceToInt] at h13
          cases lc with
          | nil => exact absurd (show k.toInt = -1 from ql) (by omega)
          | cons x xs =>
          have ek : k.toInt = x := ql.1
          have ec := i32_cl (x := k) (by omega)
          have ex : k.toNatClampNeg = x := by omega
          have hxs := qs x List.mem_cons_self
          have rg := ql.2.2.rg (fun y hy => qs y (List.mem_cons_of_mem _ hy)) (by omega)
          have u0 : ((mv_b τ 155 k.toNatClampNeg).toInt32).toInt = (mv_b τ 155 x).toInt := by rw [ex]; exact l2i_toInt (by omega) rg.2
          have u1 : Lk (mv_b (mv_sb τ 155 k.toNatClampNeg (mv_i τ 145 17).toInt64) 155) ((mv_b τ 155 k.toNatClampNeg).toInt32).toInt xs := by rw [u0]; exact ql.2.2.up (fun y hy => mv_u_ne (mv_b τ) _ (fun q => by have := ql.2.1 y hy; omega))
          have u2 : ∀ jj, (jj ∈ l0 → ¬ jj ∈ xs → mv_b (mv_sb τ 155 k.toNatClampNeg (mv_i τ 145 17).toInt64) 155 jj = (mv_i σ 145 17).toInt64) ∧ (¬ jj ∈ l0 → mv_b (mv_sb τ 155 k.toNatClampNeg (mv_i τ 145 17).toInt64) 155 jj = mv_b σ 155 jj) := fun jj => ⟨fun h1 h2 => (u_row (mv_b τ) 155 k.toNatClampNeg (mv_i τ 145 17).toInt64 jj).trans (by
            rw [qi, ex]
            by_cases e : jj = x
            · exact if_pos e
            · exact (if_neg e).trans ((qd jj).1 h1 (fun q => (List.mem_cons.mp q).elim e h2))), fun h1 => (mv_u_ne (mv_b τ) _ (fun q => h1 (by rw [q.2, ex]; exact qm x List.mem_cons_self))).trans ((qd jj).2 h1)⟩
          have u3 : (xs.length : Int) + (j + 1).toInt ≤ sz := by rw [i32_inc (by omega)]; simp only [List.length_cons] at qn; omega
          have u4 : 0 ≤ (j + 1).toInt := by rw [i32_inc (by omega)]; omega
          have u5 : ((sz : Int) - (j + 1).toInt).toNat < nn := by rw [i32_inc (by omega)]; omega
          refine mv_aload_n (pc := 16) B d_Program_aimAll_16 rfl 2 rfl ?_
          refine mv_getR (pc := 17) (ci := 7) (C := R_Program) (T := F_Program) (N := 19) B 16 rfl rfl (by decide) i_Program (B.2.2.2.1 _ k_359) rfl (qq _ 16 155 rfl) d_Program_aimAll_17 ?_
          refine mv_iload_n (pc := 20) B d_Program_aimAll_20 rfl 1 rfl ?_
          refine mv_lald (pc := 21) B rfl (i32_in (by omega) (by omega)) d_Program_aimAll_21 ?_
          refine mv_l2i (pc := 22) B d_Program_aimAll_22 ?_
          refine mv_istore (pc := 23) B d_Program_aimAll_23 (by decide) rfl ?_
          refine mv_aload_n (pc := 25) B d_Program_aimAll_25 rfl 3 rfl ?_
          refine mv_getR (pc := 26) (ci := 7) (C := R_Program) (T := F_Program) (N := 19) B 16 rfl rfl (by decide) i_Program (B.2.2.2.1 _ k_359) rfl (qq _ 16 155 rfl) d_Program_aimAll_26 ?_
          refine mv_iload_n (pc := 29) B d_Program_aimAll_29 rfl 2 rfl ?_
          refine mv_aload_n (pc := 30) B d_Program_aimAll_30 rfl 3 rfl ?_
          refine mv_getI (pc := 31) (ci := 7) (C := R_Program) (T := F_Program) (N := 19) B 17 rfl rfl (by decide) i_Program (B.2.2.2.1 _ k_361) rfl d_Program_aimAll_31 ?_
          refine mv_i2l (pc := 34) B d_Program_aimAll_34 ?_
          refine mv_last (pc := 35) B rfl (i32_in (by omega) (by omega)) d_Program_aimAll_35 ?_
          refine mv_iload (pc := 36) B d_Program_aimAll_36 0 rfl ?_
          refine mv_istore_n (pc := 38) B d_Program_aimAll_38 rfl (by decide) rfl ?_
          refine mv_iinc (pc := 39) (j := 2) (v := 1) B d_Program_aimAll_39 rfl (by decide) (by decide) rfl ?_
          refine mv_goto (pc := 42) (tgt := 4) B d_Program_aimAll_42 rfl ?_
          refine mv_lpick [0, 1, 3, 4] rfl ?_
          exact ih (mv_sb τ 155 k.toNatClampNeg (mv_i τ 145 17).toInt64) _ _ xs u4 qi qq (qf.sb rfl) u1 (fun y hy => qs y (List.mem_cons_of_mem _ hy)) u3 (fun y hy => qm y (List.mem_cons_of_mem _ hy)) u2 u5
  refine mv_iload_n (pc := 0) B d_Program_aimAll_0 rfl 1 rfl ?_
  refine mv_istore_n (pc := 1) B d_Program_aimAll_1 rfl (by decide) rfl ?_
  refine mv_iconst (pc := 2) (v := 0) B d_Program_aimAll_2 (by decide) ?_
  refine mv_istore_n (pc := 3) B d_Program_aimAll_3 rfl (by decide) rfl ?_
  refine mv_lpick [0, 1, 2, 3] rfl ?_
  exact lp _ _ _ _ l0 (by decide) rfl hq Fr.rf hl hls (by show (l0.length : Int) + 0 ≤ sz; omega) (fun y h => h) (fun j => ⟨fun h1 h2 => absurd h1 h2, fun _ => rfl⟩) (Nat.lt_succ_self _)
def y_Program_has : MethodName := ⟨"MachineLoom$Program", "has", "(II)Z"⟩
abbrev b_Program_has : ByteArray := prog_7_method_8_code
theorem kc_Program_has : Cond.code y_Program_has b_Program_has 3 (Option.some Jvm.ClassFile.FieldType.boolean) ∈ ma := ma_of (tb_8 _ (List.mem_of_getElem? (i := 97) rfl)) rfl
theorem d_Program_has_0 : decode b_Program_has 0 = .ok (.iload_n 1, 1) := by decide +kernel
theorem d_Program_has_1 : decode b_Program_has 1 = .ok (.ifCond .lt (15), 3) := by decide +kernel
theorem d_Program_has_4 : decode b_Program_has 4 = .ok (.iload_n 1, 1) := by decide +kernel
theorem d_Program_has_5 : decode b_Program_has 5 = .ok (.aload_n 0, 1) := by decide +kernel
theorem d_Program_has_6 : decode b_Program_has 6 = .ok (.getfield 58, 3) := by decide +kernel
theorem d_Program_has_9 : decode b_Program_has 9 = .ok (.if_icmp .ge (7), 3) := by decide +kernel
theorem d_Program_has_12 : decode b_Program_has 12 = .ok (.iload_n 2, 1) := by decide +kernel
theorem d_Program_has_13 : decode b_Program_has 13 = .ok (.ifCond .ge (5), 3) := by decide +kernel
theorem d_Program_has_16 : decode b_Program_has 16 = .ok (.iconst 0, 1) := by decide +kernel
theorem d_Program_has_17 : decode b_Program_has 17 = .ok (.ireturn, 1) := by decide +kernel
theorem d_Program_has_18 : decode b_Program_has 18 = .ok (.aload_n 0, 1) := by decide +kernel
theorem d_Program_has_19 : decode b_Program_has 19 = .ok (.getfield 15, 3) := by decide +kernel
theorem d_Program_has_22 : decode b_Program_has 22 = .ok (.iload_n 1, 1) := by decide +kernel
theorem d_Program_has_23 : decode b_Program_has 23 = .ok (.iaload, 1) := by decide +kernel
theorem d_Program_has_24 : decode b_Program_has 24 = .ok (.ifCond .ne (15), 3) := by decide +kernel
theorem d_Program_has_27 : decode b_Program_has 27 = .ok (.iload_n 2, 1) := by decide +kernel
theorem d_Program_has_28 : decode b_Program_has 28 = .ok (.ifCond .ne (7), 3) := by decide +kernel
theorem d_Program_has_31 : decode b_Program_has 31 = .ok (.iconst 1, 1) := by decide +kernel
theorem d_Program_has_32 : decode b_Program_has 32 = .ok (.goto (22), 3) := by decide +kernel
theorem d_Program_has_35 : decode b_Program_has 35 = .ok (.iconst 0, 1) := by decide +kernel
theorem d_Program_has_36 : decode b_Program_has 36 = .ok (.goto (18), 3) := by decide +kernel
theorem d_Program_has_39 : decode b_Program_has 39 = .ok (.iload_n 2, 1) := by decide +kernel
theorem d_Program_has_40 : decode b_Program_has 40 = .ok (.aload_n 0, 1) := by decide +kernel
theorem d_Program_has_41 : decode b_Program_has 41 = .ok (.getfield 15, 3) := by decide +kernel
theorem d_Program_has_44 : decode b_Program_has 44 = .ok (.iload_n 1, 1) := by decide +kernel
theorem d_Program_has_45 : decode b_Program_has 45 = .ok (.iaload, 1) := by decide +kernel
theorem d_Program_has_46 : decode b_Program_has 46 = .ok (.if_icmp .ge (7), 3) := by decide +kernel
theorem d_Program_has_49 : decode b_Program_has 49 = .ok (.iconst 1, 1) := by decide +kernel
theorem d_Program_has_50 : decode b_Program_has 50 = .ok (.goto (4), 3) := by decide +kernel
theorem d_Program_has_53 : decode b_Program_has 53 = .ok (.iconst 0, 1) := by decide +kernel
theorem d_Program_has_54 : decode b_Program_has 54 = .ok (.ireturn, 1) := by decide +kernel
set_option maxHeartbeats 4000000 in
set_option maxRecDepth 100000 in
theorem c_Program_has_a (l : Launch) {dA : FieldType → ClassId} {D : va_G} {al : Nat → Nat} {ext : mv_Sh} {sk sv : Nat → Nat} (hi : mv_inj (mg dA D al ext)) (σ : mv_H) (t i : Int32) (hq : Ph 32 (mv_r σ)) (g1 : (mv_i σ 32 1).toInt ≤ 64) : mv_C l y_Program_has (Cond.code y_Program_has b_Program_has 3 (Option.some Jvm.ClassFile.FieldType.boolean) :: ma) ({ frames := 0, cells := 0, slots := 0, locals := 0 }) (mg dA D al ext) (mK sk sv) [.ref (al 32), .int t, .int i] σ (mv_Ri (fun v σ1 => σ1 = σ ∧ (v = 0 ∨ (v = 1 ∧ 0 ≤ t.toInt ∧ t.toInt < (mv_i σ 32 1).toInt ∧ 0 ≤ i.toInt ∧ ((mv_a σ 34 t.toNatClampNeg = 0 ∧ i = 0) ∨ (¬ mv_a σ 34 t.toNatClampNeg = 0 ∧ i.toInt < (mv_a σ 34 t.toNatClampNeg).toInt)))))) := by
  refine mv_C.ofV (cc := b_Program_has) (nL := 3) (ret := (Option.some Jvm.ClassFile.FieldType.boolean)) (by decide +kernel) rfl hi (Nat.le_of_ble_eq_true rfl) ?_
  intro p e s m below meth c B hNs hr hnm hno
  refine mv_iload_n (pc := 0) B d_Program_has_0 rfl 1 rfl ?_
  refine mv_if_lt (pc := 1) (tgt := 16) B d_Program_has_1 rfl (fun h1 => ?_) (fun h1 => ?_)
  · skip
    refine mv_iconst (pc := 16) (v := 0) B d_Program_has_16 (by decide) ?_
    exact mv_iret (pc := 17) B hr rfl d_Program_has_17 (Nat.le_refl _) (Nat.le_refl _) ⟨_, rfl, rfl, by first | exact Or.inl rfl | exact Or.inr ⟨rfl, by omega, by omega, h13, Or.inl ⟨h24, h28⟩⟩ | exact Or.inr ⟨rfl, by omega, by omega, h13, Or.inr ⟨h24, by omega⟩⟩⟩
  · skip
    rw [Int32.lt_iff_toInt_lt] at h1
    simp only [Int32.reduceToInt] at h1
    refine mv_iload_n (pc := 4) B d_Program_has_4 rfl 1 rfl ?_
    refine mv_aload_n (pc := 5) B d_Program_has_5 rfl 0 rfl ?_
    refine mv_getI (pc := 6) (ci := 7) (C := R_Program) (T := F_Program) (N := 19) B 1 rfl rfl (by decide) i_Program (B.2.2.2.1 _ k_315) rfl d_Program_has_6 ?_
    refine mv_icmp_ge (pc := 9) (tgt := 16) B d_Program_has_9 rfl (fun h9 => ?_) (fun h9 => ?_)
    · skip
      refine mv_iconst (pc := 16) (v := 0) B d_Program_has_16 (by decide) ?_
      exact mv_iret (pc := 17) B hr rfl d_Program_has_17 (Nat.le_refl _) (Nat.le_refl _) ⟨_, rfl, rfl, by first | exact Or.inl rfl | exact Or.inr ⟨rfl, by omega, by omega, h13, Or.inl ⟨h24, h28⟩⟩ | exact Or.inr ⟨rfl, by omega, by omega, h13, Or.inr ⟨h24, by omega⟩⟩⟩
    · skip
      rw [Int32.le_iff_toInt_le] at h9
      refine mv_iload_n (pc := 12) B d_Program_has_12 rfl 2 rfl ?_
      refine mv_if_ge (pc := 13) (tgt := 18) B d_Program_has_13 rfl (fun h13 => ?_) (fun h13 => ?_)
      · skip
        rw [Int32.le_iff_toInt_le] at h13
        simp only [Int32.reduceToInt] at h13
        refine mv_aload_n (pc := 18) B d_Program_has_18 rfl 0 rfl ?_
        refine mv_getR (pc := 19) (ci := 7) (C := R_Program) (T := F_Program) (N := 19) B 3 rfl rfl (by decide) i_Program (B.2.2.2.1 _ k_323) rfl (hq _ 3 34 rfl) d_Program_has_19 ?_
        refine mv_iload_n (pc := 22) B d_Program_has_22 rfl 1 rfl ?_
        refine mv_iald (pc := 23) B rfl (i32_in (by omega) (by omega)) d_Program_has_23 ?_
        refine mv_if_ne (pc := 24) (tgt := 39) B d_Program_has_24 rfl (fun h24 => ?_) (fun h24 => ?_)
        · skip
          refine mv_iload_n (pc := 39) B d_Program_has_39 rfl 2 rfl ?_
          refine mv_aload_n (pc := 40) B d_Program_has_40 rfl 0 rfl ?_
          refine mv_getR (pc := 41) (ci := 7) (C := R_Program) (T := F_Program) (N := 19) B 3 rfl rfl (by decide) i_Program (B.2.2.2.1 _ k_323) rfl (hq _ 3 34 rfl) d_Program_has_41 ?_
          refine mv_iload_n (pc := 44) B d_Program_has_44 rfl 1 rfl ?_
          refine mv_iald (pc := 45) B rfl (i32_in (by omega) (by omega)) d_Program_has_45 ?_
          refine mv_icmp_ge (pc := 46) (tgt := 53) B d_Program_has_46 rfl (fun h46 => ?_) (fun h46 => ?_)
          · skip
            refine mv_iconst (pc := 53) (v := 0) B d_Program_has_53 (by decide) ?_
            exact mv_iret (pc := 54) B hr rfl d_Program_has_54 (Nat.le_refl _) (Nat.le_refl _) ⟨_, rfl, rfl, by first | exact Or.inl rfl | exact Or.inr ⟨rfl, by omega, by omega, h13, Or.inl ⟨h24, h28⟩⟩ | exact Or.inr ⟨rfl, by omega, by omega, h13, Or.inr ⟨h24, by omega⟩⟩⟩
          · skip
            rw [Int32.le_iff_toInt_le] at h46
            refine mv_iconst (pc := 49) (v := 1) B d_Program_has_49 (by decide) ?_
            refine mv_goto (pc := 50) (tgt := 54) B d_Program_has_50 rfl ?_
            exact mv_iret (pc := 54) B hr rfl d_Program_has_54 (Nat.le_refl _) (Nat.le_refl _) ⟨_, rfl, rfl, by first | exact Or.inl rfl | exact Or.inr ⟨rfl, by omega, by omega, h13, Or.inl ⟨h24, h28⟩⟩ | exact Or.inr ⟨rfl, by omega, by omega, h13, Or.inr ⟨h24, by omega⟩⟩⟩
        · skip
          refine mv_iload_n (pc := 27) B d_Program_has_27 rfl 2 rfl ?_
          refine mv_if_ne (pc := 28) (tgt := 35) B d_Program_has_28 rfl (fun h28 => ?_) (fun h28 => ?_)
          · skip
            refine mv_iconst (pc := 35) (v := 0) B d_Program_has_35 (by decide) ?_
            refine mv_goto (pc := 36) (tgt := 54) B d_Program_has_36 rfl ?_
            exact mv_iret (pc := 54) B hr rfl d_Program_has_54 (Nat.le_refl _) (Nat.le_refl _) ⟨_, rfl, rfl, by first | exact Or.inl rfl | exact Or.inr ⟨rfl, by omega, by omega, h13, Or.inl ⟨h24, h28⟩⟩ | exact Or.inr ⟨rfl, by omega, by omega, h13, Or.inr ⟨h24, by omega⟩⟩⟩
          · skip
            refine mv_iconst (pc := 31) (v := 1) B d_Program_has_31 (by decide) ?_
            refine mv_goto (pc := 32) (tgt := 54) B d_Program_has_32 rfl ?_
            exact mv_iret (pc := 54) B hr rfl d_Program_has_54 (Nat.le_refl _) (Nat.le_refl _) ⟨_, rfl, rfl, by first | exact Or.inl rfl | exact Or.inr ⟨rfl, by omega, by omega, h13, Or.inl ⟨h24, h28⟩⟩ | exact Or.inr ⟨rfl, by omega, by omega, h13, Or.inr ⟨h24, by omega⟩⟩⟩
      · skip
        refine mv_iconst (pc := 16) (v := 0) B d_Program_has_16 (by decide) ?_
        exact mv_iret (pc := 17) B hr rfl d_Program_has_17 (Nat.le_refl _) (Nat.le_refl _) ⟨_, rfl, rfl, by first | exact Or.inl rfl | exact Or.inr ⟨rfl, by omega, by omega, h13, Or.inl ⟨h24, h28⟩⟩ | exact Or.inr ⟨rfl, by omega, by omega, h13, Or.inr ⟨h24, by omega⟩⟩⟩
set_option maxHeartbeats 4000000 in
set_option maxRecDepth 100000 in
theorem c_Program_has_b (l : Launch) {dA : FieldType → ClassId} {D : va_G} {al : Nat → Nat} {ext : mv_Sh} {sk sv : Nat → Nat} (hi : mv_inj (mg dA D al ext)) (σ : mv_H) (t i : Int32) (hq : Ph 48 (mv_r σ)) (g1 : (mv_i σ 48 1).toInt ≤ 64) : mv_C l y_Program_has (Cond.code y_Program_has b_Program_has 3 (Option.some Jvm.ClassFile.FieldType.boolean) :: ma) ({ frames := 0, cells := 0, slots := 0, locals := 0 }) (mg dA D al ext) (mK sk sv) [.ref (al 48), .int t, .int i] σ (mv_Ri (fun v σ1 => σ1 = σ ∧ (v = 0 ∨ (v = 1 ∧ 0 ≤ t.toInt ∧ t.toInt < (mv_i σ 48 1).toInt ∧ 0 ≤ i.toInt ∧ ((mv_a σ 50 t.toNatClampNeg = 0 ∧ i = 0) ∨ (¬ mv_a σ 50 t.toNatClampNeg = 0 ∧ i.toInt < (mv_a σ 50 t.toNatClampNeg).toInt)))))) := by
  refine mv_C.ofV (cc := b_Program_has) (nL := 3) (ret := (Option.some Jvm.ClassFile.FieldType.boolean)) (by decide +kernel) rfl hi (Nat.le_of_ble_eq_true rfl) ?_
  intro p e s m below meth c B hNs hr hnm hno
  refine mv_iload_n (pc := 0) B d_Program_has_0 rfl 1 rfl ?_
  refine mv_if_lt (pc := 1) (tgt := 16) B d_Program_has_1 rfl (fun h1 => ?_) (fun h1 => ?_)
  · skip
    refine mv_iconst (pc := 16) (v := 0) B d_Program_has_16 (by decide) ?_
    exact mv_iret (pc := 17) B hr rfl d_Program_has_17 (Nat.le_refl _) (Nat.le_refl _) ⟨_, rfl, rfl, by first | exact Or.inl rfl | exact Or.inr ⟨rfl, by omega, by omega, h13, Or.inl ⟨h24, h28⟩⟩ | exact Or.inr ⟨rfl, by omega, by omega, h13, Or.inr ⟨h24, by omega⟩⟩⟩
  · skip
    rw [Int32.lt_iff_toInt_lt] at h1
    simp only [Int32.reduceToInt] at h1
    refine mv_iload_n (pc := 4) B d_Program_has_4 rfl 1 rfl ?_
    refine mv_aload_n (pc := 5) B d_Program_has_5 rfl 0 rfl ?_
    refine mv_getI (pc := 6) (ci := 7) (C := R_Program) (T := F_Program) (N := 19) B 1 rfl rfl (by decide) i_Program (B.2.2.2.1 _ k_315) rfl d_Program_has_6 ?_
    refine mv_icmp_ge (pc := 9) (tgt := 16) B d_Program_has_9 rfl (fun h9 => ?_) (fun h9 => ?_)
    · skip
      refine mv_iconst (pc := 16) (v := 0) B d_Program_has_16 (by decide) ?_
      exact mv_iret (pc := 17) B hr rfl d_Program_has_17 (Nat.le_refl _) (Nat.le_refl _) ⟨_, rfl, rfl, by first | exact Or.inl rfl | exact Or.inr ⟨rfl, by omega, by omega, h13, Or.inl ⟨h24, h28⟩⟩ | exact Or.inr ⟨rfl, by omega, by omega, h13, Or.inr ⟨h24, by omega⟩⟩⟩
    · skip
      rw [Int32.le_iff_toInt_le] at h9
      refine mv_iload_n (pc := 12) B d_Program_has_12 rfl 2 rfl ?_
      refine mv_if_ge (pc := 13) (tgt := 18) B d_Program_has_13 rfl (fun h13 => ?_) (fun h13 => ?_)
      · skip
        rw [Int32.le_iff_toInt_le] at h13
        simp only [Int32.reduceToInt] at h13
        refine mv_aload_n (pc := 18) B d_Program_has_18 rfl 0 rfl ?_
        refine mv_getR (pc := 19) (ci := 7) (C := R_Program) (T := F_Program) (N := 19) B 3 rfl rfl (by decide) i_Program (B.2.2.2.1 _ k_323) rfl (hq _ 3 50 rfl) d_Program_has_19 ?_
        refine mv_iload_n (pc := 22) B d_Program_has_22 rfl 1 rfl ?_
        refine mv_iald (pc := 23) B rfl (i32_in (by omega) (by omega)) d_Program_has_23 ?_
        refine mv_if_ne (pc := 24) (tgt := 39) B d_Program_has_24 rfl (fun h24 => ?_) (fun h24 => ?_)
        · skip
          refine mv_iload_n (pc := 39) B d_Program_has_39 rfl 2 rfl ?_
          refine mv_aload_n (pc := 40) B d_Program_has_40 rfl 0 rfl ?_
          refine mv_getR (pc := 41) (ci := 7) (C := R_Program) (T := F_Program) (N := 19) B 3 rfl rfl (by decide) i_Program (B.2.2.2.1 _ k_323) rfl (hq _ 3 50 rfl) d_Program_has_41 ?_
          refine mv_iload_n (pc := 44) B d_Program_has_44 rfl 1 rfl ?_
          refine mv_iald (pc := 45) B rfl (i32_in (by omega) (by omega)) d_Program_has_45 ?_
          refine mv_icmp_ge (pc := 46) (tgt := 53) B d_Program_has_46 rfl (fun h46 => ?_) (fun h46 => ?_)
          · skip
            refine mv_iconst (pc := 53) (v := 0) B d_Program_has_53 (by decide) ?_
            exact mv_iret (pc := 54) B hr rfl d_Program_has_54 (Nat.le_refl _) (Nat.le_refl _) ⟨_, rfl, rfl, by first | exact Or.inl rfl | exact Or.inr ⟨rfl, by omega, by omega, h13, Or.inl ⟨h24, h28⟩⟩ | exact Or.inr ⟨rfl, by omega, by omega, h13, Or.inr ⟨h24, by omega⟩⟩⟩
          · skip
            rw [Int32.le_iff_toInt_le] at h46
            refine mv_iconst (pc := 49) (v := 1) B d_Program_has_49 (by decide) ?_
            refine mv_goto (pc := 50) (tgt := 54) B d_Program_has_50 rfl ?_
            exact mv_iret (pc := 54) B hr rfl d_Program_has_54 (Nat.le_refl _) (Nat.le_refl _) ⟨_, rfl, rfl, by first | exact Or.inl rfl | exact Or.inr ⟨rfl, by omega, by omega, h13, Or.inl ⟨h24, h28⟩⟩ | exact Or.inr ⟨rfl, by omega, by omega, h13, Or.inr ⟨h24, by omega⟩⟩⟩
        · skip
          refine mv_iload_n (pc := 27) B d_Program_has_27 rfl 2 rfl ?_
          refine mv_if_ne (pc := 28) (tgt := 35) B d_Program_has_28 rfl (fun h28 => ?_) (fun h28 => ?_)
          · skip
            refine mv_iconst (pc := 35) (v := 0) B d_Program_has_35 (by decide) ?_
            refine mv_goto (pc := 36) (tgt := 54) B d_Program_has_36 rfl ?_
            exact mv_iret (pc := 54) B hr rfl d_Program_has_54 (Nat.le_refl _) (Nat.le_refl _) ⟨_, rfl, rfl, by first | exact Or.inl rfl | exact Or.inr ⟨rfl, by omega, by omega, h13, Or.inl ⟨h24, h28⟩⟩ | exact Or.inr ⟨rfl, by omega, by omega, h13, Or.inr ⟨h24, by omega⟩⟩⟩
          · skip
            refine mv_iconst (pc := 31) (v := 1) B d_Program_has_31 (by decide) ?_
            refine mv_goto (pc := 32) (tgt := 54) B d_Program_has_32 rfl ?_
            exact mv_iret (pc := 54) B hr rfl d_Program_has_54 (Nat.le_refl _) (Nat.le_refl _) ⟨_, rfl, rfl, by first | exact Or.inl rfl | exact Or.inr ⟨rfl, by omega, by omega, h13, Or.inl ⟨h24, h28⟩⟩ | exact Or.inr ⟨rfl, by omega, by omega, h13, Or.inr ⟨h24, by omega⟩⟩⟩
      · skip
        refine mv_iconst (pc := 16) (v := 0) B d_Program_has_16 (by decide) ?_
        exact mv_iret (pc := 17) B hr rfl d_Program_has_17 (Nat.le_refl _) (Nat.le_refl _) ⟨_, rfl, rfl, by first | exact Or.inl rfl | exact Or.inr ⟨rfl, by omega, by omega, h13, Or.inl ⟨h24, h28⟩⟩ | exact Or.inr ⟨rfl, by omega, by omega, h13, Or.inr ⟨h24, by omega⟩⟩⟩
set_option maxHeartbeats 4000000 in
set_option maxRecDepth 100000 in
theorem c_Program_has_c (l : Launch) {dA : FieldType → ClassId} {D : va_G} {al : Nat → Nat} {sk sv : Nat → Nat} (hi : mv_inj (mg dA D al me)) (σ : mv_H) (t i : Int32) (hq : Ph 145 (mv_r σ)) (g1 : (mv_i σ 145 1).toInt ≤ 64) : mv_C l y_Program_has (Cond.code y_Program_has b_Program_has 3 (Option.some Jvm.ClassFile.FieldType.boolean) :: ma) ({ frames := 0, cells := 0, slots := 0, locals := 0 }) (mg dA D al me) (mK sk sv) [.ref (al 145), .int t, .int i] σ (mv_Ri (fun v σ1 => σ1 = σ ∧ (v = 0 ∨ (v = 1 ∧ 0 ≤ t.toInt ∧ t.toInt < (mv_i σ 145 1).toInt ∧ 0 ≤ i.toInt ∧ ((mv_a σ 147 t.toNatClampNeg = 0 ∧ i = 0) ∨ (¬ mv_a σ 147 t.toNatClampNeg = 0 ∧ i.toInt < (mv_a σ 147 t.toNatClampNeg).toInt)))))) := by
  refine mv_C.ofV (cc := b_Program_has) (nL := 3) (ret := (Option.some Jvm.ClassFile.FieldType.boolean)) (by decide +kernel) rfl hi (Nat.le_of_ble_eq_true rfl) ?_
  intro p e s m below meth c B hNs hr hnm hno
  refine mv_iload_n (pc := 0) B d_Program_has_0 rfl 1 rfl ?_
  refine mv_if_lt (pc := 1) (tgt := 16) B d_Program_has_1 rfl (fun h1 => ?_) (fun h1 => ?_)
  · skip
    refine mv_iconst (pc := 16) (v := 0) B d_Program_has_16 (by decide) ?_
    exact mv_iret (pc := 17) B hr rfl d_Program_has_17 (Nat.le_refl _) (Nat.le_refl _) ⟨_, rfl, rfl, by first | exact Or.inl rfl | exact Or.inr ⟨rfl, by omega, by omega, h13, Or.inl ⟨h24, h28⟩⟩ | exact Or.inr ⟨rfl, by omega, by omega, h13, Or.inr ⟨h24, by omega⟩⟩⟩
  · skip
    rw [Int32.lt_iff_toInt_lt] at h1
    simp only [Int32.reduceToInt] at h1
    refine mv_iload_n (pc := 4) B d_Program_has_4 rfl 1 rfl ?_
    refine mv_aload_n (pc := 5) B d_Program_has_5 rfl 0 rfl ?_
    refine mv_getI (pc := 6) (ci := 7) (C := R_Program) (T := F_Program) (N := 19) B 1 rfl rfl (by decide) i_Program (B.2.2.2.1 _ k_315) rfl d_Program_has_6 ?_
    refine mv_icmp_ge (pc := 9) (tgt := 16) B d_Program_has_9 rfl (fun h9 => ?_) (fun h9 => ?_)
    · skip
      refine mv_iconst (pc := 16) (v := 0) B d_Program_has_16 (by decide) ?_
      exact mv_iret (pc := 17) B hr rfl d_Program_has_17 (Nat.le_refl _) (Nat.le_refl _) ⟨_, rfl, rfl, by first | exact Or.inl rfl | exact Or.inr ⟨rfl, by omega, by omega, h13, Or.inl ⟨h24, h28⟩⟩ | exact Or.inr ⟨rfl, by omega, by omega, h13, Or.inr ⟨h24, by omega⟩⟩⟩
    · skip
      rw [Int32.le_iff_toInt_le] at h9
      refine mv_iload_n (pc := 12) B d_Program_has_12 rfl 2 rfl ?_
      refine mv_if_ge (pc := 13) (tgt := 18) B d_Program_has_13 rfl (fun h13 => ?_) (fun h13 => ?_)
      · skip
        rw [Int32.le_iff_toInt_le] at h13
        simp only [Int32.reduceToInt] at h13
        refine mv_aload_n (pc := 18) B d_Program_has_18 rfl 0 rfl ?_
        refine mv_getR (pc := 19) (ci := 7) (C := R_Program) (T := F_Program) (N := 19) B 3 rfl rfl (by decide) i_Program (B.2.2.2.1 _ k_323) rfl (hq _ 3 147 rfl) d_Program_has_19 ?_
        refine mv_iload_n (pc := 22) B d_Program_has_22 rfl 1 rfl ?_
        refine mv_iald (pc := 23) B rfl (i32_in (by omega) (by omega)) d_Program_has_23 ?_
        refine mv_if_ne (pc := 24) (tgt := 39) B d_Program_has_24 rfl (fun h24 => ?_) (fun h24 => ?_)
        · skip
          refine mv_iload_n (pc := 39) B d_Program_has_39 rfl 2 rfl ?_
          refine mv_aload_n (pc := 40) B d_Program_has_40 rfl 0 rfl ?_
          refine mv_getR (pc := 41) (ci := 7) (C := R_Program) (T := F_Program) (N := 19) B 3 rfl rfl (by decide) i_Program (B.2.2.2.1 _ k_323) rfl (hq _ 3 147 rfl) d_Program_has_41 ?_
          refine mv_iload_n (pc := 44) B d_Program_has_44 rfl 1 rfl ?_
          refine mv_iald (pc := 45) B rfl (i32_in (by omega) (by omega)) d_Program_has_45 ?_
          refine mv_icmp_ge (pc := 46) (tgt := 53) B d_Program_has_46 rfl (fun h46 => ?_) (fun h46 => ?_)
          · skip
            refine mv_iconst (pc := 53) (v := 0) B d_Program_has_53 (by decide) ?_
            exact mv_iret (pc := 54) B hr rfl d_Program_has_54 (Nat.le_refl _) (Nat.le_refl _) ⟨_, rfl, rfl, by first | exact Or.inl rfl | exact Or.inr ⟨rfl, by omega, by omega, h13, Or.inl ⟨h24, h28⟩⟩ | exact Or.inr ⟨rfl, by omega, by omega, h13, Or.inr ⟨h24, by omega⟩⟩⟩
          · skip
            rw [Int32.le_iff_toInt_le] at h46
            refine mv_iconst (pc := 49) (v := 1) B d_Program_has_49 (by decide) ?_
            refine mv_goto (pc := 50) (tgt := 54) B d_Program_has_50 rfl ?_
            exact mv_iret (pc := 54) B hr rfl d_Program_has_54 (Nat.le_refl _) (Nat.le_refl _) ⟨_, rfl, rfl, by first | exact Or.inl rfl | exact Or.inr ⟨rfl, by omega, by omega, h13, Or.inl ⟨h24, h28⟩⟩ | exact Or.inr ⟨rfl, by omega, by omega, h13, Or.inr ⟨h24, by omega⟩⟩⟩
        · skip
          refine mv_iload_n (pc := 27) B d_Program_has_27 rfl 2 rfl ?_
          refine mv_if_ne (pc := 28) (tgt := 35) B d_Program_has_28 rfl (fun h28 => ?_) (fun h28 => ?_)
          · skip
            refine mv_iconst (pc := 35) (v := 0) B d_Program_has_35 (by decide) ?_
            refine mv_goto (pc := 36) (tgt := 54) B d_Program_has_36 rfl ?_
            exact mv_iret (pc := 54) B hr rfl d_Program_has_54 (Nat.le_refl _) (Nat.le_refl _) ⟨_, rfl, rfl, by first | exact Or.inl rfl | exact Or.inr ⟨rfl, by omega, by omega, h13, Or.inl ⟨h24, h28⟩⟩ | exact Or.inr ⟨rfl, by omega, by omega, h13, Or.inr ⟨h24, by omega⟩⟩⟩
          · skip
            refine mv_iconst (pc := 31) (v := 1) B d_Program_has_31 (by decide) ?_
            refine mv_goto (pc := 32) (tgt := 54) B d_Program_has_32 rfl ?_
            exact mv_iret (pc := 54) B hr rfl d_Program_has_54 (Nat.le_refl _) (Nat.le_refl _) ⟨_, rfl, rfl, by first | exact Or.inl rfl | exact Or.inr ⟨rfl, by omega, by omega, h13, Or.inl ⟨h24, h28⟩⟩ | exact Or.inr ⟨rfl, by omega, by omega, h13, Or.inr ⟨h24, by omega⟩⟩⟩
      · skip
        refine mv_iconst (pc := 16) (v := 0) B d_Program_has_16 (by decide) ?_
        exact mv_iret (pc := 17) B hr rfl d_Program_has_17 (Nat.le_refl _) (Nat.le_refl _) ⟨_, rfl, rfl, by first | exact Or.inl rfl | exact Or.inr ⟨rfl, by omega, by omega, h13, Or.inl ⟨h24, h28⟩⟩ | exact Or.inr ⟨rfl, by omega, by omega, h13, Or.inr ⟨h24, by omega⟩⟩⟩
def y_Program_maskOf : MethodName := ⟨"MachineLoom$Program", "maskOf", "(II)J"⟩
abbrev b_Program_maskOf : ByteArray := prog_7_method_9_code
theorem kc_Program_maskOf : Cond.code y_Program_maskOf b_Program_maskOf 7 (Option.some Jvm.ClassFile.FieldType.long) ∈ ma := ma_of (tb_8 _ (List.mem_of_getElem? (i := 70) rfl)) rfl
theorem d_Program_maskOf_0 : decode b_Program_maskOf 0 = .ok (.iload_n 2, 1) := by decide +kernel
theorem d_Program_maskOf_1 : decode b_Program_maskOf 1 = .ok (.bipush 97, 2) := by decide +kernel
theorem d_Program_maskOf_3 : decode b_Program_maskOf 3 = .ok (.if_icmp .lt (9), 3) := by decide +kernel
theorem d_Program_maskOf_6 : decode b_Program_maskOf 6 = .ok (.iload_n 2, 1) := by decide +kernel
theorem d_Program_maskOf_7 : decode b_Program_maskOf 7 = .ok (.bipush 122, 2) := by decide +kernel
theorem d_Program_maskOf_9 : decode b_Program_maskOf 9 = .ok (.if_icmp .le (15), 3) := by decide +kernel
theorem d_Program_maskOf_12 : decode b_Program_maskOf 12 = .ok (.iload_n 2, 1) := by decide +kernel
theorem d_Program_maskOf_13 : decode b_Program_maskOf 13 = .ok (.bipush 65, 2) := by decide +kernel
theorem d_Program_maskOf_15 : decode b_Program_maskOf 15 = .ok (.if_icmp .lt (13), 3) := by decide +kernel
theorem d_Program_maskOf_18 : decode b_Program_maskOf 18 = .ok (.iload_n 2, 1) := by decide +kernel
theorem d_Program_maskOf_19 : decode b_Program_maskOf 19 = .ok (.bipush 90, 2) := by decide +kernel
theorem d_Program_maskOf_21 : decode b_Program_maskOf 21 = .ok (.if_icmp .gt (7), 3) := by decide +kernel
theorem d_Program_maskOf_24 : decode b_Program_maskOf 24 = .ok (.iconst 1, 1) := by decide +kernel
theorem d_Program_maskOf_25 : decode b_Program_maskOf 25 = .ok (.goto (4), 3) := by decide +kernel
theorem d_Program_maskOf_28 : decode b_Program_maskOf 28 = .ok (.iconst 0, 1) := by decide +kernel
theorem d_Program_maskOf_29 : decode b_Program_maskOf 29 = .ok (.istore_n 3, 1) := by decide +kernel
theorem d_Program_maskOf_30 : decode b_Program_maskOf 30 = .ok (.iload_n 1, 1) := by decide +kernel
theorem d_Program_maskOf_31 : decode b_Program_maskOf 31 = .ok (.ifCond .lt (15), 3) := by decide +kernel
theorem d_Program_maskOf_34 : decode b_Program_maskOf 34 = .ok (.iload_n 1, 1) := by decide +kernel
theorem d_Program_maskOf_35 : decode b_Program_maskOf 35 = .ok (.aload_n 0, 1) := by decide +kernel
theorem d_Program_maskOf_36 : decode b_Program_maskOf 36 = .ok (.getfield 73, 3) := by decide +kernel
theorem d_Program_maskOf_39 : decode b_Program_maskOf 39 = .ok (.if_icmp .ge (7), 3) := by decide +kernel
theorem d_Program_maskOf_42 : decode b_Program_maskOf 42 = .ok (.iload_n 3, 1) := by decide +kernel
theorem d_Program_maskOf_43 : decode b_Program_maskOf 43 = .ok (.ifCond .ne (5), 3) := by decide +kernel
theorem d_Program_maskOf_46 : decode b_Program_maskOf 46 = .ok (.lconst 0, 1) := by decide +kernel
theorem d_Program_maskOf_47 : decode b_Program_maskOf 47 = .ok (.lreturn, 1) := by decide +kernel
theorem d_Program_maskOf_48 : decode b_Program_maskOf 48 = .ok (.lconst 0, 1) := by decide +kernel
theorem d_Program_maskOf_49 : decode b_Program_maskOf 49 = .ok (.lstore 4, 2) := by decide +kernel
theorem d_Program_maskOf_51 : decode b_Program_maskOf 51 = .ok (.iconst 0, 1) := by decide +kernel
theorem d_Program_maskOf_52 : decode b_Program_maskOf 52 = .ok (.istore 6, 2) := by decide +kernel
theorem d_Program_maskOf_54 : decode b_Program_maskOf 54 = .ok (.iload 6, 2) := by decide +kernel
theorem d_Program_maskOf_56 : decode b_Program_maskOf 56 = .ok (.aload_n 0, 1) := by decide +kernel
theorem d_Program_maskOf_57 : decode b_Program_maskOf 57 = .ok (.getfield 54, 3) := by decide +kernel
theorem d_Program_maskOf_60 : decode b_Program_maskOf 60 = .ok (.if_icmp .ge (38), 3) := by decide +kernel
theorem d_Program_maskOf_63 : decode b_Program_maskOf 63 = .ok (.lload 4, 2) := by decide +kernel
theorem d_Program_maskOf_65 : decode b_Program_maskOf 65 = .ok (.iconst 1, 1) := by decide +kernel
theorem d_Program_maskOf_66 : decode b_Program_maskOf 66 = .ok (.lshl, 1) := by decide +kernel
theorem d_Program_maskOf_67 : decode b_Program_maskOf 67 = .ok (.aload_n 0, 1) := by decide +kernel
theorem d_Program_maskOf_68 : decode b_Program_maskOf 68 = .ok (.getfield 35, 3) := by decide +kernel
theorem d_Program_maskOf_71 : decode b_Program_maskOf 71 = .ok (.iload_n 1, 1) := by decide +kernel
theorem d_Program_maskOf_72 : decode b_Program_maskOf 72 = .ok (.bipush 64, 2) := by decide +kernel
theorem d_Program_maskOf_74 : decode b_Program_maskOf 74 = .ok (.imul, 1) := by decide +kernel
theorem d_Program_maskOf_75 : decode b_Program_maskOf 75 = .ok (.iload 6, 2) := by decide +kernel
theorem d_Program_maskOf_77 : decode b_Program_maskOf 77 = .ok (.iadd, 1) := by decide +kernel
theorem d_Program_maskOf_78 : decode b_Program_maskOf 78 = .ok (.baload, 1) := by decide +kernel
theorem d_Program_maskOf_79 : decode b_Program_maskOf 79 = .ok (.iload_n 2, 1) := by decide +kernel
theorem d_Program_maskOf_80 : decode b_Program_maskOf 80 = .ok (.if_icmp .ne (7), 3) := by decide +kernel
theorem d_Program_maskOf_83 : decode b_Program_maskOf 83 = .ok (.iconst 1, 1) := by decide +kernel
theorem d_Program_maskOf_84 : decode b_Program_maskOf 84 = .ok (.goto (4), 3) := by decide +kernel
theorem d_Program_maskOf_87 : decode b_Program_maskOf 87 = .ok (.iconst 0, 1) := by decide +kernel
theorem d_Program_maskOf_88 : decode b_Program_maskOf 88 = .ok (.i2l, 1) := by decide +kernel
theorem d_Program_maskOf_89 : decode b_Program_maskOf 89 = .ok (.lor, 1) := by decide +kernel
theorem d_Program_maskOf_90 : decode b_Program_maskOf 90 = .ok (.lstore 4, 2) := by decide +kernel
theorem d_Program_maskOf_92 : decode b_Program_maskOf 92 = .ok (.iinc 6 (1), 3) := by decide +kernel
theorem d_Program_maskOf_95 : decode b_Program_maskOf 95 = .ok (.goto (-41), 3) := by decide +kernel
theorem d_Program_maskOf_98 : decode b_Program_maskOf 98 = .ok (.lload 4, 2) := by decide +kernel
theorem d_Program_maskOf_100 : decode b_Program_maskOf 100 = .ok (.lreturn, 1) := by decide +kernel
set_option maxHeartbeats 4000000 in
set_option maxRecDepth 100000 in
theorem c_Program_maskOf_a (l : Launch) {dA : FieldType → ClassId} {D : va_G} {al : Nat → Nat} {ext : mv_Sh} {sk sv : Nat → Nat} (hi : mv_inj (mg dA D al ext)) (σ : mv_H) (p9 c9 : Int32) (hq : Ph 32 (mv_r σ)) (g0 : 0 ≤ (mv_i σ 32 0).toInt) (g1 : (mv_i σ 32 0).toInt ≤ 64) (g3 : (mv_i σ 32 10).toInt ≤ 512) : mv_C l y_Program_maskOf (Cond.code y_Program_maskOf b_Program_maskOf 7 (Option.some Jvm.ClassFile.FieldType.long) :: ma) ({ frames := 0, cells := 0, slots := 0, locals := 0 }) (mg dA D al ext) (mK sk sv) [.ref (al 32), .int p9, .int c9] σ (mv_Rl (fun v σ1 => σ1 = σ)) := by
  refine mv_C.ofV (cc := b_Program_maskOf) (nL := 7) (ret := (Option.some Jvm.ClassFile.FieldType.long)) (by decide +kernel) rfl hi (Nat.le_of_ble_eq_true rfl) ?_
  intro p e s m below meth c B hNs hr hnm hno
  have lp : ∀ (nn : Nat) (j : Int32) (m9 : Int64) (q0 : 0 ≤ j.toInt) (k0 : 0 ≤ p9.toInt) (k1 : p9.toInt < (mv_i σ 32 10).toInt), (64 - j.toInt).toNat < nn → mv_V p l e ({ frames := 0, cells := 0, slots := 0, locals := 0 }) s m ([.ref (al 32), .int p9, .int c9] : List Value).toArray below meth c (mg dA D al ext) 7 0 0 (mv_Q (mg dA D al ext) below s 0 0 (mv_Rl (fun v σ1 => σ1 = σ))) σ 54 [(6, .int j), (4, .long m9), (0, .ref (al 32)), (1, .int p9), (2, .int c9)] [] := by
    intro nn
    induction nn with
    | zero => intro j m9 q0 k0 k1 hm; exact absurd hm (Nat.not_lt_zero _)
    | succ nn ih =>
      intro j m9 q0 k0 k1 hm
      refine mv_iload (pc := 54) B d_Program_maskOf_54 0 rfl ?_
      refine mv_aload_n (pc := 56) B d_Program_maskOf_56 rfl 2 rfl ?_
      refine mv_getI (pc := 57) (ci := 7) (C := R_Program) (T := F_Program) (N := 19) B 0 rfl rfl (by decide) i_Program (B.2.2.2.1 _ k_311) rfl d_Program_maskOf_57 ?_
      refine mv_icmp_ge (pc := 60) (tgt := 98) B d_Program_maskOf_60 rfl (fun h60 => ?_) (fun h60 => ?_)
      · skip
        refine mv_lload (pc := 98) B d_Program_maskOf_98 1 rfl ?_
        exact mv_lret (pc := 100) B hr d_Program_maskOf_100 (Nat.le_refl _) (Nat.le_refl _) ⟨_, rfl, rfl⟩
      · skip
        rw [Int32.le_iff_toInt_le] at h60
        refine mv_lload (pc := 63) B d_Program_maskOf_63 1 rfl ?_
        refine mv_iconst (pc := 65) (v := 1) B d_Program_maskOf_65 (by decide) ?_
        refine mv_lshl (pc := 66) B d_Program_maskOf_66 ?_
        refine mv_aload_n (pc := 67) B d_Program_maskOf_67 rfl 2 rfl ?_
        refine mv_getR (pc := 68) (ci := 7) (C := R_Program) (T := F_Program) (N := 19) B 14 rfl rfl (by decide) i_Program (B.2.2.2.1 _ k_356) rfl (hq _ 14 40 rfl) d_Program_maskOf_68 ?_
        refine mv_iload_n (pc := 71) B d_Program_maskOf_71 rfl 3 rfl ?_
        refine mv_bipush (pc := 72) (v := 64) B d_Program_maskOf_72 (by decide) ?_
        refine mv_imul (pc := 74) B d_Program_maskOf_74 ?_
        refine mv_topi (fun y74 ey74 => ?_)
        have fy74 := i32_mulE ey74 (by (try simp only [Int32.reduceToInt]); omega) (by (try simp only [Int32.reduceToInt]); omega)
        try simp only [Int32.reduceToInt] at fy74
        refine mv_iload (pc := 75) B d_Program_maskOf_75 0 rfl ?_
        refine mv_iadd (pc := 77) B d_Program_maskOf_77 ?_
        refine mv_topi (fun y77 ey77 => ?_)
        have fy77 := i32_addE ey77 (by (try simp only [Int32.reduceToInt]); omega) (by (try simp only [Int32.reduceToInt]); omega)
        try simp only [Int32.reduceToInt] at fy77
        refine mv_bald (pc := 78) B rfl (i32_in (by omega) (by omega)) d_Program_maskOf_78 ?_
        refine mv_iload_n (pc := 79) B d_Program_maskOf_79 rfl 4 rfl ?_
        refine mv_icmp_ne (pc := 80) (tgt := 87) B d_Program_maskOf_80 rfl (fun h80 => ?_) (fun h80 => ?_)
        · skip
          refine mv_iconst (pc := 87) (v := 0) B d_Program_maskOf_87 (by decide) ?_
          refine mv_i2l (pc := 88) B d_Program_maskOf_88 ?_
          refine mv_lor (pc := 89) B d_Program_maskOf_89 ?_
          refine mv_lstore (pc := 90) B d_Program_maskOf_90 (by decide) rfl ?_
          refine mv_iinc (pc := 92) (j := 1) (v := 1) B d_Program_maskOf_92 rfl (by decide) (by decide) rfl ?_
          refine mv_goto (pc := 95) (tgt := 54) B d_Program_maskOf_95 rfl ?_
          refine mv_lpick [0, 1, 2, 3, 4] rfl ?_
          exact ih _ _ (by rw [i32_inc (by omega)]; omega) k0 k1 (by rw [i32_inc (by omega)]; omega)
        · skip
          refine mv_iconst (pc := 83) (v := 1) B d_Program_maskOf_83 (by decide) ?_
          refine mv_goto (pc := 84) (tgt := 88) B d_Program_maskOf_84 rfl ?_
          refine mv_i2l (pc := 88) B d_Program_maskOf_88 ?_
          refine mv_lor (pc := 89) B d_Program_maskOf_89 ?_
          refine mv_lstore (pc := 90) B d_Program_maskOf_90 (by decide) rfl ?_
          refine mv_iinc (pc := 92) (j := 1) (v := 1) B d_Program_maskOf_92 rfl (by decide) (by decide) rfl ?_
          refine mv_goto (pc := 95) (tgt := 54) B d_Program_maskOf_95 rfl ?_
          refine mv_lpick [0, 1, 2, 3, 4] rfl ?_
          exact ih _ _ (by rw [i32_inc (by omega)]; omega) k0 k1 (by rw [i32_inc (by omega)]; omega)
  have j29 : ∀ (z : Int32) , mv_V p l e ({ frames := 0, cells := 0, slots := 0, locals := 0 }) s m ([.ref (al 32), .int p9, .int c9] : List Value).toArray below meth c (mg dA D al ext) 7 0 0 (mv_Q (mg dA D al ext) below s 0 0 (mv_Rl (fun v σ1 => σ1 = σ))) σ 29 [(0, .ref (al 32)), (1, .int p9), (2, .int c9)] [.int z] := by
    intro z
    refine mv_istore_n (pc := 29) B d_Program_maskOf_29 rfl (by decide) rfl ?_
    refine mv_iload_n (pc := 30) B d_Program_maskOf_30 rfl 2 rfl ?_
    refine mv_if_lt (pc := 31) (tgt := 46) B d_Program_maskOf_31 rfl (fun h31 => ?_) (fun h31 => ?_)
    · skip
      refine mv_lconst (pc := 46) (v := 0) B d_Program_maskOf_46 (by decide) ?_
      exact mv_lret (pc := 47) B hr d_Program_maskOf_47 (Nat.le_refl _) (Nat.le_refl _) ⟨_, rfl, rfl⟩
    · skip
      rw [Int32.lt_iff_toInt_lt] at h31
      simp only [Int32.reduceToInt] at h31
      refine mv_iload_n (pc := 34) B d_Program_maskOf_34 rfl 2 rfl ?_
      refine mv_aload_n (pc := 35) B d_Program_maskOf_35 rfl 1 rfl ?_
      refine mv_getI (pc := 36) (ci := 7) (C := R_Program) (T := F_Program) (N := 19) B 10 rfl rfl (by decide) i_Program (B.2.2.2.1 _ k_345) rfl d_Program_maskOf_36 ?_
      refine mv_icmp_ge (pc := 39) (tgt := 46) B d_Program_maskOf_39 rfl (fun h39 => ?_) (fun h39 => ?_)
      · skip
        refine mv_lconst (pc := 46) (v := 0) B d_Program_maskOf_46 (by decide) ?_
        exact mv_lret (pc := 47) B hr d_Program_maskOf_47 (Nat.le_refl _) (Nat.le_refl _) ⟨_, rfl, rfl⟩
      · skip
        rw [Int32.le_iff_toInt_le] at h39
        refine mv_iload_n (pc := 42) B d_Program_maskOf_42 rfl 0 rfl ?_
        refine mv_if_ne (pc := 43) (tgt := 48) B d_Program_maskOf_43 rfl (fun h43 => ?_) (fun h43 => ?_)
        · skip
          refine mv_lconst (pc := 48) (v := 0) B d_Program_maskOf_48 (by decide) ?_
          refine mv_lstore (pc := 49) B d_Program_maskOf_49 (by decide) rfl ?_
          refine mv_iconst (pc := 51) (v := 0) B d_Program_maskOf_51 (by decide) ?_
          refine mv_istore (pc := 52) B d_Program_maskOf_52 (by decide) rfl ?_
          refine mv_lpick [0, 1, 3, 4, 5] rfl ?_
          exact lp _ _ _ (by decide) (by omega) (by omega) (Nat.lt_succ_self _)
        · skip
          refine mv_lconst (pc := 46) (v := 0) B d_Program_maskOf_46 (by decide) ?_
          exact mv_lret (pc := 47) B hr d_Program_maskOf_47 (Nat.le_refl _) (Nat.le_refl _) ⟨_, rfl, rfl⟩
  refine mv_iload_n (pc := 0) B d_Program_maskOf_0 rfl 2 rfl ?_
  refine mv_bipush (pc := 1) (v := 97) B d_Program_maskOf_1 (by decide) ?_
  refine mv_icmp_lt (pc := 3) (tgt := 12) B d_Program_maskOf_3 rfl (fun h3 => ?_) (fun h3 => ?_)
  · skip
    refine mv_iload_n (pc := 12) B d_Program_maskOf_12 rfl 2 rfl ?_
    refine mv_bipush (pc := 13) (v := 65) B d_Program_maskOf_13 (by decide) ?_
    refine mv_icmp_lt (pc := 15) (tgt := 28) B d_Program_maskOf_15 rfl (fun h15 => ?_) (fun h15 => ?_)
    · skip
      refine mv_iconst (pc := 28) (v := 0) B d_Program_maskOf_28 (by decide) ?_
      refine mv_lpick [0, 1, 2] rfl ?_
      exact j29 _
    · skip
      refine mv_iload_n (pc := 18) B d_Program_maskOf_18 rfl 2 rfl ?_
      refine mv_bipush (pc := 19) (v := 90) B d_Program_maskOf_19 (by decide) ?_
      refine mv_icmp_gt (pc := 21) (tgt := 28) B d_Program_maskOf_21 rfl (fun h21 => ?_) (fun h21 => ?_)
      · skip
        refine mv_iconst (pc := 28) (v := 0) B d_Program_maskOf_28 (by decide) ?_
        refine mv_lpick [0, 1, 2] rfl ?_
        exact j29 _
      · skip
        refine mv_iconst (pc := 24) (v := 1) B d_Program_maskOf_24 (by decide) ?_
        refine mv_goto (pc := 25) (tgt := 29) B d_Program_maskOf_25 rfl ?_
        refine mv_lpick [0, 1, 2] rfl ?_
        exact j29 _
  · skip
    refine mv_iload_n (pc := 6) B d_Program_maskOf_6 rfl 2 rfl ?_
    refine mv_bipush (pc := 7) (v := 122) B d_Program_maskOf_7 (by decide) ?_
    refine mv_icmp_le (pc := 9) (tgt := 24) B d_Program_maskOf_9 rfl (fun h9 => ?_) (fun h9 => ?_)
    · skip
      refine mv_iconst (pc := 24) (v := 1) B d_Program_maskOf_24 (by decide) ?_
      refine mv_goto (pc := 25) (tgt := 29) B d_Program_maskOf_25 rfl ?_
      refine mv_lpick [0, 1, 2] rfl ?_
      exact j29 _
    · skip
      refine mv_iload_n (pc := 12) B d_Program_maskOf_12 rfl 2 rfl ?_
      refine mv_bipush (pc := 13) (v := 65) B d_Program_maskOf_13 (by decide) ?_
      refine mv_icmp_lt (pc := 15) (tgt := 28) B d_Program_maskOf_15 rfl (fun h15 => ?_) (fun h15 => ?_)
      · skip
        refine mv_iconst (pc := 28) (v := 0) B d_Program_maskOf_28 (by decide) ?_
        refine mv_lpick [0, 1, 2] rfl ?_
        exact j29 _
      · skip
        refine mv_iload_n (pc := 18) B d_Program_maskOf_18 rfl 2 rfl ?_
        refine mv_bipush (pc := 19) (v := 90) B d_Program_maskOf_19 (by decide) ?_
        refine mv_icmp_gt (pc := 21) (tgt := 28) B d_Program_maskOf_21 rfl (fun h21 => ?_) (fun h21 => ?_)
        · skip
          refine mv_iconst (pc := 28) (v := 0) B d_Program_maskOf_28 (by decide) ?_
          refine mv_lpick [0, 1, 2] rfl ?_
          exact j29 _
        · skip
          refine mv_iconst (pc := 24) (v := 1) B d_Program_maskOf_24 (by decide) ?_
          refine mv_goto (pc := 25) (tgt := 29) B d_Program_maskOf_25 rfl ?_
          refine mv_lpick [0, 1, 2] rfl ?_
          exact j29 _
set_option maxHeartbeats 4000000 in
set_option maxRecDepth 100000 in
theorem c_Program_maskOf_b (l : Launch) {dA : FieldType → ClassId} {D : va_G} {al : Nat → Nat} {ext : mv_Sh} {sk sv : Nat → Nat} (hi : mv_inj (mg dA D al ext)) (σ : mv_H) (p9 c9 : Int32) (hq : Ph 48 (mv_r σ)) (g0 : 0 ≤ (mv_i σ 48 0).toInt) (g1 : (mv_i σ 48 0).toInt ≤ 64) (g3 : (mv_i σ 48 10).toInt ≤ 512) : mv_C l y_Program_maskOf (Cond.code y_Program_maskOf b_Program_maskOf 7 (Option.some Jvm.ClassFile.FieldType.long) :: ma) ({ frames := 0, cells := 0, slots := 0, locals := 0 }) (mg dA D al ext) (mK sk sv) [.ref (al 48), .int p9, .int c9] σ (mv_Rl (fun v σ1 => σ1 = σ)) := by
  refine mv_C.ofV (cc := b_Program_maskOf) (nL := 7) (ret := (Option.some Jvm.ClassFile.FieldType.long)) (by decide +kernel) rfl hi (Nat.le_of_ble_eq_true rfl) ?_
  intro p e s m below meth c B hNs hr hnm hno
  have lp : ∀ (nn : Nat) (j : Int32) (m9 : Int64) (q0 : 0 ≤ j.toInt) (k0 : 0 ≤ p9.toInt) (k1 : p9.toInt < (mv_i σ 48 10).toInt), (64 - j.toInt).toNat < nn → mv_V p l e ({ frames := 0, cells := 0, slots := 0, locals := 0 }) s m ([.ref (al 48), .int p9, .int c9] : List Value).toArray below meth c (mg dA D al ext) 7 0 0 (mv_Q (mg dA D al ext) below s 0 0 (mv_Rl (fun v σ1 => σ1 = σ))) σ 54 [(6, .int j), (4, .long m9), (0, .ref (al 48)), (1, .int p9), (2, .int c9)] [] := by
    intro nn
    induction nn with
    | zero => intro j m9 q0 k0 k1 hm; exact absurd hm (Nat.not_lt_zero _)
    | succ nn ih =>
      intro j m9 q0 k0 k1 hm
      refine mv_iload (pc := 54) B d_Program_maskOf_54 0 rfl ?_
      refine mv_aload_n (pc := 56) B d_Program_maskOf_56 rfl 2 rfl ?_
      refine mv_getI (pc := 57) (ci := 7) (C := R_Program) (T := F_Program) (N := 19) B 0 rfl rfl (by decide) i_Program (B.2.2.2.1 _ k_311) rfl d_Program_maskOf_57 ?_
      refine mv_icmp_ge (pc := 60) (tgt := 98) B d_Program_maskOf_60 rfl (fun h60 => ?_) (fun h60 => ?_)
      · skip
        refine mv_lload (pc := 98) B d_Program_maskOf_98 1 rfl ?_
        exact mv_lret (pc := 100) B hr d_Program_maskOf_100 (Nat.le_refl _) (Nat.le_refl _) ⟨_, rfl, rfl⟩
      · skip
        rw [Int32.le_iff_toInt_le] at h60
        refine mv_lload (pc := 63) B d_Program_maskOf_63 1 rfl ?_
        refine mv_iconst (pc := 65) (v := 1) B d_Program_maskOf_65 (by decide) ?_
        refine mv_lshl (pc := 66) B d_Program_maskOf_66 ?_
        refine mv_aload_n (pc := 67) B d_Program_maskOf_67 rfl 2 rfl ?_
        refine mv_getR (pc := 68) (ci := 7) (C := R_Program) (T := F_Program) (N := 19) B 14 rfl rfl (by decide) i_Program (B.2.2.2.1 _ k_356) rfl (hq _ 14 56 rfl) d_Program_maskOf_68 ?_
        refine mv_iload_n (pc := 71) B d_Program_maskOf_71 rfl 3 rfl ?_
        refine mv_bipush (pc := 72) (v := 64) B d_Program_maskOf_72 (by decide) ?_
        refine mv_imul (pc := 74) B d_Program_maskOf_74 ?_
        refine mv_topi (fun y74 ey74 => ?_)
        have fy74 := i32_mulE ey74 (by (try simp only [Int32.reduceToInt]); omega) (by (try simp only [Int32.reduceToInt]); omega)
        try simp only [Int32.reduceToInt] at fy74
        refine mv_iload (pc := 75) B d_Program_maskOf_75 0 rfl ?_
        refine mv_iadd (pc := 77) B d_Program_maskOf_77 ?_
        refine mv_topi (fun y77 ey77 => ?_)
        have fy77 := i32_addE ey77 (by (try simp only [Int32.reduceToInt]); omega) (by (try simp only [Int32.reduceToInt]); omega)
        try simp only [Int32.reduceToInt] at fy77
        refine mv_bald (pc := 78) B rfl (i32_in (by omega) (by omega)) d_Program_maskOf_78 ?_
        refine mv_iload_n (pc := 79) B d_Program_maskOf_79 rfl 4 rfl ?_
        refine mv_icmp_ne (pc := 80) (tgt := 87) B d_Program_maskOf_80 rfl (fun h80 => ?_) (fun h80 => ?_)
        · skip
          refine mv_iconst (pc := 87) (v := 0) B d_Program_maskOf_87 (by decide) ?_
          refine mv_i2l (pc := 88) B d_Program_maskOf_88 ?_
          refine mv_lor (pc := 89) B d_Program_maskOf_89 ?_
          refine mv_lstore (pc := 90) B d_Program_maskOf_90 (by decide) rfl ?_
          refine mv_iinc (pc := 92) (j := 1) (v := 1) B d_Program_maskOf_92 rfl (by decide) (by decide) rfl ?_
          refine mv_goto (pc := 95) (tgt := 54) B d_Program_maskOf_95 rfl ?_
          refine mv_lpick [0, 1, 2, 3, 4] rfl ?_
          exact ih _ _ (by rw [i32_inc (by omega)]; omega) k0 k1 (by rw [i32_inc (by omega)]; omega)
        · skip
          refine mv_iconst (pc := 83) (v := 1) B d_Program_maskOf_83 (by decide) ?_
          refine mv_goto (pc := 84) (tgt := 88) B d_Program_maskOf_84 rfl ?_
          refine mv_i2l (pc := 88) B d_Program_maskOf_88 ?_
          refine mv_lor (pc := 89) B d_Program_maskOf_89 ?_
          refine mv_lstore (pc := 90) B d_Program_maskOf_90 (by decide) rfl ?_
          refine mv_iinc (pc := 92) (j := 1) (v := 1) B d_Program_maskOf_92 rfl (by decide) (by decide) rfl ?_
          refine mv_goto (pc := 95) (tgt := 54) B d_Program_maskOf_95 rfl ?_
          refine mv_lpick [0, 1, 2, 3, 4] rfl ?_
          exact ih _ _ (by rw [i32_inc (by omega)]; omega) k0 k1 (by rw [i32_inc (by omega)]; omega)
  have j29 : ∀ (z : Int32) , mv_V p l e ({ frames := 0, cells := 0, slots := 0, locals := 0 }) s m ([.ref (al 48), .int p9, .int c9] : List Value).toArray below meth c (mg dA D al ext) 7 0 0 (mv_Q (mg dA D al ext) below s 0 0 (mv_Rl (fun v σ1 => σ1 = σ))) σ 29 [(0, .ref (al 48)), (1, .int p9), (2, .int c9)] [.int z] := by
    intro z
    refine mv_istore_n (pc := 29) B d_Program_maskOf_29 rfl (by decide) rfl ?_
    refine mv_iload_n (pc := 30) B d_Program_maskOf_30 rfl 2 rfl ?_
    refine mv_if_lt (pc := 31) (tgt := 46) B d_Program_maskOf_31 rfl (fun h31 => ?_) (fun h31 => ?_)
    · skip
      refine mv_lconst (pc := 46) (v := 0) B d_Program_maskOf_46 (by decide) ?_
      exact mv_lret (pc := 47) B hr d_Program_maskOf_47 (Nat.le_refl _) (Nat.le_refl _) ⟨_, rfl, rfl⟩
    · skip
      rw [Int32.lt_iff_toInt_lt] at h31
      simp only [Int32.reduceToInt] at h31
      refine mv_iload_n (pc := 34) B d_Program_maskOf_34 rfl 2 rfl ?_
      refine mv_aload_n (pc := 35) B d_Program_maskOf_35 rfl 1 rfl ?_
      refine mv_getI (pc := 36) (ci := 7) (C := R_Program) (T := F_Program) (N := 19) B 10 rfl rfl (by decide) i_Program (B.2.2.2.1 _ k_345) rfl d_Program_maskOf_36 ?_
      refine mv_icmp_ge (pc := 39) (tgt := 46) B d_Program_maskOf_39 rfl (fun h39 => ?_) (fun h39 => ?_)
      · skip
        refine mv_lconst (pc := 46) (v := 0) B d_Program_maskOf_46 (by decide) ?_
        exact mv_lret (pc := 47) B hr d_Program_maskOf_47 (Nat.le_refl _) (Nat.le_refl _) ⟨_, rfl, rfl⟩
      · skip
        rw [Int32.le_iff_toInt_le] at h39
        refine mv_iload_n (pc := 42) B d_Program_maskOf_42 rfl 0 rfl ?_
        refine mv_if_ne (pc := 43) (tgt := 48) B d_Program_maskOf_43 rfl (fun h43 => ?_) (fun h43 => ?_)
        · skip
          refine mv_lconst (pc := 48) (v := 0) B d_Program_maskOf_48 (by decide) ?_
          refine mv_lstore (pc := 49) B d_Program_maskOf_49 (by decide) rfl ?_
          refine mv_iconst (pc := 51) (v := 0) B d_Program_maskOf_51 (by decide) ?_
          refine mv_istore (pc := 52) B d_Program_maskOf_52 (by decide) rfl ?_
          refine mv_lpick [0, 1, 3, 4, 5] rfl ?_
          exact lp _ _ _ (by decide) (by omega) (by omega) (Nat.lt_succ_self _)
        · skip
          refine mv_lconst (pc := 46) (v := 0) B d_Program_maskOf_46 (by decide) ?_
          exact mv_lret (pc := 47) B hr d_Program_maskOf_47 (Nat.le_refl _) (Nat.le_refl _) ⟨_, rfl, rfl⟩
  refine mv_iload_n (pc := 0) B d_Program_maskOf_0 rfl 2 rfl ?_
  refine mv_bipush (pc := 1) (v := 97) B d_Program_maskOf_1 (by decide) ?_
  refine mv_icmp_lt (pc := 3) (tgt := 12) B d_Program_maskOf_3 rfl (fun h3 => ?_) (fun h3 => ?_)
  · skip
    refine mv_iload_n (pc := 12) B d_Program_maskOf_12 rfl 2 rfl ?_
    refine mv_bipush (pc := 13) (v := 65) B d_Program_maskOf_13 (by decide) ?_
    refine mv_icmp_lt (pc := 15) (tgt := 28) B d_Program_maskOf_15 rfl (fun h15 => ?_) (fun h15 => ?_)
    · skip
      refine mv_iconst (pc := 28) (v := 0) B d_Program_maskOf_28 (by decide) ?_
      refine mv_lpick [0, 1, 2] rfl ?_
      exact j29 _
    · skip
      refine mv_iload_n (pc := 18) B d_Program_maskOf_18 rfl 2 rfl ?_
      refine mv_bipush (pc := 19) (v := 90) B d_Program_maskOf_19 (by decide) ?_
      refine mv_icmp_gt (pc := 21) (tgt := 28) B d_Program_maskOf_21 rfl (fun h21 => ?_) (fun h21 => ?_)
      · skip
        refine mv_iconst (pc := 28) (v := 0) B d_Program_maskOf_28 (by decide) ?_
        refine mv_lpick [0, 1, 2] rfl ?_
        exact j29 _
      · skip
        refine mv_iconst (pc := 24) (v := 1) B d_Program_maskOf_24 (by decide) ?_
        refine mv_goto (pc := 25) (tgt := 29) B d_Program_maskOf_25 rfl ?_
        refine mv_lpick [0, 1, 2] rfl ?_
        exact j29 _
  · skip
    refine mv_iload_n (pc := 6) B d_Program_maskOf_6 rfl 2 rfl ?_
    refine mv_bipush (pc := 7) (v := 122) B d_Program_maskOf_7 (by decide) ?_
    refine mv_icmp_le (pc := 9) (tgt := 24) B d_Program_maskOf_9 rfl (fun h9 => ?_) (fun h9 => ?_)
    · skip
      refine mv_iconst (pc := 24) (v := 1) B d_Program_maskOf_24 (by decide) ?_
      refine mv_goto (pc := 25) (tgt := 29) B d_Program_maskOf_25 rfl ?_
      refine mv_lpick [0, 1, 2] rfl ?_
      exact j29 _
    · skip
      refine mv_iload_n (pc := 12) B d_Program_maskOf_12 rfl 2 rfl ?_
      refine mv_bipush (pc := 13) (v := 65) B d_Program_maskOf_13 (by decide) ?_
      refine mv_icmp_lt (pc := 15) (tgt := 28) B d_Program_maskOf_15 rfl (fun h15 => ?_) (fun h15 => ?_)
      · skip
        refine mv_iconst (pc := 28) (v := 0) B d_Program_maskOf_28 (by decide) ?_
        refine mv_lpick [0, 1, 2] rfl ?_
        exact j29 _
      · skip
        refine mv_iload_n (pc := 18) B d_Program_maskOf_18 rfl 2 rfl ?_
        refine mv_bipush (pc := 19) (v := 90) B d_Program_maskOf_19 (by decide) ?_
        refine mv_icmp_gt (pc := 21) (tgt := 28) B d_Program_maskOf_21 rfl (fun h21 => ?_) (fun h21 => ?_)
        · skip
          refine mv_iconst (pc := 28) (v := 0) B d_Program_maskOf_28 (by decide) ?_
          refine mv_lpick [0, 1, 2] rfl ?_
          exact j29 _
        · skip
          refine mv_iconst (pc := 24) (v := 1) B d_Program_maskOf_24 (by decide) ?_
          refine mv_goto (pc := 25) (tgt := 29) B d_Program_maskOf_25 rfl ?_
          refine mv_lpick [0, 1, 2] rfl ?_
          exact j29 _
set_option maxHeartbeats 4000000 in
set_option maxRecDepth 100000 in
theorem c_Program_maskOf_c (l : Launch) {dA : FieldType → ClassId} {D : va_G} {al : Nat → Nat} {sk sv : Nat → Nat} (hi : mv_inj (mg dA D al me)) (σ : mv_H) (p9 c9 : Int32) (hq : Ph 145 (mv_r σ)) (g0 : 0 ≤ (mv_i σ 145 0).toInt) (g1 : (mv_i σ 145 0).toInt ≤ 64) (g3 : (mv_i σ 145 10).toInt ≤ 48) : mv_C l y_Program_maskOf (Cond.code y_Program_maskOf b_Program_maskOf 7 (Option.some Jvm.ClassFile.FieldType.long) :: ma) ({ frames := 0, cells := 0, slots := 0, locals := 0 }) (mg dA D al me) (mK sk sv) [.ref (al 145), .int p9, .int c9] σ (mv_Rl (fun v σ1 => σ1 = σ)) := by
  refine mv_C.ofV (cc := b_Program_maskOf) (nL := 7) (ret := (Option.some Jvm.ClassFile.FieldType.long)) (by decide +kernel) rfl hi (Nat.le_of_ble_eq_true rfl) ?_
  intro p e s m below meth c B hNs hr hnm hno
  have lp : ∀ (nn : Nat) (j : Int32) (m9 : Int64) (q0 : 0 ≤ j.toInt) (k0 : 0 ≤ p9.toInt) (k1 : p9.toInt < (mv_i σ 145 10).toInt), (64 - j.toInt).toNat < nn → mv_V p l e ({ frames := 0, cells := 0, slots := 0, locals := 0 }) s m ([.ref (al 145), .int p9, .int c9] : List Value).toArray below meth c (mg dA D al me) 7 0 0 (mv_Q (mg dA D al me) below s 0 0 (mv_Rl (fun v σ1 => σ1 = σ))) σ 54 [(6, .int j), (4, .long m9), (0, .ref (al 145)), (1, .int p9), (2, .int c9)] [] := by
    intro nn
    induction nn with
    | zero => intro j m9 q0 k0 k1 hm; exact absurd hm (Nat.not_lt_zero _)
    | succ nn ih =>
      intro j m9 q0 k0 k1 hm
      refine mv_iload (pc := 54) B d_Program_maskOf_54 0 rfl ?_
      refine mv_aload_n (pc := 56) B d_Program_maskOf_56 rfl 2 rfl ?_
      refine mv_getI (pc := 57) (ci := 7) (C := R_Program) (T := F_Program) (N := 19) B 0 rfl rfl (by decide) i_Program (B.2.2.2.1 _ k_311) rfl d_Program_maskOf_57 ?_
      refine mv_icmp_ge (pc := 60) (tgt := 98) B d_Program_maskOf_60 rfl (fun h60 => ?_) (fun h60 => ?_)
      · skip
        refine mv_lload (pc := 98) B d_Program_maskOf_98 1 rfl ?_
        exact mv_lret (pc := 100) B hr d_Program_maskOf_100 (Nat.le_refl _) (Nat.le_refl _) ⟨_, rfl, rfl⟩
      · skip
        rw [Int32.le_iff_toInt_le] at h60
        refine mv_lload (pc := 63) B d_Program_maskOf_63 1 rfl ?_
        refine mv_iconst (pc := 65) (v := 1) B d_Program_maskOf_65 (by decide) ?_
        refine mv_lshl (pc := 66) B d_Program_maskOf_66 ?_
        refine mv_aload_n (pc := 67) B d_Program_maskOf_67 rfl 2 rfl ?_
        refine mv_getR (pc := 68) (ci := 7) (C := R_Program) (T := F_Program) (N := 19) B 14 rfl rfl (by decide) i_Program (B.2.2.2.1 _ k_356) rfl (hq _ 14 153 rfl) d_Program_maskOf_68 ?_
        refine mv_iload_n (pc := 71) B d_Program_maskOf_71 rfl 3 rfl ?_
        refine mv_bipush (pc := 72) (v := 64) B d_Program_maskOf_72 (by decide) ?_
        refine mv_imul (pc := 74) B d_Program_maskOf_74 ?_
        refine mv_topi (fun y74 ey74 => ?_)
        have fy74 := i32_mulE ey74 (by (try simp only [Int32.reduceToInt]); omega) (by (try simp only [Int32.reduceToInt]); omega)
        try simp only [Int32.reduceToInt] at fy74
        refine mv_iload (pc := 75) B d_Program_maskOf_75 0 rfl ?_
        refine mv_iadd (pc := 77) B d_Program_maskOf_77 ?_
        refine mv_topi (fun y77 ey77 => ?_)
        have fy77 := i32_addE ey77 (by (try simp only [Int32.reduceToInt]); omega) (by (try simp only [Int32.reduceToInt]); omega)
        try simp only [Int32.reduceToInt] at fy77
        refine mv_bald (pc := 78) B rfl (i32_in (by omega) (by omega)) d_Program_maskOf_78 ?_
        refine mv_iload_n (pc := 79) B d_Program_maskOf_79 rfl 4 rfl ?_
        refine mv_icmp_ne (pc := 80) (tgt := 87) B d_Program_maskOf_80 rfl (fun h80 => ?_) (fun h80 => ?_)
        · skip
          refine mv_iconst (pc := 87) (v := 0) B d_Program_maskOf_87 (by decide) ?_
          refine mv_i2l (pc := 88) B d_Program_maskOf_88 ?_
          refine mv_lor (pc := 89) B d_Program_maskOf_89 ?_
          refine mv_lstore (pc := 90) B d_Program_maskOf_90 (by decide) rfl ?_
          refine mv_iinc (pc := 92) (j := 1) (v := 1) B d_Program_maskOf_92 rfl (by decide) (by decide) rfl ?_
          refine mv_goto (pc := 95) (tgt := 54) B d_Program_maskOf_95 rfl ?_
          refine mv_lpick [0, 1, 2, 3, 4] rfl ?_
          exact ih _ _ (by rw [i32_inc (by omega)]; omega) k0 k1 (by rw [i32_inc (by omega)]; omega)
        · skip
          refine mv_iconst (pc := 83) (v := 1) B d_Program_maskOf_83 (by decide) ?_
          refine mv_goto (pc := 84) (tgt := 88) B d_Program_maskOf_84 rfl ?_
          refine mv_i2l (pc := 88) B d_Program_maskOf_88 ?_
          refine mv_lor (pc := 89) B d_Program_maskOf_89 ?_
          refine mv_lstore (pc := 90) B d_Program_maskOf_90 (by decide) rfl ?_
          refine mv_iinc (pc := 92) (j := 1) (v := 1) B d_Program_maskOf_92 rfl (by decide) (by decide) rfl ?_
          refine mv_goto (pc := 95) (tgt := 54) B d_Program_maskOf_95 rfl ?_
          refine mv_lpick [0, 1, 2, 3, 4] rfl ?_
          exact ih _ _ (by rw [i32_inc (by omega)]; omega) k0 k1 (by rw [i32_inc (by omega)]; omega)
  have j29 : ∀ (z : Int32) , mv_V p l e ({ frames := 0, cells := 0, slots := 0, locals := 0 }) s m ([.ref (al 145), .int p9, .int c9] : List Value).toArray below meth c (mg dA D al me) 7 0 0 (mv_Q (mg dA D al me) below s 0 0 (mv_Rl (fun v σ1 => σ1 = σ))) σ 29 [(0, .ref (al 145)), (1, .int p9), (2, .int c9)] [.int z] := by
    intro z
    refine mv_istore_n (pc := 29) B d_Program_maskOf_29 rfl (by decide) rfl ?_
    refine mv_iload_n (pc := 30) B d_Program_maskOf_30 rfl 2 rfl ?_
    refine mv_if_lt (pc := 31) (tgt := 46) B d_Program_maskOf_31 rfl (fun h31 => ?_) (fun h31 => ?_)
    · skip
      refine mv_lconst (pc := 46) (v := 0) B d_Program_maskOf_46 (by decide) ?_
      exact mv_lret (pc := 47) B hr d_Program_maskOf_47 (Nat.le_refl _) (Nat.le_refl _) ⟨_, rfl, rfl⟩
    · skip
      rw [Int32.lt_iff_toInt_lt] at h31
      simp only [Int32.reduceToInt] at h31
      refine mv_iload_n (pc := 34) B d_Program_maskOf_34 rfl 2 rfl ?_
      refine mv_aload_n (pc := 35) B d_Program_maskOf_35 rfl 1 rfl ?_
      refine mv_getI (pc := 36) (ci := 7) (C := R_Program) (T := F_Program) (N := 19) B 10 rfl rfl (by decide) i_Program (B.2.2.2.1 _ k_345) rfl d_Program_maskOf_36 ?_
      refine mv_icmp_ge (pc := 39) (tgt := 46) B d_Program_maskOf_39 rfl (fun h39 => ?_) (fun h39 => ?_)
      · skip
        refine mv_lconst (pc := 46) (v := 0) B d_Program_maskOf_46 (by decide) ?_
        exact mv_lret (pc := 47) B hr d_Program_maskOf_47 (Nat.le_refl _) (Nat.le_refl _) ⟨_, rfl, rfl⟩
      · skip
        rw [Int32.le_iff_toInt_le] at h39
        refine mv_iload_n (pc := 42) B d_Program_maskOf_42 rfl 0 rfl ?_
        refine mv_if_ne (pc := 43) (tgt := 48) B d_Program_maskOf_43 rfl (fun h43 => ?_) (fun h43 => ?_)
        · skip
          refine mv_lconst (pc := 48) (v := 0) B d_Program_maskOf_48 (by decide) ?_
          refine mv_lstore (pc := 49) B d_Program_maskOf_49 (by decide) rfl ?_
          refine mv_iconst (pc := 51) (v := 0) B d_Program_maskOf_51 (by decide) ?_
          refine mv_istore (pc := 52) B d_Program_maskOf_52 (by decide) rfl ?_
          refine mv_lpick [0, 1, 3, 4, 5] rfl ?_
          exact lp _ _ _ (by decide) (by omega) (by omega) (Nat.lt_succ_self _)
        · skip
          refine mv_lconst (pc := 46) (v := 0) B d_Program_maskOf_46 (by decide) ?_
          exact mv_lret (pc := 47) B hr d_Program_maskOf_47 (Nat.le_refl _) (Nat.le_refl _) ⟨_, rfl, rfl⟩
  refine mv_iload_n (pc := 0) B d_Program_maskOf_0 rfl 2 rfl ?_
  refine mv_bipush (pc := 1) (v := 97) B d_Program_maskOf_1 (by decide) ?_
  refine mv_icmp_lt (pc := 3) (tgt := 12) B d_Program_maskOf_3 rfl (fun h3 => ?_) (fun h3 => ?_)
  · skip
    refine mv_iload_n (pc := 12) B d_Program_maskOf_12 rfl 2 rfl ?_
    refine mv_bipush (pc := 13) (v := 65) B d_Program_maskOf_13 (by decide) ?_
    refine mv_icmp_lt (pc := 15) (tgt := 28) B d_Program_maskOf_15 rfl (fun h15 => ?_) (fun h15 => ?_)
    · skip
      refine mv_iconst (pc := 28) (v := 0) B d_Program_maskOf_28 (by decide) ?_
      refine mv_lpick [0, 1, 2] rfl ?_
      exact j29 _
    · skip
      refine mv_iload_n (pc := 18) B d_Program_maskOf_18 rfl 2 rfl ?_
      refine mv_bipush (pc := 19) (v := 90) B d_Program_maskOf_19 (by decide) ?_
      refine mv_icmp_gt (pc := 21) (tgt := 28) B d_Program_maskOf_21 rfl (fun h21 => ?_) (fun h21 => ?_)
      · skip
        refine mv_iconst (pc := 28) (v := 0) B d_Program_maskOf_28 (by decide) ?_
        refine mv_lpick [0, 1, 2] rfl ?_
        exact j29 _
      · skip
        refine mv_iconst (pc := 24) (v := 1) B d_Program_maskOf_24 (by decide) ?_
        refine mv_goto (pc := 25) (tgt := 29) B d_Program_maskOf_25 rfl ?_
        refine mv_lpick [0, 1, 2] rfl ?_
        exact j29 _
  · skip
    refine mv_iload_n (pc := 6) B d_Program_maskOf_6 rfl 2 rfl ?_
    refine mv_bipush (pc := 7) (v := 122) B d_Program_maskOf_7 (by decide) ?_
    refine mv_icmp_le (pc := 9) (tgt := 24) B d_Program_maskOf_9 rfl (fun h9 => ?_) (fun h9 => ?_)
    · skip
      refine mv_iconst (pc := 24) (v := 1) B d_Program_maskOf_24 (by decide) ?_
      refine mv_goto (pc := 25) (tgt := 29) B d_Program_maskOf_25 rfl ?_
      refine mv_lpick [0, 1, 2] rfl ?_
      exact j29 _
    · skip
      refine mv_iload_n (pc := 12) B d_Program_maskOf_12 rfl 2 rfl ?_
      refine mv_bipush (pc := 13) (v := 65) B d_Program_maskOf_13 (by decide) ?_
      refine mv_icmp_lt (pc := 15) (tgt := 28) B d_Program_maskOf_15 rfl (fun h15 => ?_) (fun h15 => ?_)
      · skip
        refine mv_iconst (pc := 28) (v := 0) B d_Program_maskOf_28 (by decide) ?_
        refine mv_lpick [0, 1, 2] rfl ?_
        exact j29 _
      · skip
        refine mv_iload_n (pc := 18) B d_Program_maskOf_18 rfl 2 rfl ?_
        refine mv_bipush (pc := 19) (v := 90) B d_Program_maskOf_19 (by decide) ?_
        refine mv_icmp_gt (pc := 21) (tgt := 28) B d_Program_maskOf_21 rfl (fun h21 => ?_) (fun h21 => ?_)
        · skip
          refine mv_iconst (pc := 28) (v := 0) B d_Program_maskOf_28 (by decide) ?_
          refine mv_lpick [0, 1, 2] rfl ?_
          exact j29 _
        · skip
          refine mv_iconst (pc := 24) (v := 1) B d_Program_maskOf_24 (by decide) ?_
          refine mv_goto (pc := 25) (tgt := 29) B d_Program_maskOf_25 rfl ?_
          refine mv_lpick [0, 1, 2] rfl ?_
          exact j29 _
def y_Program_apart : MethodName := ⟨"MachineLoom$Program", "apart", "(II)Z"⟩
abbrev b_Program_apart : ByteArray := prog_7_method_10_code
theorem kc_Program_apart : Cond.code y_Program_apart b_Program_apart 3 (Option.some Jvm.ClassFile.FieldType.boolean) ∈ ma := ma_of (tb_7 _ (List.mem_of_getElem? (i := 107) rfl)) rfl
theorem d_Program_apart_0 : decode b_Program_apart 0 = .ok (.aload_n 0, 1) := by decide +kernel
theorem d_Program_apart_1 : decode b_Program_apart 1 = .ok (.getfield 25, 3) := by decide +kernel
theorem d_Program_apart_4 : decode b_Program_apart 4 = .ok (.iload_n 1, 1) := by decide +kernel
theorem d_Program_apart_5 : decode b_Program_apart 5 = .ok (.laload, 1) := by decide +kernel
theorem d_Program_apart_6 : decode b_Program_apart 6 = .ok (.aload_n 0, 1) := by decide +kernel
theorem d_Program_apart_7 : decode b_Program_apart 7 = .ok (.getfield 25, 3) := by decide +kernel
theorem d_Program_apart_10 : decode b_Program_apart 10 = .ok (.iload_n 2, 1) := by decide +kernel
theorem d_Program_apart_11 : decode b_Program_apart 11 = .ok (.laload, 1) := by decide +kernel
theorem d_Program_apart_12 : decode b_Program_apart 12 = .ok (.land, 1) := by decide +kernel
theorem d_Program_apart_13 : decode b_Program_apart 13 = .ok (.aload_n 0, 1) := by decide +kernel
theorem d_Program_apart_14 : decode b_Program_apart 14 = .ok (.getfield 29, 3) := by decide +kernel
theorem d_Program_apart_17 : decode b_Program_apart 17 = .ok (.iload_n 1, 1) := by decide +kernel
theorem d_Program_apart_18 : decode b_Program_apart 18 = .ok (.laload, 1) := by decide +kernel
theorem d_Program_apart_19 : decode b_Program_apart 19 = .ok (.aload_n 0, 1) := by decide +kernel
theorem d_Program_apart_20 : decode b_Program_apart 20 = .ok (.getfield 29, 3) := by decide +kernel
theorem d_Program_apart_23 : decode b_Program_apart 23 = .ok (.iload_n 2, 1) := by decide +kernel
theorem d_Program_apart_24 : decode b_Program_apart 24 = .ok (.laload, 1) := by decide +kernel
theorem d_Program_apart_25 : decode b_Program_apart 25 = .ok (.lxor, 1) := by decide +kernel
theorem d_Program_apart_26 : decode b_Program_apart 26 = .ok (.land, 1) := by decide +kernel
theorem d_Program_apart_27 : decode b_Program_apart 27 = .ok (.lconst 0, 1) := by decide +kernel
theorem d_Program_apart_28 : decode b_Program_apart 28 = .ok (.lcmp, 1) := by decide +kernel
theorem d_Program_apart_29 : decode b_Program_apart 29 = .ok (.ifCond .eq (7), 3) := by decide +kernel
theorem d_Program_apart_32 : decode b_Program_apart 32 = .ok (.iconst 1, 1) := by decide +kernel
theorem d_Program_apart_33 : decode b_Program_apart 33 = .ok (.goto (4), 3) := by decide +kernel
theorem d_Program_apart_36 : decode b_Program_apart 36 = .ok (.iconst 0, 1) := by decide +kernel
theorem d_Program_apart_37 : decode b_Program_apart 37 = .ok (.ireturn, 1) := by decide +kernel
set_option maxHeartbeats 4000000 in
set_option maxRecDepth 100000 in
theorem c_Program_apart_a (l : Launch) {dA : FieldType → ClassId} {D : va_G} {al : Nat → Nat} {ext : mv_Sh} {sk sv : Nat → Nat} (hi : mv_inj (mg dA D al ext)) (σ : mv_H) (a9 b9 : Int32) (hq : Ph 32 (mv_r σ)) (g0 : 0 ≤ a9.toInt) (g1 : a9.toInt < 512) (g2 : 0 ≤ b9.toInt) (g3 : b9.toInt < 512) : mv_C l y_Program_apart (Cond.code y_Program_apart b_Program_apart 3 (Option.some Jvm.ClassFile.FieldType.boolean) :: ma) ({ frames := 0, cells := 0, slots := 0, locals := 0 }) (mg dA D al ext) (mK sk sv) [.ref (al 32), .int a9, .int b9] σ (mv_Ri (fun v σ1 => σ1 = σ ∧ (v = 0 ∨ v = 1))) := by
  refine mv_C.ofV (cc := b_Program_apart) (nL := 3) (ret := (Option.some Jvm.ClassFile.FieldType.boolean)) (by decide +kernel) rfl hi (Nat.le_of_ble_eq_true rfl) ?_
  intro p e s m below meth c B hNs hr hnm hno
  refine mv_aload_n (pc := 0) B d_Program_apart_0 rfl 0 rfl ?_
  refine mv_getR (pc := 1) (ci := 7) (C := R_Program) (T := F_Program) (N := 19) B 11 rfl rfl (by decide) i_Program (B.2.2.2.1 _ k_348) rfl (hq _ 11 37 rfl) d_Program_apart_1 ?_
  refine mv_iload_n (pc := 4) B d_Program_apart_4 rfl 1 rfl ?_
  refine mv_lald (pc := 5) B rfl (i32_in g0 g1) d_Program_apart_5 ?_
  refine mv_aload_n (pc := 6) B d_Program_apart_6 rfl 0 rfl ?_
  refine mv_getR (pc := 7) (ci := 7) (C := R_Program) (T := F_Program) (N := 19) B 11 rfl rfl (by decide) i_Program (B.2.2.2.1 _ k_348) rfl (hq _ 11 37 rfl) d_Program_apart_7 ?_
  refine mv_iload_n (pc := 10) B d_Program_apart_10 rfl 2 rfl ?_
  refine mv_lald (pc := 11) B rfl (i32_in g2 g3) d_Program_apart_11 ?_
  refine mv_land (pc := 12) B d_Program_apart_12 ?_
  refine mv_aload_n (pc := 13) B d_Program_apart_13 rfl 0 rfl ?_
  refine mv_getR (pc := 14) (ci := 7) (C := R_Program) (T := F_Program) (N := 19) B 12 rfl rfl (by decide) i_Program (B.2.2.2.1 _ k_351) rfl (hq _ 12 38 rfl) d_Program_apart_14 ?_
  refine mv_iload_n (pc := 17) B d_Program_apart_17 rfl 1 rfl ?_
  refine mv_lald (pc := 18) B rfl (i32_in g0 g1) d_Program_apart_18 ?_
  refine mv_aload_n (pc := 19) B d_Program_apart_19 rfl 0 rfl ?_
  refine mv_getR (pc := 20) (ci := 7) (C := R_Program) (T := F_Program) (N := 19) B 12 rfl rfl (by decide) i_Program (B.2.2.2.1 _ k_351) rfl (hq _ 12 38 rfl) d_Program_apart_20 ?_
  refine mv_iload_n (pc := 23) B d_Program_apart_23 rfl 2 rfl ?_
  refine mv_lald (pc := 24) B rfl (i32_in g2 g3) d_Program_apart_24 ?_
  refine mv_lxor (pc := 25) B d_Program_apart_25 ?_
  refine mv_land (pc := 26) B d_Program_apart_26 ?_
  refine mv_lconst (pc := 27) (v := 0) B d_Program_apart_27 (by decide) ?_
  refine mv_lcmp (pc := 28) B d_Program_apart_28 ?_
  refine mv_if_eq (pc := 29) (tgt := 36) B d_Program_apart_29 rfl (fun h29 => ?_) (fun h29 => ?_)
  · skip
    refine mv_iconst (pc := 36) (v := 0) B d_Program_apart_36 (by decide) ?_
    exact mv_iret (pc := 37) B hr rfl d_Program_apart_37 (Nat.le_refl _) (Nat.le_refl _) ⟨_, rfl, rfl, by first | exact Or.inl rfl | exact Or.inr rfl⟩
  · skip
    refine mv_iconst (pc := 32) (v := 1) B d_Program_apart_32 (by decide) ?_
    refine mv_goto (pc := 33) (tgt := 37) B d_Program_apart_33 rfl ?_
    exact mv_iret (pc := 37) B hr rfl d_Program_apart_37 (Nat.le_refl _) (Nat.le_refl _) ⟨_, rfl, rfl, by first | exact Or.inl rfl | exact Or.inr rfl⟩
set_option maxHeartbeats 4000000 in
set_option maxRecDepth 100000 in
theorem c_Program_apart_b (l : Launch) {dA : FieldType → ClassId} {D : va_G} {al : Nat → Nat} {ext : mv_Sh} {sk sv : Nat → Nat} (hi : mv_inj (mg dA D al ext)) (σ : mv_H) (a9 b9 : Int32) (hq : Ph 48 (mv_r σ)) (g0 : 0 ≤ a9.toInt) (g1 : a9.toInt < 512) (g2 : 0 ≤ b9.toInt) (g3 : b9.toInt < 512) : mv_C l y_Program_apart (Cond.code y_Program_apart b_Program_apart 3 (Option.some Jvm.ClassFile.FieldType.boolean) :: ma) ({ frames := 0, cells := 0, slots := 0, locals := 0 }) (mg dA D al ext) (mK sk sv) [.ref (al 48), .int a9, .int b9] σ (mv_Ri (fun v σ1 => σ1 = σ ∧ (v = 0 ∨ v = 1))) := by
  refine mv_C.ofV (cc := b_Program_apart) (nL := 3) (ret := (Option.some Jvm.ClassFile.FieldType.boolean)) (by decide +kernel) rfl hi (Nat.le_of_ble_eq_true rfl) ?_
  intro p e s m below meth c B hNs hr hnm hno
  refine mv_aload_n (pc := 0) B d_Program_apart_0 rfl 0 rfl ?_
  refine mv_getR (pc := 1) (ci := 7) (C := R_Program) (T := F_Program) (N := 19) B 11 rfl rfl (by decide) i_Program (B.2.2.2.1 _ k_348) rfl (hq _ 11 53 rfl) d_Program_apart_1 ?_
  refine mv_iload_n (pc := 4) B d_Program_apart_4 rfl 1 rfl ?_
  refine mv_lald (pc := 5) B rfl (i32_in g0 g1) d_Program_apart_5 ?_
  refine mv_aload_n (pc := 6) B d_Program_apart_6 rfl 0 rfl ?_
  refine mv_getR (pc := 7) (ci := 7) (C := R_Program) (T := F_Program) (N := 19) B 11 rfl rfl (by decide) i_Program (B.2.2.2.1 _ k_348) rfl (hq _ 11 53 rfl) d_Program_apart_7 ?_
  refine mv_iload_n (pc := 10) B d_Program_apart_10 rfl 2 rfl ?_
  refine mv_lald (pc := 11) B rfl (i32_in g2 g3) d_Program_apart_11 ?_
  refine mv_land (pc := 12) B d_Program_apart_12 ?_
  refine mv_aload_n (pc := 13) B d_Program_apart_13 rfl 0 rfl ?_
  refine mv_getR (pc := 14) (ci := 7) (C := R_Program) (T := F_Program) (N := 19) B 12 rfl rfl (by decide) i_Program (B.2.2.2.1 _ k_351) rfl (hq _ 12 54 rfl) d_Program_apart_14 ?_
  refine mv_iload_n (pc := 17) B d_Program_apart_17 rfl 1 rfl ?_
  refine mv_lald (pc := 18) B rfl (i32_in g0 g1) d_Program_apart_18 ?_
  refine mv_aload_n (pc := 19) B d_Program_apart_19 rfl 0 rfl ?_
  refine mv_getR (pc := 20) (ci := 7) (C := R_Program) (T := F_Program) (N := 19) B 12 rfl rfl (by decide) i_Program (B.2.2.2.1 _ k_351) rfl (hq _ 12 54 rfl) d_Program_apart_20 ?_
  refine mv_iload_n (pc := 23) B d_Program_apart_23 rfl 2 rfl ?_
  refine mv_lald (pc := 24) B rfl (i32_in g2 g3) d_Program_apart_24 ?_
  refine mv_lxor (pc := 25) B d_Program_apart_25 ?_
  refine mv_land (pc := 26) B d_Program_apart_26 ?_
  refine mv_lconst (pc := 27) (v := 0) B d_Program_apart_27 (by decide) ?_
  refine mv_lcmp (pc := 28) B d_Program_apart_28 ?_
  refine mv_if_eq (pc := 29) (tgt := 36) B d_Program_apart_29 rfl (fun h29 => ?_) (fun h29 => ?_)
  · skip
    refine mv_iconst (pc := 36) (v := 0) B d_Program_apart_36 (by decide) ?_
    exact mv_iret (pc := 37) B hr rfl d_Program_apart_37 (Nat.le_refl _) (Nat.le_refl _) ⟨_, rfl, rfl, by first | exact Or.inl rfl | exact Or.inr rfl⟩
  · skip
    refine mv_iconst (pc := 32) (v := 1) B d_Program_apart_32 (by decide) ?_
    refine mv_goto (pc := 33) (tgt := 37) B d_Program_apart_33 rfl ?_
    exact mv_iret (pc := 37) B hr rfl d_Program_apart_37 (Nat.le_refl _) (Nat.le_refl _) ⟨_, rfl, rfl, by first | exact Or.inl rfl | exact Or.inr rfl⟩
set_option maxHeartbeats 4000000 in
set_option maxRecDepth 100000 in
theorem c_Program_apart_c (l : Launch) {dA : FieldType → ClassId} {D : va_G} {al : Nat → Nat} {sk sv : Nat → Nat} (hi : mv_inj (mg dA D al me)) (σ : mv_H) (a9 b9 : Int32) (hq : Ph 145 (mv_r σ)) (g0 : 0 ≤ a9.toInt) (g1 : a9.toInt < 48) (g2 : 0 ≤ b9.toInt) (g3 : b9.toInt < 48) : mv_C l y_Program_apart (Cond.code y_Program_apart b_Program_apart 3 (Option.some Jvm.ClassFile.FieldType.boolean) :: ma) ({ frames := 0, cells := 0, slots := 0, locals := 0 }) (mg dA D al me) (mK sk sv) [.ref (al 145), .int a9, .int b9] σ (mv_Ri (fun v σ1 => σ1 = σ ∧ (v = 0 ∨ v = 1))) := by
  refine mv_C.ofV (cc := b_Program_apart) (nL := 3) (ret := (Option.some Jvm.ClassFile.FieldType.boolean)) (by decide +kernel) rfl hi (Nat.le_of_ble_eq_true rfl) ?_
  intro p e s m below meth c B hNs hr hnm hno
  refine mv_aload_n (pc := 0) B d_Program_apart_0 rfl 0 rfl ?_
  refine mv_getR (pc := 1) (ci := 7) (C := R_Program) (T := F_Program) (N := 19) B 11 rfl rfl (by decide) i_Program (B.2.2.2.1 _ k_348) rfl (hq _ 11 150 rfl) d_Program_apart_1 ?_
  refine mv_iload_n (pc := 4) B d_Program_apart_4 rfl 1 rfl ?_
  refine mv_lald (pc := 5) B rfl (i32_in g0 g1) d_Program_apart_5 ?_
  refine mv_aload_n (pc := 6) B d_Program_apart_6 rfl 0 rfl ?_
  refine mv_getR (pc := 7) (ci := 7) (C := R_Program) (T := F_Program) (N := 19) B 11 rfl rfl (by decide) i_Program (B.2.2.2.1 _ k_348) rfl (hq _ 11 150 rfl) d_Program_apart_7 ?_
  refine mv_iload_n (pc := 10) B d_Program_apart_10 rfl 2 rfl ?_
  refine mv_lald (pc := 11) B rfl (i32_in g2 g3) d_Program_apart_11 ?_
  refine mv_land (pc := 12) B d_Program_apart_12 ?_
  refine mv_aload_n (pc := 13) B d_Program_apart_13 rfl 0 rfl ?_
  refine mv_getR (pc := 14) (ci := 7) (C := R_Program) (T := F_Program) (N := 19) B 12 rfl rfl (by decide) i_Program (B.2.2.2.1 _ k_351) rfl (hq _ 12 151 rfl) d_Program_apart_14 ?_
  refine mv_iload_n (pc := 17) B d_Program_apart_17 rfl 1 rfl ?_
  refine mv_lald (pc := 18) B rfl (i32_in g0 g1) d_Program_apart_18 ?_
  refine mv_aload_n (pc := 19) B d_Program_apart_19 rfl 0 rfl ?_
  refine mv_getR (pc := 20) (ci := 7) (C := R_Program) (T := F_Program) (N := 19) B 12 rfl rfl (by decide) i_Program (B.2.2.2.1 _ k_351) rfl (hq _ 12 151 rfl) d_Program_apart_20 ?_
  refine mv_iload_n (pc := 23) B d_Program_apart_23 rfl 2 rfl ?_
  refine mv_lald (pc := 24) B rfl (i32_in g2 g3) d_Program_apart_24 ?_
  refine mv_lxor (pc := 25) B d_Program_apart_25 ?_
  refine mv_land (pc := 26) B d_Program_apart_26 ?_
  refine mv_lconst (pc := 27) (v := 0) B d_Program_apart_27 (by decide) ?_
  refine mv_lcmp (pc := 28) B d_Program_apart_28 ?_
  refine mv_if_eq (pc := 29) (tgt := 36) B d_Program_apart_29 rfl (fun h29 => ?_) (fun h29 => ?_)
  · skip
    refine mv_iconst (pc := 36) (v := 0) B d_Program_apart_36 (by decide) ?_
    exact mv_iret (pc := 37) B hr rfl d_Program_apart_37 (Nat.le_refl _) (Nat.le_refl _) ⟨_, rfl, rfl, by first | exact Or.inl rfl | exact Or.inr rfl⟩
  · skip
    refine mv_iconst (pc := 32) (v := 1) B d_Program_apart_32 (by decide) ?_
    refine mv_goto (pc := 33) (tgt := 37) B d_Program_apart_33 rfl ?_
    exact mv_iret (pc := 37) B hr rfl d_Program_apart_37 (Nat.le_refl _) (Nat.le_refl _) ⟨_, rfl, rfl, by first | exact Or.inl rfl | exact Or.inr rfl⟩
def y_Program_power : MethodName := ⟨"MachineLoom$Program", "power", "(I)J"⟩
abbrev b_Program_power : ByteArray := prog_7_method_12_code
theorem kc_Program_power : Cond.code y_Program_power b_Program_power 1 (Option.some Jvm.ClassFile.FieldType.long) ∈ ma := ma_of (tb_7 _ (List.mem_of_getElem? (i := 217) rfl)) rfl
theorem d_Program_power_0 : decode b_Program_power 0 = .ok (.iload_n 0, 1) := by decide +kernel
theorem d_Program_power_1 : decode b_Program_power 1 = .ok (.bipush 64, 2) := by decide +kernel
theorem d_Program_power_3 : decode b_Program_power 3 = .ok (.if_icmp .lt (7), 3) := by decide +kernel
theorem d_Program_power_6 : decode b_Program_power 6 = .ok (.lconst 0, 1) := by decide +kernel
theorem d_Program_power_7 : decode b_Program_power 7 = .ok (.goto (6), 3) := by decide +kernel
theorem d_Program_power_10 : decode b_Program_power 10 = .ok (.lconst 1, 1) := by decide +kernel
theorem d_Program_power_11 : decode b_Program_power 11 = .ok (.iload_n 0, 1) := by decide +kernel
theorem d_Program_power_12 : decode b_Program_power 12 = .ok (.lshl, 1) := by decide +kernel
theorem d_Program_power_13 : decode b_Program_power 13 = .ok (.lreturn, 1) := by decide +kernel
set_option maxHeartbeats 4000000 in
set_option maxRecDepth 100000 in
theorem c_Program_power (l : Launch) {dA : FieldType → ClassId} {D : va_G} {al : Nat → Nat} {ext : mv_Sh} {sk sv : Nat → Nat} (hi : mv_inj (mg dA D al ext)) (σ : mv_H) (w : Int32) : mv_C l y_Program_power (Cond.code y_Program_power b_Program_power 1 (Option.some Jvm.ClassFile.FieldType.long) :: ma) ({ frames := 0, cells := 0, slots := 0, locals := 0 }) (mg dA D al ext) (mK sk sv) [.int w] σ (mv_Rl (fun _ σ1 => σ1 = σ)) := by
  refine mv_C.ofV (cc := b_Program_power) (nL := 1) (ret := (Option.some Jvm.ClassFile.FieldType.long)) (by decide +kernel) rfl hi (Nat.le_of_ble_eq_true rfl) ?_
  intro p e s m below meth c B hNs hr hnm hno
  refine mv_iload_n (pc := 0) B d_Program_power_0 rfl 0 rfl ?_
  refine mv_bipush (pc := 1) (v := 64) B d_Program_power_1 (by decide) ?_
  refine mv_icmp_lt (pc := 3) (tgt := 10) B d_Program_power_3 rfl (fun h3 => ?_) (fun h3 => ?_)
  · skip
    refine mv_lconst (pc := 10) (v := 1) B d_Program_power_10 (by decide) ?_
    refine mv_iload_n (pc := 11) B d_Program_power_11 rfl 0 rfl ?_
    refine mv_lshl (pc := 12) B d_Program_power_12 ?_
    exact mv_lret (pc := 13) B hr d_Program_power_13 (Nat.le_refl _) (Nat.le_refl _) ⟨_, rfl, rfl⟩
  · skip
    refine mv_lconst (pc := 6) (v := 0) B d_Program_power_6 (by decide) ?_
    refine mv_goto (pc := 7) (tgt := 13) B d_Program_power_7 rfl ?_
    exact mv_lret (pc := 13) B hr d_Program_power_13 (Nat.le_refl _) (Nat.le_refl _) ⟨_, rfl, rfl⟩
def y_Program_unused : MethodName := ⟨"MachineLoom$Program", "unused", "()J"⟩
abbrev b_Program_unused : ByteArray := prog_7_method_11_code
theorem kc_Program_unused : Cond.code y_Program_unused b_Program_unused 4 (Option.some Jvm.ClassFile.FieldType.long) ∈ ma := ma_of (tb_7 _ (List.mem_of_getElem? (i := 214) rfl)) rfl
theorem k_1658 : (Jvm.Cond.methodLink "MachineLoom$Program" (83 : Nat) ({ cls := "java/lang/Long", name := "bitCount", desc := "(J)I" } : Jvm.MethodName)) ∈ ma := ma_of (tb_7 _ (List.mem_of_getElem? (i := 218) rfl)) rfl
theorem k_10 : (Jvm.Cond.initialized "java/lang/Long") ∈ ma := ma_of (tb_1 _ (List.mem_of_getElem? (i := 10) rfl)) rfl
theorem k_424 : (Jvm.Cond.static ({ cls := "java/lang/Long", name := "bitCount", desc := "(J)I" } : Jvm.MethodName)) ∈ ma := ma_of (tb_2 _ (List.mem_of_getElem? (i := 184) rfl)) rfl
theorem k_1655 : (Jvm.Cond.methodLink "MachineLoom$Program" (79 : Nat) ({ cls := "MachineLoom$Program", name := "power", desc := "(I)J" } : Jvm.MethodName)) ∈ ma := ma_of (tb_7 _ (List.mem_of_getElem? (i := 215) rfl)) rfl
theorem k_8 : (Jvm.Cond.initialized "MachineLoom$Program") ∈ ma := ma_of (tb_1 _ (List.mem_of_getElem? (i := 8) rfl)) rfl
theorem k_1656 : (Jvm.Cond.static ({ cls := "MachineLoom$Program", name := "power", desc := "(I)J" } : Jvm.MethodName)) ∈ ma := ma_of (tb_7 _ (List.mem_of_getElem? (i := 216) rfl)) rfl
theorem d_Program_unused_0 : decode b_Program_unused 0 = .ok (.aload_n 0, 1) := by decide +kernel
theorem d_Program_unused_1 : decode b_Program_unused 1 = .ok (.getfield 54, 3) := by decide +kernel
theorem d_Program_unused_4 : decode b_Program_unused 4 = .ok (.invokestatic 79, 3) := by decide +kernel
theorem d_Program_unused_7 : decode b_Program_unused 7 = .ok (.lstore_n 1, 1) := by decide +kernel
theorem d_Program_unused_8 : decode b_Program_unused 8 = .ok (.iconst 0, 1) := by decide +kernel
theorem d_Program_unused_9 : decode b_Program_unused 9 = .ok (.istore_n 3, 1) := by decide +kernel
theorem d_Program_unused_10 : decode b_Program_unused 10 = .ok (.iload_n 3, 1) := by decide +kernel
theorem d_Program_unused_11 : decode b_Program_unused 11 = .ok (.aload_n 0, 1) := by decide +kernel
theorem d_Program_unused_12 : decode b_Program_unused 12 = .ok (.getfield 73, 3) := by decide +kernel
theorem d_Program_unused_15 : decode b_Program_unused 15 = .ok (.if_icmp .ge (29), 3) := by decide +kernel
theorem d_Program_unused_18 : decode b_Program_unused 18 = .ok (.lload_n 1, 1) := by decide +kernel
theorem d_Program_unused_19 : decode b_Program_unused 19 = .ok (.aload_n 0, 1) := by decide +kernel
theorem d_Program_unused_20 : decode b_Program_unused 20 = .ok (.getfield 54, 3) := by decide +kernel
theorem d_Program_unused_23 : decode b_Program_unused 23 = .ok (.aload_n 0, 1) := by decide +kernel
theorem d_Program_unused_24 : decode b_Program_unused 24 = .ok (.getfield 25, 3) := by decide +kernel
theorem d_Program_unused_27 : decode b_Program_unused 27 = .ok (.iload_n 3, 1) := by decide +kernel
theorem d_Program_unused_28 : decode b_Program_unused 28 = .ok (.laload, 1) := by decide +kernel
theorem d_Program_unused_29 : decode b_Program_unused 29 = .ok (.invokestatic 83, 3) := by decide +kernel
theorem d_Program_unused_32 : decode b_Program_unused 32 = .ok (.isub, 1) := by decide +kernel
theorem d_Program_unused_33 : decode b_Program_unused 33 = .ok (.invokestatic 79, 3) := by decide +kernel
theorem d_Program_unused_36 : decode b_Program_unused 36 = .ok (.lsub, 1) := by decide +kernel
theorem d_Program_unused_37 : decode b_Program_unused 37 = .ok (.lstore_n 1, 1) := by decide +kernel
theorem d_Program_unused_38 : decode b_Program_unused 38 = .ok (.iinc 3 (1), 3) := by decide +kernel
theorem d_Program_unused_41 : decode b_Program_unused 41 = .ok (.goto (-31), 3) := by decide +kernel
theorem d_Program_unused_44 : decode b_Program_unused 44 = .ok (.lload_n 1, 1) := by decide +kernel
theorem d_Program_unused_45 : decode b_Program_unused 45 = .ok (.lreturn, 1) := by decide +kernel
set_option maxHeartbeats 4000000 in
set_option maxRecDepth 100000 in
theorem c_Program_unused_a (l : Launch) {dA : FieldType → ClassId} {D : va_G} {al : Nat → Nat} {ext : mv_Sh} {sk sv : Nat → Nat} (hi : mv_inj (mg dA D al ext)) (σ : mv_H) (hq : Ph 32 (mv_r σ)) (g3 : (mv_i σ 32 10).toInt ≤ 512) : mv_C l y_Program_unused (Cond.code y_Program_unused b_Program_unused 4 (Option.some Jvm.ClassFile.FieldType.long) :: ma) ({ frames := 1, cells := 0, slots := 0, locals := 21 }) (mg dA D al ext) (mK sk sv) [.ref (al 32)] σ (mv_Rl (fun v σ1 => σ1 = σ)) := by
  refine mv_C.ofV (cc := b_Program_unused) (nL := 4) (ret := (Option.some Jvm.ClassFile.FieldType.long)) (by decide +kernel) rfl hi (Nat.le_of_ble_eq_true rfl) ?_
  intro p e s m below meth c B hNs hr hnm hno
  have lp : ∀ (nn : Nat) (τ : mv_H) (j : Int32) (m9 : Int64) (qe : τ = σ) (q0 : 0 ≤ j.toInt), (512 - j.toInt).toNat < nn → mv_V p l e ({ frames := 1, cells := 0, slots := 0, locals := 21 }) s m ([.ref (al 32)] : List Value).toArray below meth c (mg dA D al ext) 4 0 0 (mv_Q (mg dA D al ext) below s 0 0 (mv_Rl (fun v σ1 => σ1 = σ))) τ 10 [(3, .int j), (1, .long m9), (0, .ref (al 32))] [] := by
    intro nn
    induction nn with
    | zero => intro τ j m9 qe q0 hm; exact absurd hm (Nat.not_lt_zero _)
    | succ nn ih =>
      intro τ j m9 qe q0 hm
      subst qe
      refine mv_iload_n (pc := 10) B d_Program_unused_10 rfl 0 rfl ?_
      refine mv_aload_n (pc := 11) B d_Program_unused_11 rfl 2 rfl ?_
      refine mv_getI (pc := 12) (ci := 7) (C := R_Program) (T := F_Program) (N := 19) B 10 rfl rfl (by decide) i_Program (B.2.2.2.1 _ k_345) rfl d_Program_unused_12 ?_
      refine mv_icmp_ge (pc := 15) (tgt := 44) B d_Program_unused_15 rfl (fun h15 => ?_) (fun h15 => ?_)
      · skip
        refine mv_lload_n (pc := 44) B d_Program_unused_44 rfl 1 rfl ?_
        exact mv_lret (pc := 45) B hr d_Program_unused_45 (Nat.le_refl _) (Nat.le_refl _) ⟨_, rfl, rfl⟩
      · skip
        rw [Int32.le_iff_toInt_le] at h15
        refine mv_lload_n (pc := 18) B d_Program_unused_18 rfl 1 rfl ?_
        refine mv_aload_n (pc := 19) B d_Program_unused_19 rfl 2 rfl ?_
        refine mv_getI (pc := 20) (ci := 7) (C := R_Program) (T := F_Program) (N := 19) B 0 rfl rfl (by decide) i_Program (B.2.2.2.1 _ k_311) rfl d_Program_unused_20 ?_
        refine mv_aload_n (pc := 23) B d_Program_unused_23 rfl 2 rfl ?_
        refine mv_getR (pc := 24) (ci := 7) (C := R_Program) (T := F_Program) (N := 19) B 11 rfl rfl (by decide) i_Program (B.2.2.2.1 _ k_348) rfl (hq _ 11 37 rfl) d_Program_unused_24 ?_
        refine mv_iload_n (pc := 27) B d_Program_unused_27 rfl 0 rfl ?_
        refine mv_lald (pc := 28) B rfl (i32_in (by omega) (by omega)) d_Program_unused_28 ?_
        refine mv_callSi (pc := 29) (n := 1) B (mK_ok sk sv) hNs (c_Long_bitCount l hi _ _) rfl (ma_goodc kc_Long_bitCount) (B.2.2.2.1 _ k_1658) (B.2.2.2.1 _ k_424) (B.2.2.2.1 _ k_10) ⟨by decide +kernel, by decide +kernel, by decide +kernel⟩ rfl d_Program_unused_29 rfl (Nat.le_of_ble_eq_true rfl) ⟨by decide, by decide⟩ ⟨by decide, by decide⟩ ⟨by decide, by decide⟩ (mv_noH hno _) (fun v29 σ29 h29 => ?_)
        subst h29
        refine mv_isub (pc := 32) B d_Program_unused_32 ?_
        refine mv_callSl (pc := 33) (n := 1) B (mK_ok sk sv) hNs (c_Program_power l hi _ _) rfl (ma_goodc kc_Program_power) (B.2.2.2.1 _ k_1655) (B.2.2.2.1 _ k_1656) (B.2.2.2.1 _ k_8) ⟨by decide +kernel, by decide +kernel, by decide +kernel⟩ rfl d_Program_unused_33 rfl (Nat.le_of_ble_eq_true rfl) ⟨by decide, by decide⟩ ⟨by decide, by decide⟩ ⟨by decide, by decide⟩ (mv_noH hno _) (fun v33 σ33 h33 => ?_)
        subst h33
        refine mv_lsub (pc := 36) B d_Program_unused_36 ?_
        refine mv_lstore_n (pc := 37) B d_Program_unused_37 rfl (by decide) rfl ?_
        refine mv_iinc (pc := 38) (j := 1) (v := 1) B d_Program_unused_38 rfl (by decide) (by decide) rfl ?_
        refine mv_goto (pc := 41) (tgt := 10) B d_Program_unused_41 rfl ?_
        refine mv_lpick [0, 1, 2] rfl ?_
        exact ih _ _ _ rfl (by rw [i32_inc (by omega)]; omega) (by rw [i32_inc (by omega)]; omega)
  refine mv_aload_n (pc := 0) B d_Program_unused_0 rfl 0 rfl ?_
  refine mv_getI (pc := 1) (ci := 7) (C := R_Program) (T := F_Program) (N := 19) B 0 rfl rfl (by decide) i_Program (B.2.2.2.1 _ k_311) rfl d_Program_unused_1 ?_
  refine mv_callSl (pc := 4) (n := 1) B (mK_ok sk sv) hNs (c_Program_power l hi _ _) rfl (ma_goodc kc_Program_power) (B.2.2.2.1 _ k_1655) (B.2.2.2.1 _ k_1656) (B.2.2.2.1 _ k_8) ⟨by decide +kernel, by decide +kernel, by decide +kernel⟩ rfl d_Program_unused_4 rfl (Nat.le_of_ble_eq_true rfl) ⟨by decide, by decide⟩ ⟨by decide, by decide⟩ ⟨by decide, by decide⟩ (mv_noH hno _) (fun v4 σ4 h4 => ?_)
  subst h4
  refine mv_lstore_n (pc := 7) B d_Program_unused_7 rfl (by decide) rfl ?_
  refine mv_iconst (pc := 8) (v := 0) B d_Program_unused_8 (by decide) ?_
  refine mv_istore_n (pc := 9) B d_Program_unused_9 rfl (by decide) rfl ?_
  refine mv_lpick [0, 1, 2] rfl ?_
  exact lp _ _ _ _ rfl (by decide) (Nat.lt_succ_self _)
set_option maxHeartbeats 4000000 in
set_option maxRecDepth 100000 in
theorem c_Program_unused_b (l : Launch) {dA : FieldType → ClassId} {D : va_G} {al : Nat → Nat} {ext : mv_Sh} {sk sv : Nat → Nat} (hi : mv_inj (mg dA D al ext)) (σ : mv_H) (hq : Ph 48 (mv_r σ)) (g3 : (mv_i σ 48 10).toInt ≤ 512) : mv_C l y_Program_unused (Cond.code y_Program_unused b_Program_unused 4 (Option.some Jvm.ClassFile.FieldType.long) :: ma) ({ frames := 1, cells := 0, slots := 0, locals := 21 }) (mg dA D al ext) (mK sk sv) [.ref (al 48)] σ (mv_Rl (fun v σ1 => σ1 = σ)) := by
  refine mv_C.ofV (cc := b_Program_unused) (nL := 4) (ret := (Option.some Jvm.ClassFile.FieldType.long)) (by decide +kernel) rfl hi (Nat.le_of_ble_eq_true rfl) ?_
  intro p e s m below meth c B hNs hr hnm hno
  have lp : ∀ (nn : Nat) (τ : mv_H) (j : Int32) (m9 : Int64) (qe : τ = σ) (q0 : 0 ≤ j.toInt), (512 - j.toInt).toNat < nn → mv_V p l e ({ frames := 1, cells := 0, slots := 0, locals := 21 }) s m ([.ref (al 48)] : List Value).toArray below meth c (mg dA D al ext) 4 0 0 (mv_Q (mg dA D al ext) below s 0 0 (mv_Rl (fun v σ1 => σ1 = σ))) τ 10 [(3, .int j), (1, .long m9), (0, .ref (al 48))] [] := by
    intro nn
    induction nn with
    | zero => intro τ j m9 qe q0 hm; exact absurd hm (Nat.not_lt_zero _)
    | succ nn ih =>
      intro τ j m9 qe q0 hm
      subst qe
      refine mv_iload_n (pc := 10) B d_Program_unused_10 rfl 0 rfl ?_
      refine mv_aload_n (pc := 11) B d_Program_unused_11 rfl 2 rfl ?_
      refine mv_getI (pc := 12) (ci := 7) (C := R_Program) (T := F_Program) (N := 19) B 10 rfl rfl (by decide) i_Program (B.2.2.2.1 _ k_345) rfl d_Program_unused_12 ?_
      refine mv_icmp_ge (pc := 15) (tgt := 44) B d_Program_unused_15 rfl (fun h15 => ?_) (fun h15 => ?_)
      · skip
        refine mv_lload_n (pc := 44) B d_Program_unused_44 rfl 1 rfl ?_
        exact mv_lret (pc := 45) B hr d_Program_unused_45 (Nat.le_refl _) (Nat.le_refl _) ⟨_, rfl, rfl⟩
      · skip
        rw [Int32.le_iff_toInt_le] at h15
        refine mv_lload_n (pc := 18) B d_Program_unused_18 rfl 1 rfl ?_
        refine mv_aload_n (pc := 19) B d_Program_unused_19 rfl 2 rfl ?_
        refine mv_getI (pc := 20) (ci := 7) (C := R_Program) (T := F_Program) (N := 19) B 0 rfl rfl (by decide) i_Program (B.2.2.2.1 _ k_311) rfl d_Program_unused_20 ?_
        refine mv_aload_n (pc := 23) B d_Program_unused_23 rfl 2 rfl ?_
        refine mv_getR (pc := 24) (ci := 7) (C := R_Program) (T := F_Program) (N := 19) B 11 rfl rfl (by decide) i_Program (B.2.2.2.1 _ k_348) rfl (hq _ 11 53 rfl) d_Program_unused_24 ?_
        refine mv_iload_n (pc := 27) B d_Program_unused_27 rfl 0 rfl ?_
        refine mv_lald (pc := 28) B rfl (i32_in (by omega) (by omega)) d_Program_unused_28 ?_
        refine mv_callSi (pc := 29) (n := 1) B (mK_ok sk sv) hNs (c_Long_bitCount l hi _ _) rfl (ma_goodc kc_Long_bitCount) (B.2.2.2.1 _ k_1658) (B.2.2.2.1 _ k_424) (B.2.2.2.1 _ k_10) ⟨by decide +kernel, by decide +kernel, by decide +kernel⟩ rfl d_Program_unused_29 rfl (Nat.le_of_ble_eq_true rfl) ⟨by decide, by decide⟩ ⟨by decide, by decide⟩ ⟨by decide, by decide⟩ (mv_noH hno _) (fun v29 σ29 h29 => ?_)
        subst h29
        refine mv_isub (pc := 32) B d_Program_unused_32 ?_
        refine mv_callSl (pc := 33) (n := 1) B (mK_ok sk sv) hNs (c_Program_power l hi _ _) rfl (ma_goodc kc_Program_power) (B.2.2.2.1 _ k_1655) (B.2.2.2.1 _ k_1656) (B.2.2.2.1 _ k_8) ⟨by decide +kernel, by decide +kernel, by decide +kernel⟩ rfl d_Program_unused_33 rfl (Nat.le_of_ble_eq_true rfl) ⟨by decide, by decide⟩ ⟨by decide, by decide⟩ ⟨by decide, by decide⟩ (mv_noH hno _) (fun v33 σ33 h33 => ?_)
        subst h33
        refine mv_lsub (pc := 36) B d_Program_unused_36 ?_
        refine mv_lstore_n (pc := 37) B d_Program_unused_37 rfl (by decide) rfl ?_
        refine mv_iinc (pc := 38) (j := 1) (v := 1) B d_Program_unused_38 rfl (by decide) (by decide) rfl ?_
        refine mv_goto (pc := 41) (tgt := 10) B d_Program_unused_41 rfl ?_
        refine mv_lpick [0, 1, 2] rfl ?_
        exact ih _ _ _ rfl (by rw [i32_inc (by omega)]; omega) (by rw [i32_inc (by omega)]; omega)
  refine mv_aload_n (pc := 0) B d_Program_unused_0 rfl 0 rfl ?_
  refine mv_getI (pc := 1) (ci := 7) (C := R_Program) (T := F_Program) (N := 19) B 0 rfl rfl (by decide) i_Program (B.2.2.2.1 _ k_311) rfl d_Program_unused_1 ?_
  refine mv_callSl (pc := 4) (n := 1) B (mK_ok sk sv) hNs (c_Program_power l hi _ _) rfl (ma_goodc kc_Program_power) (B.2.2.2.1 _ k_1655) (B.2.2.2.1 _ k_1656) (B.2.2.2.1 _ k_8) ⟨by decide +kernel, by decide +kernel, by decide +kernel⟩ rfl d_Program_unused_4 rfl (Nat.le_of_ble_eq_true rfl) ⟨by decide, by decide⟩ ⟨by decide, by decide⟩ ⟨by decide, by decide⟩ (mv_noH hno _) (fun v4 σ4 h4 => ?_)
  subst h4
  refine mv_lstore_n (pc := 7) B d_Program_unused_7 rfl (by decide) rfl ?_
  refine mv_iconst (pc := 8) (v := 0) B d_Program_unused_8 (by decide) ?_
  refine mv_istore_n (pc := 9) B d_Program_unused_9 rfl (by decide) rfl ?_
  refine mv_lpick [0, 1, 2] rfl ?_
  exact lp _ _ _ _ rfl (by decide) (Nat.lt_succ_self _)
set_option maxHeartbeats 4000000 in
set_option maxRecDepth 100000 in
theorem c_Program_unused_c (l : Launch) {dA : FieldType → ClassId} {D : va_G} {al : Nat → Nat} {sk sv : Nat → Nat} (hi : mv_inj (mg dA D al me)) (σ : mv_H) (hq : Ph 145 (mv_r σ)) (g3 : (mv_i σ 145 10).toInt ≤ 48) : mv_C l y_Program_unused (Cond.code y_Program_unused b_Program_unused 4 (Option.some Jvm.ClassFile.FieldType.long) :: ma) ({ frames := 1, cells := 0, slots := 0, locals := 21 }) (mg dA D al me) (mK sk sv) [.ref (al 145)] σ (mv_Rl (fun v σ1 => σ1 = σ)) := by
  refine mv_C.ofV (cc := b_Program_unused) (nL := 4) (ret := (Option.some Jvm.ClassFile.FieldType.long)) (by decide +kernel) rfl hi (Nat.le_of_ble_eq_true rfl) ?_
  intro p e s m below meth c B hNs hr hnm hno
  have lp : ∀ (nn : Nat) (τ : mv_H) (j : Int32) (m9 : Int64) (qe : τ = σ) (q0 : 0 ≤ j.toInt), (48 - j.toInt).toNat < nn → mv_V p l e ({ frames := 1, cells := 0, slots := 0, locals := 21 }) s m ([.ref (al 145)] : List Value).toArray below meth c (mg dA D al me) 4 0 0 (mv_Q (mg dA D al me) below s 0 0 (mv_Rl (fun v σ1 => σ1 = σ))) τ 10 [(3, .int j), (1, .long m9), (0, .ref (al 145))] [] := by
    intro nn
    induction nn with
    | zero => intro τ j m9 qe q0 hm; exact absurd hm (Nat.not_lt_zero _)
    | succ nn ih =>
      intro τ j m9 qe q0 hm
      subst qe
      refine mv_iload_n (pc := 10) B d_Program_unused_10 rfl 0 rfl ?_
      refine mv_aload_n (pc := 11) B d_Program_unused_11 rfl 2 rfl ?_
      refine mv_getI (pc := 12) (ci := 7) (C := R_Program) (T := F_Program) (N := 19) B 10 rfl rfl (by decide) i_Program (B.2.2.2.1 _ k_345) rfl d_Program_unused_12 ?_
      refine mv_icmp_ge (pc := 15) (tgt := 44) B d_Program_unused_15 rfl (fun h15 => ?_) (fun h15 => ?_)
      · skip
        refine mv_lload_n (pc := 44) B d_Program_unused_44 rfl 1 rfl ?_
        exact mv_lret (pc := 45) B hr d_Program_unused_45 (Nat.le_refl _) (Nat.le_refl _) ⟨_, rfl, rfl⟩
      · skip
        rw [Int32.le_iff_toInt_le] at h15
        refine mv_lload_n (pc := 18) B d_Program_unused_18 rfl 1 rfl ?_
        refine mv_aload_n (pc := 19) B d_Program_unused_19 rfl 2 rfl ?_
        refine mv_getI (pc := 20) (ci := 7) (C := R_Program) (T := F_Program) (N := 19) B 0 rfl rfl (by decide) i_Program (B.2.2.2.1 _ k_311) rfl d_Program_unused_20 ?_
        refine mv_aload_n (pc := 23) B d_Program_unused_23 rfl 2 rfl ?_
        refine mv_getR (pc := 24) (ci := 7) (C := R_Program) (T := F_Program) (N := 19) B 11 rfl rfl (by decide) i_Program (B.2.2.2.1 _ k_348) rfl (hq _ 11 150 rfl) d_Program_unused_24 ?_
        refine mv_iload_n (pc := 27) B d_Program_unused_27 rfl 0 rfl ?_
        refine mv_lald (pc := 28) B rfl (i32_in (by omega) (by omega)) d_Program_unused_28 ?_
        refine mv_callSi (pc := 29) (n := 1) B (mK_ok sk sv) hNs (c_Long_bitCount l hi _ _) rfl (ma_goodc kc_Long_bitCount) (B.2.2.2.1 _ k_1658) (B.2.2.2.1 _ k_424) (B.2.2.2.1 _ k_10) ⟨by decide +kernel, by decide +kernel, by decide +kernel⟩ rfl d_Program_unused_29 rfl (Nat.le_of_ble_eq_true rfl) ⟨by decide, by decide⟩ ⟨by decide, by decide⟩ ⟨by decide, by decide⟩ (mv_noH hno _) (fun v29 σ29 h29 => ?_)
        subst h29
        refine mv_isub (pc := 32) B d_Program_unused_32 ?_
        refine mv_callSl (pc := 33) (n := 1) B (mK_ok sk sv) hNs (c_Program_power l hi _ _) rfl (ma_goodc kc_Program_power) (B.2.2.2.1 _ k_1655) (B.2.2.2.1 _ k_1656) (B.2.2.2.1 _ k_8) ⟨by decide +kernel, by decide +kernel, by decide +kernel⟩ rfl d_Program_unused_33 rfl (Nat.le_of_ble_eq_true rfl) ⟨by decide, by decide⟩ ⟨by decide, by decide⟩ ⟨by decide, by decide⟩ (mv_noH hno _) (fun v33 σ33 h33 => ?_)
        subst h33
        refine mv_lsub (pc := 36) B d_Program_unused_36 ?_
        refine mv_lstore_n (pc := 37) B d_Program_unused_37 rfl (by decide) rfl ?_
        refine mv_iinc (pc := 38) (j := 1) (v := 1) B d_Program_unused_38 rfl (by decide) (by decide) rfl ?_
        refine mv_goto (pc := 41) (tgt := 10) B d_Program_unused_41 rfl ?_
        refine mv_lpick [0, 1, 2] rfl ?_
        exact ih _ _ _ rfl (by rw [i32_inc (by omega)]; omega) (by rw [i32_inc (by omega)]; omega)
  refine mv_aload_n (pc := 0) B d_Program_unused_0 rfl 0 rfl ?_
  refine mv_getI (pc := 1) (ci := 7) (C := R_Program) (T := F_Program) (N := 19) B 0 rfl rfl (by decide) i_Program (B.2.2.2.1 _ k_311) rfl d_Program_unused_1 ?_
  refine mv_callSl (pc := 4) (n := 1) B (mK_ok sk sv) hNs (c_Program_power l hi _ _) rfl (ma_goodc kc_Program_power) (B.2.2.2.1 _ k_1655) (B.2.2.2.1 _ k_1656) (B.2.2.2.1 _ k_8) ⟨by decide +kernel, by decide +kernel, by decide +kernel⟩ rfl d_Program_unused_4 rfl (Nat.le_of_ble_eq_true rfl) ⟨by decide, by decide⟩ ⟨by decide, by decide⟩ ⟨by decide, by decide⟩ (mv_noH hno _) (fun v4 σ4 h4 => ?_)
  subst h4
  refine mv_lstore_n (pc := 7) B d_Program_unused_7 rfl (by decide) rfl ?_
  refine mv_iconst (pc := 8) (v := 0) B d_Program_unused_8 (by decide) ?_
  refine mv_istore_n (pc := 9) B d_Program_unused_9 rfl (by decide) rfl ?_
  refine mv_lpick [0, 1, 2] rfl ?_
  exact lp _ _ _ _ rfl (by decide) (Nat.lt_succ_self _)
