/-! Symbols: one more; finding one -/
theorem rd_ai (σ : mv_H) (o k : Nat) (v : Int32) : mv_a (mv_si σ o k v) = mv_a σ := rfl
theorem rd_ab (σ : mv_H) (o k : Nat) (v : Int64) : mv_a (mv_sb σ o k v) = mv_a σ := rfl
theorem rd_ia (σ : mv_H) (o k : Nat) (v : Int32) : mv_i (mv_sa σ o k v) = mv_i σ := rfl
theorem rd_ib (σ : mv_H) (o k : Nat) (v : Int64) : mv_i (mv_sb σ o k v) = mv_i σ := rfl
theorem rd_ic (σ : mv_H) (o : Nat) (f : Nat → Int32) : mv_i (mv_ca σ o f) = mv_i σ := rfl
theorem Sy.add {σ : mv_H} {n z d b : Nat} (h : Sy σ n z) (hn : n < 16448) (hz : z + d ≤ 32896) (hb : b < 1024) {g : Nat → Int32} (hg0 : ∀ j, j < z → g j = mv_a σ 8 j) (hg1 : ∀ j, z ≤ j → j < z + d → 48 ≤ (g j).toInt ∧ (g j).toInt ≤ 122)
    {s s1 z1 : Int32} (hs : s.toInt = n) (hs1 : s1.toInt = n + 1) (hz1 : z1.toInt = z + d) {k0 k1 : Nat} (hk0 : k0 = n) (hk1 : k1 = n + 1) :
    Sy (mv_si (mv_sa (mv_sa (mv_sa (mv_ca σ 8 g) 9 k1 z1) 11 k0 (mv_a σ 10 b)) 10 b s) 7 5 s1) (n + 1) (z + d) := by
  subst hk0; subst hk1
  obtain ⟨h1, h2, h3, h4, h5, h6, h7, h8, h9⟩ := h
  have e8 : ∀ j, mv_a (mv_si (mv_sa (mv_sa (mv_sa (mv_ca σ 8 g) 9 (k0 + 1) z1) 11 k0 (mv_a σ 10 b)) 10 b s) 7 5 s1) 8 j = g j := fun j => rfl
  have e9 : ∀ j, mv_a (mv_si (mv_sa (mv_sa (mv_sa (mv_ca σ 8 g) 9 (k0 + 1) z1) 11 k0 (mv_a σ 10 b)) 10 b s) 7 5 s1) 9 j = if j = k0 + 1 then z1 else mv_a σ 9 j := fun j => by
    show (if 9 = 9 ∧ j = k0 + 1 then z1 else mv_a σ 9 j) = _
    simp only [true_and]
  have e10 : ∀ j, mv_a (mv_si (mv_sa (mv_sa (mv_sa (mv_ca σ 8 g) 9 (k0 + 1) z1) 11 k0 (mv_a σ 10 b)) 10 b s) 7 5 s1) 10 j = if j = b then s else mv_a σ 10 j := fun j => by
    show (if 10 = 10 ∧ j = b then s else mv_a σ 10 j) = _
    simp only [true_and]
  have e11 : ∀ j, mv_a (mv_si (mv_sa (mv_sa (mv_sa (mv_ca σ 8 g) 9 (k0 + 1) z1) 11 k0 (mv_a σ 10 b)) 10 b s) 7 5 s1) 11 j = if j = k0 then mv_a σ 10 b else mv_a σ 11 j := fun j => by
    show (if 11 = 11 ∧ j = k0 then mv_a σ 10 b else mv_a σ 11 j) = _
    simp only [true_and]
  refine ⟨?_, by omega, hz, ?_, ?_, ?_, ?_, ?_, ?_⟩
  · show s1.toInt = _
    rw [hs1]; omega
  · rw [e9, if_pos rfl, hz1]; omega
  · intro j hj
    rw [e9]
    split
    · omega
    · have := h5 j (by omega); omega
  · intro j hj
    rw [e9, e9]
    by_cases q : j = k0
    · subst q
      rw [if_neg (by omega), if_pos rfl]
      have := h5 j (by omega); omega
    · rw [if_neg (by omega), if_neg (by omega)]
      exact h6 j (by omega)
  · intro j hj
    rw [e10]
    split
    · omega
    · have := h7 j hj; omega
  · intro j hj
    rw [e11]
    split
    · have := h7 b hb; omega
    · have := h8 j (by omega); omega
  · intro j hj
    rw [e8]
    by_cases q : j < z
    · rw [hg0 j q]; exact h9 j q
    · exact hg1 j (by omega) hj
def y_Symbols_add : MethodName := ⟨"MachineLoom$Symbols", "add", "(I[BII)I"⟩
abbrev b_Symbols_add : ByteArray := prog_9_method_5_code
theorem kc_Symbols_add : Cond.code y_Symbols_add b_Symbols_add 6 (Option.some Jvm.ClassFile.FieldType.int) ∈ ma := ma_of (tb_4 _ (List.mem_of_getElem? (i := 94) rfl)) rfl
theorem k_72 : (Jvm.Cond.fieldLink "MachineLoom$Symbols" (35 : Nat) "MachineLoom$Symbols" "size" "I") ∈ ma := ma_of (tb_1 _ (List.mem_of_getElem? (i := 72) rfl)) rfl
theorem k_815 : (Jvm.Cond.methodLink "MachineLoom$Symbols" (63 : Nat) ({ cls := "java/lang/System", name := "arraycopy", desc := "(Ljava/lang/Object;ILjava/lang/Object;II)V" } : Jvm.MethodName)) ∈ ma := ma_of (tb_4 _ (List.mem_of_getElem? (i := 95) rfl)) rfl
theorem k_816 : (Jvm.Cond.static ({ cls := "java/lang/System", name := "arraycopy", desc := "(Ljava/lang/Object;ILjava/lang/Object;II)V" } : Jvm.MethodName)) ∈ ma := ma_of (tb_4 _ (List.mem_of_getElem? (i := 96) rfl)) rfl
theorem k_817 : (Jvm.Cond.native ({ cls := "java/lang/System", name := "arraycopy", desc := "(Ljava/lang/Object;ILjava/lang/Object;II)V" } : Jvm.MethodName)) ∈ ma := ma_of (tb_4 _ (List.mem_of_getElem? (i := 97) rfl)) rfl
theorem k_25 : (Jvm.Cond.initialized "java/lang/System") ∈ ma := ma_of (tb_1 _ (List.mem_of_getElem? (i := 25) rfl)) rfl
theorem k_69 : (Jvm.Cond.fieldLink "MachineLoom$Symbols" (23 : Nat) "MachineLoom$Symbols" "chains" "[I") ∈ ma := ma_of (tb_1 _ (List.mem_of_getElem? (i := 69) rfl)) rfl
theorem k_68 : (Jvm.Cond.fieldLink "MachineLoom$Symbols" (20 : Nat) "MachineLoom$Symbols" "buckets" "[I") ∈ ma := ma_of (tb_1 _ (List.mem_of_getElem? (i := 68) rfl)) rfl
theorem d_Symbols_add_0 : decode b_Symbols_add 0 = .ok (.aload_n 0, 1) := by decide +kernel
theorem d_Symbols_add_1 : decode b_Symbols_add 1 = .ok (.getfield 35, 3) := by decide +kernel
theorem d_Symbols_add_4 : decode b_Symbols_add 4 = .ok (.istore 5, 2) := by decide +kernel
theorem d_Symbols_add_6 : decode b_Symbols_add 6 = .ok (.aload_n 2, 1) := by decide +kernel
theorem d_Symbols_add_7 : decode b_Symbols_add 7 = .ok (.iload_n 3, 1) := by decide +kernel
theorem d_Symbols_add_8 : decode b_Symbols_add 8 = .ok (.aload_n 0, 1) := by decide +kernel
theorem d_Symbols_add_9 : decode b_Symbols_add 9 = .ok (.getfield 10, 3) := by decide +kernel
theorem d_Symbols_add_12 : decode b_Symbols_add 12 = .ok (.aload_n 0, 1) := by decide +kernel
theorem d_Symbols_add_13 : decode b_Symbols_add 13 = .ok (.getfield 16, 3) := by decide +kernel
theorem d_Symbols_add_16 : decode b_Symbols_add 16 = .ok (.iload 5, 2) := by decide +kernel
theorem d_Symbols_add_18 : decode b_Symbols_add 18 = .ok (.iaload, 1) := by decide +kernel
theorem d_Symbols_add_19 : decode b_Symbols_add 19 = .ok (.iload 4, 2) := by decide +kernel
theorem d_Symbols_add_21 : decode b_Symbols_add 21 = .ok (.invokestatic 63, 3) := by decide +kernel
theorem d_Symbols_add_24 : decode b_Symbols_add 24 = .ok (.aload_n 0, 1) := by decide +kernel
theorem d_Symbols_add_25 : decode b_Symbols_add 25 = .ok (.getfield 16, 3) := by decide +kernel
theorem d_Symbols_add_28 : decode b_Symbols_add 28 = .ok (.iload 5, 2) := by decide +kernel
theorem d_Symbols_add_30 : decode b_Symbols_add 30 = .ok (.iconst 1, 1) := by decide +kernel
theorem d_Symbols_add_31 : decode b_Symbols_add 31 = .ok (.iadd, 1) := by decide +kernel
theorem d_Symbols_add_32 : decode b_Symbols_add 32 = .ok (.aload_n 0, 1) := by decide +kernel
theorem d_Symbols_add_33 : decode b_Symbols_add 33 = .ok (.getfield 16, 3) := by decide +kernel
theorem d_Symbols_add_36 : decode b_Symbols_add 36 = .ok (.iload 5, 2) := by decide +kernel
theorem d_Symbols_add_38 : decode b_Symbols_add 38 = .ok (.iaload, 1) := by decide +kernel
theorem d_Symbols_add_39 : decode b_Symbols_add 39 = .ok (.iload 4, 2) := by decide +kernel
theorem d_Symbols_add_41 : decode b_Symbols_add 41 = .ok (.iadd, 1) := by decide +kernel
theorem d_Symbols_add_42 : decode b_Symbols_add 42 = .ok (.iastore, 1) := by decide +kernel
theorem d_Symbols_add_43 : decode b_Symbols_add 43 = .ok (.aload_n 0, 1) := by decide +kernel
theorem d_Symbols_add_44 : decode b_Symbols_add 44 = .ok (.getfield 23, 3) := by decide +kernel
theorem d_Symbols_add_47 : decode b_Symbols_add 47 = .ok (.iload 5, 2) := by decide +kernel
theorem d_Symbols_add_49 : decode b_Symbols_add 49 = .ok (.aload_n 0, 1) := by decide +kernel
theorem d_Symbols_add_50 : decode b_Symbols_add 50 = .ok (.getfield 20, 3) := by decide +kernel
theorem d_Symbols_add_53 : decode b_Symbols_add 53 = .ok (.iload_n 1, 1) := by decide +kernel
theorem d_Symbols_add_54 : decode b_Symbols_add 54 = .ok (.iaload, 1) := by decide +kernel
theorem d_Symbols_add_55 : decode b_Symbols_add 55 = .ok (.iastore, 1) := by decide +kernel
theorem d_Symbols_add_56 : decode b_Symbols_add 56 = .ok (.aload_n 0, 1) := by decide +kernel
theorem d_Symbols_add_57 : decode b_Symbols_add 57 = .ok (.getfield 20, 3) := by decide +kernel
theorem d_Symbols_add_60 : decode b_Symbols_add 60 = .ok (.iload_n 1, 1) := by decide +kernel
theorem d_Symbols_add_61 : decode b_Symbols_add 61 = .ok (.iload 5, 2) := by decide +kernel
theorem d_Symbols_add_63 : decode b_Symbols_add 63 = .ok (.iastore, 1) := by decide +kernel
theorem d_Symbols_add_64 : decode b_Symbols_add 64 = .ok (.aload_n 0, 1) := by decide +kernel
theorem d_Symbols_add_65 : decode b_Symbols_add 65 = .ok (.dup, 1) := by decide +kernel
theorem d_Symbols_add_66 : decode b_Symbols_add 66 = .ok (.getfield 35, 3) := by decide +kernel
theorem d_Symbols_add_69 : decode b_Symbols_add 69 = .ok (.iconst 1, 1) := by decide +kernel
theorem d_Symbols_add_70 : decode b_Symbols_add 70 = .ok (.iadd, 1) := by decide +kernel
theorem d_Symbols_add_71 : decode b_Symbols_add 71 = .ok (.putfield 35, 3) := by decide +kernel
theorem d_Symbols_add_74 : decode b_Symbols_add 74 = .ok (.iload 5, 2) := by decide +kernel
theorem d_Symbols_add_76 : decode b_Symbols_add 76 = .ok (.ireturn, 1) := by decide +kernel
set_option maxHeartbeats 4000000 in
set_option maxRecDepth 100000 in
theorem c_Symbols_add (l : Launch) {dA : FieldType → ClassId} {D : va_G} {al : Nat → Nat} {ext : mv_Sh} {sk sv : Nat → Nat} (hi : mv_inj (mg dA D al ext)) (σ : mv_H) (b f d : Int32) (n z : Nat) (hsh : mh (mv_r σ)) (hSy : Sy σ n z) (t tn : Nat) (hts : (mb ++ ext)[t]? = some (.inr (.byte, tn))) (hb : 0 ≤ b.toInt) (hb2 : b.toInt < 1024) (hf : 0 ≤ f.toInt) (hd : 0 ≤ d.toInt) (hfd : f.toInt + d.toInt ≤ tn) (hn1 : n < 16448) (hzd : z + d.toInt ≤ 32896) (hby : ∀ j, j < d.toNatClampNeg → 48 ≤ (mv_a σ t (f.toNatClampNeg + j)).toInt ∧ (mv_a σ t (f.toNatClampNeg + j)).toInt ≤ 122) : mv_C l y_Symbols_add (Cond.code y_Symbols_add b_Symbols_add 6 (Option.some Jvm.ClassFile.FieldType.int) :: ma) ({ frames := 1, cells := 0, slots := 0, locals := 40 }) (mg dA D al ext) (mK sk sv) [.ref (al 7), .int b, .ref (al t), .int f, .int d] σ (mv_Ri (fun v σ1 => v.toInt = n ∧ Sy σ1 (n + 1) (z + d.toNatClampNeg) ∧ SyF σ σ1)) := by
  refine mv_C.ofV (cc := b_Symbols_add) (nL := 6) (ret := (Option.some Jvm.ClassFile.FieldType.int)) (by decide +kernel) rfl hi (Nat.le_of_ble_eq_true rfl) ?_
  intro p e s m below meth c B hNs hr hnm hno
  have hn := hSy.2.1
  have hz := hSy.2.2.1
  have hi0 := hSy.1
  have hst := hSy.2.2.2.1
  have ek : (mv_i σ 7 5).toNatClampNeg = n := by have := i32_cl (x := mv_i σ 7 5) (by omega); omega
  have ef := i32_cl hf
  have ed := i32_cl hd
  have eb := i32_cl hb
  refine mv_aload_n (pc := 0) B d_Symbols_add_0 rfl 0 rfl ?_
  refine mv_getI (pc := 1) (ci := 3) (C := R_Symbols) (T := F_Symbols) (N := 6) B 5 rfl rfl (by decide) i_Symbols (B.2.2.2.1 _ k_72) rfl d_Symbols_add_1 ?_
  refine mv_istore (pc := 4) B d_Symbols_add_4 (by decide) rfl ?_
  refine mv_aload_n (pc := 6) B d_Symbols_add_6 rfl 3 rfl ?_
  refine mv_iload_n (pc := 7) B d_Symbols_add_7 rfl 4 rfl ?_
  refine mv_aload_n (pc := 8) B d_Symbols_add_8 rfl 1 rfl ?_
  refine mv_getR (pc := 9) (ci := 3) (C := R_Symbols) (T := F_Symbols) (N := 6) B 0 rfl rfl (by decide) i_Symbols (B.2.2.2.1 _ k_66) rfl (hsh _ 0 _ rfl) d_Symbols_add_9 ?_
  refine mv_aload_n (pc := 12) B d_Symbols_add_12 rfl 1 rfl ?_
  refine mv_getR (pc := 13) (ci := 3) (C := R_Symbols) (T := F_Symbols) (N := 6) B 1 rfl rfl (by decide) i_Symbols (B.2.2.2.1 _ k_67) rfl (hsh _ 1 _ rfl) d_Symbols_add_13 ?_
  refine mv_iload (pc := 16) B d_Symbols_add_16 0 rfl ?_
  refine mv_iald (pc := 18) B rfl (i32_in (by omega) (by omega)) d_Symbols_add_18 ?_
  refine mv_iload (pc := 19) B d_Symbols_add_19 5 rfl ?_
  have es : (mv_a σ 9 (mv_i σ 7 5).toNatClampNeg).toInt = z := by rw [ek]; exact hst
  have esc := i32_cl (x := mv_a σ 9 (mv_i σ 7 5).toNatClampNeg) (by omega)
  refine mv_copyb (pc := 21) B (B.2.2.2.1 _ k_815) (B.2.2.2.1 _ k_817) (B.2.2.2.1 _ k_816) (B.2.2.2.1 _ k_25) hts rfl (ltc hf) (ltc (by omega)) (ltc hd) (by omega) (by omega) (fun i hq => fits_b (by have := hby i (by omega); omega) (by have := hby i (by omega); omega)) (by decide) (by decide) d_Symbols_add_21 ?_
  refine mv_aload_n (pc := 24) B d_Symbols_add_24 rfl 1 rfl ?_
  refine mv_getR (pc := 25) (ci := 3) (C := R_Symbols) (T := F_Symbols) (N := 6) B 1 rfl rfl (by decide) i_Symbols (B.2.2.2.1 _ k_67) rfl (hsh _ 1 _ rfl) d_Symbols_add_25 ?_
  refine mv_iload (pc := 28) B d_Symbols_add_28 0 rfl ?_
  refine mv_iconst (pc := 30) (v := 1) B d_Symbols_add_30 (by decide) ?_
  refine mv_iadd (pc := 31) B d_Symbols_add_31 ?_
  refine mv_topi (fun y31 ey31 => ?_)
  have fy31 := i32_addE ey31 (by (try simp only [Int32.reduceToInt]); omega) (by (try simp only [Int32.reduceToInt]); omega)
  try simp only [Int32.reduceToInt] at fy31
  refine mv_aload_n (pc := 32) B d_Symbols_add_32 rfl 1 rfl ?_
  refine mv_getR (pc := 33) (ci := 3) (C := R_Symbols) (T := F_Symbols) (N := 6) B 1 rfl rfl (by decide) i_Symbols (B.2.2.2.1 _ k_67) rfl (hsh _ 1 _ rfl) d_Symbols_add_33 ?_
  refine mv_iload (pc := 36) B d_Symbols_add_36 0 rfl ?_
  refine mv_iald (pc := 38) B rfl (i32_in (by omega) (by omega)) d_Symbols_add_38 ?_
  have es2 : (mv_a (mv_ca σ 8 (va_cpy (mv_a σ t) (mv_a σ 8) f.toNatClampNeg (mv_a σ 9 (mv_i σ 7 5).toNatClampNeg).toNatClampNeg d.toNatClampNeg)) 9 (mv_i σ 7 5).toNatClampNeg).toInt = z := es
  refine mv_iload (pc := 39) B d_Symbols_add_39 5 rfl ?_
  refine mv_iadd (pc := 41) B d_Symbols_add_41 ?_
  refine mv_topi (fun y41 ey41 => ?_)
  have fy41 := i32_addE ey41 (by (try simp only [Int32.reduceToInt]); omega) (by (try simp only [Int32.reduceToInt]); omega)
  try simp only [Int32.reduceToInt] at fy41
  refine mv_iast (pc := 42) B rfl (i32_in (by omega) (by omega)) d_Symbols_add_42 ?_
  refine mv_aload_n (pc := 43) B d_Symbols_add_43 rfl 1 rfl ?_
  refine mv_getR (pc := 44) (ci := 3) (C := R_Symbols) (T := F_Symbols) (N := 6) B 3 rfl rfl (by decide) i_Symbols (B.2.2.2.1 _ k_69) rfl (hsh _ 3 _ rfl) d_Symbols_add_44 ?_
  refine mv_iload (pc := 47) B d_Symbols_add_47 0 rfl ?_
  refine mv_aload_n (pc := 49) B d_Symbols_add_49 rfl 1 rfl ?_
  refine mv_getR (pc := 50) (ci := 3) (C := R_Symbols) (T := F_Symbols) (N := 6) B 2 rfl rfl (by decide) i_Symbols (B.2.2.2.1 _ k_68) rfl (hsh _ 2 _ rfl) d_Symbols_add_50 ?_
  refine mv_iload_n (pc := 53) B d_Symbols_add_53 rfl 2 rfl ?_
  refine mv_iald (pc := 54) B rfl (i32_in (by omega) (by omega)) d_Symbols_add_54 ?_
  refine mv_iast (pc := 55) B rfl (i32_in (by omega) (by omega)) d_Symbols_add_55 ?_
  refine mv_aload_n (pc := 56) B d_Symbols_add_56 rfl 1 rfl ?_
  refine mv_getR (pc := 57) (ci := 3) (C := R_Symbols) (T := F_Symbols) (N := 6) B 2 rfl rfl (by decide) i_Symbols (B.2.2.2.1 _ k_68) rfl (hsh _ 2 _ rfl) d_Symbols_add_57 ?_
  refine mv_iload_n (pc := 60) B d_Symbols_add_60 rfl 2 rfl ?_
  refine mv_iload (pc := 61) B d_Symbols_add_61 0 rfl ?_
  refine mv_iast (pc := 63) B rfl (i32_in (by omega) (by omega)) d_Symbols_add_63 ?_
  refine mv_aload_n (pc := 64) B d_Symbols_add_64 rfl 1 rfl ?_
  refine mv_dup (pc := 65) B d_Symbols_add_65 rfl ?_
  refine mv_getI (pc := 66) (ci := 3) (C := R_Symbols) (T := F_Symbols) (N := 6) B 5 rfl rfl (by decide) i_Symbols (B.2.2.2.1 _ k_72) rfl d_Symbols_add_66 ?_
  refine mv_iconst (pc := 69) (v := 1) B d_Symbols_add_69 (by decide) ?_
  refine mv_iadd (pc := 70) B d_Symbols_add_70 ?_
  refine mv_topi (fun y70 ey70 => ?_)
  have ey70 : y70 = mv_i σ 7 5 + 1 := ey70
  have fy70 := i32_addE ey70 (by (try simp only [Int32.reduceToInt]); omega) (by (try simp only [Int32.reduceToInt]); omega)
  try simp only [Int32.reduceToInt] at fy70
  refine mv_putI (pc := 71) (ci := 3) (C := R_Symbols) (T := F_Symbols) (N := 6) B 5 rfl rfl (by decide) i_Symbols t_Symbols_ok n_Symbols (B.2.2.2.1 _ k_72) rfl rfl rfl rfl d_Symbols_add_71 ?_
  refine mv_iload (pc := 74) B d_Symbols_add_74 0 rfl ?_
  exact mv_iret (pc := 76) B hr rfl d_Symbols_add_76 (Nat.le_refl _) (Nat.le_refl _) ⟨_, rfl, hi0, by
      have q := Sy.add (d := d.toNatClampNeg) (b := b.toNatClampNeg) (g := va_cpy (mv_a σ t) (mv_a σ 8) f.toNatClampNeg (mv_a σ 9 (mv_i σ 7 5).toNatClampNeg).toNatClampNeg d.toNatClampNeg) (s := mv_i σ 7 5) (s1 := y70) (z1 := y41) (k0 := (mv_i σ 7 5).toNatClampNeg) (k1 := y31.toNatClampNeg) hSy (by omega) (by omega) (by omega)
        (fun j hj => pk_cpy_out (Or.inl (by omega))) (fun j h1 h2 => by
          rw [pk_cpy_in (by omega) (by omega)]
          exact hby _ (by omega)) hi0 (by have : y70.toInt = (mv_i σ 7 5).toInt + 1 := fy70; omega) (by rw [fy41, es2]; omega) ek (by have := i32_cl (x := y31) (by omega); omega)
      exact q, ((((Fr.rf.ca (by decide)).sa (by decide)).sa (by decide)).sa (by decide)).si (by decide)⟩
def y_Symbols_find : MethodName := ⟨"MachineLoom$Symbols", "find", "([BII)I"⟩
abbrev b_Symbols_find : ByteArray := prog_9_method_3_code
theorem kc_Symbols_find : Cond.code y_Symbols_find b_Symbols_find 7 (Option.some Jvm.ClassFile.FieldType.int) ∈ ma := ma_of (tb_4 _ (List.mem_of_getElem? (i := 86) rfl)) rfl
theorem k_811 : (Jvm.Cond.methodLink "MachineLoom$Symbols" (59 : Nat) ({ cls := "MachineLoom$Symbols", name := "add", desc := "(I[BII)I" } : Jvm.MethodName)) ∈ ma := ma_of (tb_4 _ (List.mem_of_getElem? (i := 91) rfl)) rfl
theorem k_4 : (Jvm.Cond.initialized "MachineLoom$Symbols") ∈ ma := ma_of (tb_1 _ (List.mem_of_getElem? (i := 4) rfl)) rfl
theorem k_813 : (Jvm.Cond.instanceMethod ({ cls := "MachineLoom$Symbols", name := "add", desc := "(I[BII)I" } : Jvm.MethodName)) ∈ ma := ma_of (tb_4 _ (List.mem_of_getElem? (i := 93) rfl)) rfl
theorem ks_18 : Cond.selects "MachineLoom$Symbols" ⟨"MachineLoom$Symbols", "add", "(I[BII)I"⟩ ⟨"MachineLoom$Symbols", "add", "(I[BII)I"⟩ ∈ ma := ma_sel 18 rfl rfl
theorem k_807 : (Jvm.Cond.methodLink "MachineLoom$Symbols" (55 : Nat) ({ cls := "MachineLoom$Symbols", name := "isSpelt", desc := "(I[BII)Z" } : Jvm.MethodName)) ∈ ma := ma_of (tb_4 _ (List.mem_of_getElem? (i := 87) rfl)) rfl
theorem k_809 : (Jvm.Cond.instanceMethod ({ cls := "MachineLoom$Symbols", name := "isSpelt", desc := "(I[BII)Z" } : Jvm.MethodName)) ∈ ma := ma_of (tb_4 _ (List.mem_of_getElem? (i := 89) rfl)) rfl
theorem ks_17 : Cond.selects "MachineLoom$Symbols" ⟨"MachineLoom$Symbols", "isSpelt", "(I[BII)Z"⟩ ⟨"MachineLoom$Symbols", "isSpelt", "(I[BII)Z"⟩ ∈ ma := ma_sel 17 rfl rfl
theorem d_Symbols_find_0 : decode b_Symbols_find 0 = .ok (.iconst 0, 1) := by decide +kernel
theorem d_Symbols_find_1 : decode b_Symbols_find 1 = .ok (.istore 4, 2) := by decide +kernel
theorem d_Symbols_find_3 : decode b_Symbols_find 3 = .ok (.iconst 0, 1) := by decide +kernel
theorem d_Symbols_find_4 : decode b_Symbols_find 4 = .ok (.istore 5, 2) := by decide +kernel
theorem d_Symbols_find_6 : decode b_Symbols_find 6 = .ok (.iload 5, 2) := by decide +kernel
theorem d_Symbols_find_8 : decode b_Symbols_find 8 = .ok (.iload_n 3, 1) := by decide +kernel
theorem d_Symbols_find_9 : decode b_Symbols_find 9 = .ok (.if_icmp .ge (27), 3) := by decide +kernel
theorem d_Symbols_find_12 : decode b_Symbols_find 12 = .ok (.iload 4, 2) := by decide +kernel
theorem d_Symbols_find_14 : decode b_Symbols_find 14 = .ok (.bipush 31, 2) := by decide +kernel
theorem d_Symbols_find_16 : decode b_Symbols_find 16 = .ok (.imul, 1) := by decide +kernel
theorem d_Symbols_find_17 : decode b_Symbols_find 17 = .ok (.aload_n 1, 1) := by decide +kernel
theorem d_Symbols_find_18 : decode b_Symbols_find 18 = .ok (.iload_n 2, 1) := by decide +kernel
theorem d_Symbols_find_19 : decode b_Symbols_find 19 = .ok (.iload 5, 2) := by decide +kernel
theorem d_Symbols_find_21 : decode b_Symbols_find 21 = .ok (.iadd, 1) := by decide +kernel
theorem d_Symbols_find_22 : decode b_Symbols_find 22 = .ok (.baload, 1) := by decide +kernel
theorem d_Symbols_find_23 : decode b_Symbols_find 23 = .ok (.iadd, 1) := by decide +kernel
theorem d_Symbols_find_24 : decode b_Symbols_find 24 = .ok (.sipush 1023, 3) := by decide +kernel
theorem d_Symbols_find_27 : decode b_Symbols_find 27 = .ok (.iand, 1) := by decide +kernel
theorem d_Symbols_find_28 : decode b_Symbols_find 28 = .ok (.istore 4, 2) := by decide +kernel
theorem d_Symbols_find_30 : decode b_Symbols_find 30 = .ok (.iinc 5 (1), 3) := by decide +kernel
theorem d_Symbols_find_33 : decode b_Symbols_find 33 = .ok (.goto (-27), 3) := by decide +kernel
theorem d_Symbols_find_36 : decode b_Symbols_find 36 = .ok (.aload_n 0, 1) := by decide +kernel
theorem d_Symbols_find_37 : decode b_Symbols_find 37 = .ok (.getfield 20, 3) := by decide +kernel
theorem d_Symbols_find_40 : decode b_Symbols_find 40 = .ok (.iload 4, 2) := by decide +kernel
theorem d_Symbols_find_42 : decode b_Symbols_find 42 = .ok (.iaload, 1) := by decide +kernel
theorem d_Symbols_find_43 : decode b_Symbols_find 43 = .ok (.istore 5, 2) := by decide +kernel
theorem d_Symbols_find_45 : decode b_Symbols_find 45 = .ok (.iconst 0, 1) := by decide +kernel
theorem d_Symbols_find_46 : decode b_Symbols_find 46 = .ok (.istore 6, 2) := by decide +kernel
theorem d_Symbols_find_48 : decode b_Symbols_find 48 = .ok (.iload 6, 2) := by decide +kernel
theorem d_Symbols_find_50 : decode b_Symbols_find 50 = .ok (.sipush 16448, 3) := by decide +kernel
theorem d_Symbols_find_53 : decode b_Symbols_find 53 = .ok (.if_icmp .ge (38), 3) := by decide +kernel
theorem d_Symbols_find_56 : decode b_Symbols_find 56 = .ok (.iload 5, 2) := by decide +kernel
theorem d_Symbols_find_58 : decode b_Symbols_find 58 = .ok (.ifCond .lt (33), 3) := by decide +kernel
theorem d_Symbols_find_61 : decode b_Symbols_find 61 = .ok (.aload_n 0, 1) := by decide +kernel
theorem d_Symbols_find_62 : decode b_Symbols_find 62 = .ok (.iload 5, 2) := by decide +kernel
theorem d_Symbols_find_64 : decode b_Symbols_find 64 = .ok (.aload_n 1, 1) := by decide +kernel
theorem d_Symbols_find_65 : decode b_Symbols_find 65 = .ok (.iload_n 2, 1) := by decide +kernel
theorem d_Symbols_find_66 : decode b_Symbols_find 66 = .ok (.iload_n 3, 1) := by decide +kernel
theorem d_Symbols_find_67 : decode b_Symbols_find 67 = .ok (.invokevirtual 55, 3) := by decide +kernel
theorem d_Symbols_find_70 : decode b_Symbols_find 70 = .ok (.ifCond .eq (6), 3) := by decide +kernel
theorem d_Symbols_find_73 : decode b_Symbols_find 73 = .ok (.iload 5, 2) := by decide +kernel
theorem d_Symbols_find_75 : decode b_Symbols_find 75 = .ok (.ireturn, 1) := by decide +kernel
theorem d_Symbols_find_76 : decode b_Symbols_find 76 = .ok (.aload_n 0, 1) := by decide +kernel
theorem d_Symbols_find_77 : decode b_Symbols_find 77 = .ok (.getfield 23, 3) := by decide +kernel
theorem d_Symbols_find_80 : decode b_Symbols_find 80 = .ok (.iload 5, 2) := by decide +kernel
theorem d_Symbols_find_82 : decode b_Symbols_find 82 = .ok (.iaload, 1) := by decide +kernel
theorem d_Symbols_find_83 : decode b_Symbols_find 83 = .ok (.istore 5, 2) := by decide +kernel
theorem d_Symbols_find_85 : decode b_Symbols_find 85 = .ok (.iinc 6 (1), 3) := by decide +kernel
theorem d_Symbols_find_88 : decode b_Symbols_find 88 = .ok (.goto (-40), 3) := by decide +kernel
theorem d_Symbols_find_91 : decode b_Symbols_find 91 = .ok (.aload_n 0, 1) := by decide +kernel
theorem d_Symbols_find_92 : decode b_Symbols_find 92 = .ok (.iload 4, 2) := by decide +kernel
theorem d_Symbols_find_94 : decode b_Symbols_find 94 = .ok (.aload_n 1, 1) := by decide +kernel
theorem d_Symbols_find_95 : decode b_Symbols_find 95 = .ok (.iload_n 2, 1) := by decide +kernel
theorem d_Symbols_find_96 : decode b_Symbols_find 96 = .ok (.iload_n 3, 1) := by decide +kernel
theorem d_Symbols_find_97 : decode b_Symbols_find 97 = .ok (.invokevirtual 59, 3) := by decide +kernel
theorem d_Symbols_find_100 : decode b_Symbols_find 100 = .ok (.ireturn, 1) := by decide +kernel
set_option maxHeartbeats 4000000 in
set_option maxRecDepth 100000 in
theorem c_Symbols_find (l : Launch) {dA : FieldType → ClassId} {D : va_G} {al : Nat → Nat} {ext : mv_Sh} {sk sv : Nat → Nat} (hi : mv_inj (mg dA D al ext)) (σ : mv_H) (f d : Int32) (n z : Nat) (hsh : mh (mv_r σ)) (hSy : Sy σ n z) (t tn : Nat) (hts : (mb ++ ext)[t]? = some (.inr (.byte, tn))) (hf : 0 ≤ f.toInt) (hd : 0 ≤ d.toInt) (hfd : f.toInt + d.toInt ≤ tn) (htn : tn ≤ 32896) (hn1 : n < 16448) (hzd : z + d.toInt ≤ 32896) (hby : ∀ j, j < d.toNatClampNeg → 48 ≤ (mv_a σ t (f.toNatClampNeg + j)).toInt ∧ (mv_a σ t (f.toNatClampNeg + j)).toInt ≤ 122) : mv_C l y_Symbols_find (Cond.code y_Symbols_find b_Symbols_find 7 (Option.some Jvm.ClassFile.FieldType.int) :: ma) ({ frames := 2, cells := 0, slots := 0, locals := 65 }) (mg dA D al ext) (mK sk sv) [.ref (al 7), .ref (al t), .int f, .int d] σ (mv_Ri (fun v σ1 => 0 ≤ v.toInt ∧ v.toInt < n + 1 ∧ ((v.toInt < n ∧ Sy σ1 n z ∧ SyF σ σ1) ∨ (Sy σ1 (n + 1) (z + d.toNatClampNeg) ∧ SyF σ σ1)))) := by
  refine mv_C.ofV (cc := b_Symbols_find) (nL := 7) (ret := (Option.some Jvm.ClassFile.FieldType.int)) (by decide +kernel) rfl hi (Nat.le_of_ble_eq_true rfl) ?_
  intro p e s m below meth c B hNs hr hnm hno
  have hn := hSy.2.1
  have hz := hSy.2.2.1
  have lq : ∀ (nn : Nat) (i : Int32) (q : Int32) (b : Int32) (q0 : 0 ≤ i.toInt) (q1 : -1 ≤ q.toInt ∧ q.toInt < n) (q2 : 0 ≤ b.toInt) (q3 : b.toInt < 1024), (16448 - i.toInt).toNat < nn → mv_V p l e ({ frames := 2, cells := 0, slots := 0, locals := 65 }) s m ([.ref (al 7), .ref (al t), .int f, .int d] : List Value).toArray below meth c (mg dA D al ext) 7 0 0 (mv_Q (mg dA D al ext) below s 0 0 (mv_Ri (fun v σ1 => 0 ≤ v.toInt ∧ v.toInt < n + 1 ∧ ((v.toInt < n ∧ Sy σ1 n z ∧ SyF σ σ1) ∨ (Sy σ1 (n + 1) (z + d.toNatClampNeg) ∧ SyF σ σ1))))) σ 48 [(6, .int i), (5, .int q), (4, .int b), (0, .ref (al 7)), (1, .ref (al t)), (2, .int f), (3, .int d)] [] := by
    intro nn
    induction nn with
    | zero => intro i q b q0 q1 q2 q3 hm; exact absurd hm (Nat.not_lt_zero _)
    | succ nn ih =>
      intro i q b q0 q1 q2 q3 hm
      refine mv_iload (pc := 48) B d_Symbols_find_48 0 rfl ?_
      refine mv_sipush (pc := 50) (v := 16448) B d_Symbols_find_50 (by decide) ?_
      refine mv_icmp_ge (pc := 53) (tgt := 91) B d_Symbols_find_53 rfl (fun h53 => ?_) (fun h53 => ?_)
      · skip
        refine mv_aload_n (pc := 91) B d_Symbols_find_91 rfl 3 rfl ?_
        refine mv_iload (pc := 92) B d_Symbols_find_92 2 rfl ?_
        refine mv_aload_n (pc := 94) B d_Symbols_find_94 rfl 4 rfl ?_
        refine mv_iload_n (pc := 95) B d_Symbols_find_95 rfl 5 rfl ?_
        refine mv_iload_n (pc := 96) B d_Symbols_find_96 rfl 6 rfl ?_
        refine mv_callVi (pc := 97) (n := 4) (ci := 3) (C := R_Symbols) B (mK_ok sk sv) hNs rfl rfl (c_Symbols_add l hi _ _ _ _ n z hsh hSy t tn hts q2 q3 hf hd hfd hn1 hzd hby) rfl (ma_goodc kc_Symbols_add) (B.2.2.2.1 _ k_811) (B.2.2.2.1 _ k_813) (B.2.2.2.1 _ ks_18) (B.2.2.2.1 _ k_4) ⟨by decide +kernel, by decide +kernel, by decide +kernel⟩ rfl d_Symbols_find_97 rfl (Nat.le_of_ble_eq_true rfl) ⟨by decide, by decide⟩ ⟨by decide, by decide⟩ ⟨by decide, by decide⟩ (mv_noH hno _) (fun v97 σ97 h97 => ?_)
        exact mv_iret (pc := 100) B hr rfl d_Symbols_find_100 (Nat.le_refl _) (Nat.le_refl _) ⟨_, rfl, by omega, by omega, Or.inr ⟨h97.2.1, h97.2.2⟩⟩
      · skip
        rw [Int32.le_iff_toInt_le] at h53
        simp only [Int32.reduceToInt] at h53
        refine mv_iload (pc := 56) B d_Symbols_find_56 1 rfl ?_
        refine mv_if_lt (pc := 58) (tgt := 91) B d_Symbols_find_58 rfl (fun h58 => ?_) (fun h58 => ?_)
        · skip
          refine mv_aload_n (pc := 91) B d_Symbols_find_91 rfl 3 rfl ?_
          refine mv_iload (pc := 92) B d_Symbols_find_92 2 rfl ?_
          refine mv_aload_n (pc := 94) B d_Symbols_find_94 rfl 4 rfl ?_
          refine mv_iload_n (pc := 95) B d_Symbols_find_95 rfl 5 rfl ?_
          refine mv_iload_n (pc := 96) B d_Symbols_find_96 rfl 6 rfl ?_
          refine mv_callVi (pc := 97) (n := 4) (ci := 3) (C := R_Symbols) B (mK_ok sk sv) hNs rfl rfl (c_Symbols_add l hi _ _ _ _ n z hsh hSy t tn hts q2 q3 hf hd hfd hn1 hzd hby) rfl (ma_goodc kc_Symbols_add) (B.2.2.2.1 _ k_811) (B.2.2.2.1 _ k_813) (B.2.2.2.1 _ ks_18) (B.2.2.2.1 _ k_4) ⟨by decide +kernel, by decide +kernel, by decide +kernel⟩ rfl d_Symbols_find_97 rfl (Nat.le_of_ble_eq_true rfl) ⟨by decide, by decide⟩ ⟨by decide, by decide⟩ ⟨by decide, by decide⟩ (mv_noH hno _) (fun v97 σ97 h97 => ?_)
          exact mv_iret (pc := 100) B hr rfl d_Symbols_find_100 (Nat.le_refl _) (Nat.le_refl _) ⟨_, rfl, by omega, by omega, Or.inr ⟨h97.2.1, h97.2.2⟩⟩
        · skip
          rw [Int32.lt_iff_toInt_lt] at h58
          simp only [Int32.reduceToInt] at h58
          refine mv_aload_n (pc := 61) B d_Symbols_find_61 rfl 3 rfl ?_
          refine mv_iload (pc := 62) B d_Symbols_find_62 1 rfl ?_
          refine mv_aload_n (pc := 64) B d_Symbols_find_64 rfl 4 rfl ?_
          refine mv_iload_n (pc := 65) B d_Symbols_find_65 rfl 5 rfl ?_
          refine mv_iload_n (pc := 66) B d_Symbols_find_66 rfl 6 rfl ?_
          refine mv_callVi (pc := 67) (n := 4) (ci := 3) (C := R_Symbols) B (mK_ok sk sv) hNs rfl rfl (c_Symbols_isSpelt l hi _ _ _ _ n z hsh hSy t tn hts (by omega) (by omega) hf hd hfd htn) rfl (ma_goodc kc_Symbols_isSpelt) (B.2.2.2.1 _ k_807) (B.2.2.2.1 _ k_809) (B.2.2.2.1 _ ks_17) (B.2.2.2.1 _ k_4) ⟨by decide +kernel, by decide +kernel, by decide +kernel⟩ rfl d_Symbols_find_67 rfl (Nat.le_of_ble_eq_true rfl) ⟨by decide, by decide⟩ ⟨by decide, by decide⟩ ⟨by decide, by decide⟩ (mv_noH hno _) (fun v67 σ67 h67 => ?_)
          obtain ⟨rfl, z67⟩ := h67
          refine mv_if_eq (pc := 70) (tgt := 76) B d_Symbols_find_70 rfl (fun h70 => ?_) (fun h70 => ?_)
          · skip
            refine mv_aload_n (pc := 76) B d_Symbols_find_76 rfl 3 rfl ?_
            refine mv_getR (pc := 77) (ci := 3) (C := R_Symbols) (T := F_Symbols) (N := 6) B 3 rfl rfl (by decide) i_Symbols (B.2.2.2.1 _ k_69) rfl (hsh _ 3 _ rfl) d_Symbols_find_77 ?_
            refine mv_iload (pc := 80) B d_Symbols_find_80 1 rfl ?_
            refine mv_iald (pc := 82) B rfl (i32_in (by omega) (by omega)) d_Symbols_find_82 ?_
            have hc := hSy.2.2.2.2.2.2.2.1 q.toNatClampNeg (by have := i32_cl (x := q) (by omega); omega)
            refine mv_istore (pc := 83) B d_Symbols_find_83 (by decide) rfl ?_
            refine mv_iinc (pc := 85) (j := 1) (v := 1) B d_Symbols_find_85 rfl (by decide) (by decide) rfl ?_
            refine mv_goto (pc := 88) (tgt := 48) B d_Symbols_find_88 rfl ?_
            refine mv_lpick [0, 1, 2, 3, 4, 5, 6] rfl ?_
            exact ih _ _ _ (by rw [i32_inc (by omega)]; omega) hc q2 q3 (by rw [i32_inc (by omega)]; omega)
          · skip
            refine mv_iload (pc := 73) B d_Symbols_find_73 1 rfl ?_
            exact mv_iret (pc := 75) B hr rfl d_Symbols_find_75 (Nat.le_refl _) (Nat.le_refl _) ⟨_, rfl, by omega, by omega, Or.inl ⟨by omega, hSy, Fr.rf⟩⟩
  have lp : ∀ (nn : Nat) (i : Int32) (b : Int32) (q0 : 0 ≤ i.toInt) (q2 : 0 ≤ b.toInt) (q3 : b.toInt < 1024), (d.toInt - i.toInt).toNat < nn → mv_V p l e ({ frames := 2, cells := 0, slots := 0, locals := 65 }) s m ([.ref (al 7), .ref (al t), .int f, .int d] : List Value).toArray below meth c (mg dA D al ext) 7 0 0 (mv_Q (mg dA D al ext) below s 0 0 (mv_Ri (fun v σ1 => 0 ≤ v.toInt ∧ v.toInt < n + 1 ∧ ((v.toInt < n ∧ Sy σ1 n z ∧ SyF σ σ1) ∨ (Sy σ1 (n + 1) (z + d.toNatClampNeg) ∧ SyF σ σ1))))) σ 6 [(5, .int i), (4, .int b), (0, .ref (al 7)), (1, .ref (al t)), (2, .int f), (3, .int d)] [] := by
    intro nn
    induction nn with
    | zero => intro i b q0 q2 q3 hm; exact absurd hm (Nat.not_lt_zero _)
    | succ nn ih =>
      intro i b q0 q2 q3 hm
      refine mv_iload (pc := 6) B d_Symbols_find_6 0 rfl ?_
      refine mv_iload_n (pc := 8) B d_Symbols_find_8 rfl 5 rfl ?_
      refine mv_icmp_ge (pc := 9) (tgt := 36) B d_Symbols_find_9 rfl (fun h9 => ?_) (fun h9 => ?_)
      · skip
        refine mv_aload_n (pc := 36) B d_Symbols_find_36 rfl 2 rfl ?_
        refine mv_getR (pc := 37) (ci := 3) (C := R_Symbols) (T := F_Symbols) (N := 6) B 2 rfl rfl (by decide) i_Symbols (B.2.2.2.1 _ k_68) rfl (hsh _ 2 _ rfl) d_Symbols_find_37 ?_
        refine mv_iload (pc := 40) B d_Symbols_find_40 1 rfl ?_
        refine mv_iald (pc := 42) B rfl (i32_in q2 (by omega)) d_Symbols_find_42 ?_
        refine mv_istore (pc := 43) B d_Symbols_find_43 (by decide) rfl ?_
        refine mv_iconst (pc := 45) (v := 0) B d_Symbols_find_45 (by decide) ?_
        refine mv_istore (pc := 46) B d_Symbols_find_46 (by decide) rfl ?_
        refine mv_lpick [0, 1, 2, 3, 4, 5, 6] rfl ?_
        exact lq _ _ _ _ (by decide) (hSy.2.2.2.2.2.2.1 _ (by have := i32_cl (x := b) q2; omega)) q2 q3 (Nat.lt_succ_self _)
      · skip
        rw [Int32.le_iff_toInt_le] at h9
        refine mv_iload (pc := 12) B d_Symbols_find_12 1 rfl ?_
        refine mv_bipush (pc := 14) (v := 31) B d_Symbols_find_14 (by decide) ?_
        refine mv_imul (pc := 16) B d_Symbols_find_16 ?_
        refine mv_aload_n (pc := 17) B d_Symbols_find_17 rfl 3 rfl ?_
        refine mv_iload_n (pc := 18) B d_Symbols_find_18 rfl 4 rfl ?_
        refine mv_iload (pc := 19) B d_Symbols_find_19 0 rfl ?_
        refine mv_iadd (pc := 21) B d_Symbols_find_21 ?_
        refine mv_topi (fun y21 ey21 => ?_)
        have fy21 := i32_addE ey21 (by (try simp only [Int32.reduceToInt]); omega) (by (try simp only [Int32.reduceToInt]); omega)
        try simp only [Int32.reduceToInt] at fy21
        refine mv_bald (pc := 22) B hts (i32_in (by omega) (by omega)) d_Symbols_find_22 ?_
        refine mv_iadd (pc := 23) B d_Symbols_find_23 ?_
        refine mv_sipush (pc := 24) (v := 1023) B d_Symbols_find_24 (by decide) ?_
        refine mv_iand (pc := 27) B d_Symbols_find_27 ?_
        have hm27 : vp_in ((b * 31 + mv_a σ t y21.toNatClampNeg) &&& 1023) 1024 := pk_andIn _ 10 (by decide) (by decide)
        have hm := vp_in_iff.mp hm27
        refine mv_istore (pc := 28) B d_Symbols_find_28 (by decide) rfl ?_
        refine mv_iinc (pc := 30) (j := 1) (v := 1) B d_Symbols_find_30 rfl (by decide) (by decide) rfl ?_
        refine mv_goto (pc := 33) (tgt := 6) B d_Symbols_find_33 rfl ?_
        refine mv_lpick [0, 1, 2, 3, 4, 5] rfl ?_
        exact ih _ _ (by rw [i32_inc (by omega)]; omega) hm.1 hm.2 (by rw [i32_inc (by omega)]; omega)
  refine mv_iconst (pc := 0) (v := 0) B d_Symbols_find_0 (by decide) ?_
  refine mv_istore (pc := 1) B d_Symbols_find_1 (by decide) rfl ?_
  refine mv_iconst (pc := 3) (v := 0) B d_Symbols_find_3 (by decide) ?_
  refine mv_istore (pc := 4) B d_Symbols_find_4 (by decide) rfl ?_
  refine mv_lpick [0, 1, 2, 3, 4, 5] rfl ?_
  exact lp _ _ _ (by decide) (by decide) (by decide) (Nat.lt_succ_self _)
