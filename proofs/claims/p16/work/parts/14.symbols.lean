/-! Symbols: spelling, starts, buckets, chains -/
/-- n symbols of z letters in all -/
def Sy (σ : mv_H) (n z : Nat) : Prop := (mv_i σ 7 5).toInt = n ∧ n ≤ 16448 ∧ z ≤ 32896 ∧ (mv_a σ 9 n).toInt = z ∧ (∀ j, j ≤ n → 0 ≤ (mv_a σ 9 j).toInt ∧ (mv_a σ 9 j).toInt ≤ z) ∧ (∀ j, j < n → (mv_a σ 9 j).toInt ≤ (mv_a σ 9 (j + 1)).toInt) ∧
  (∀ j, j < 1024 → -1 ≤ (mv_a σ 10 j).toInt ∧ (mv_a σ 10 j).toInt < n) ∧ (∀ j, j < n → -1 ≤ (mv_a σ 11 j).toInt ∧ (mv_a σ 11 j).toInt < n) ∧ ∀ j, j < z → 48 ≤ (mv_a σ 8 j).toInt ∧ (mv_a σ 8 j).toInt ≤ 122
abbrev SyF : mv_H → mv_H → Prop := Fr (fun o k => o = 7 ∧ k = 5) (fun o => 8 ≤ o ∧ o ≤ 11) (fun _ => False)
theorem Sy.le {σ : mv_H} {n z : Nat} (h : Sy σ n z) {x : Int32} (h0 : 0 ≤ x.toInt) (h1 : x.toInt ≤ n) : 0 ≤ (mv_a σ 9 x.toNatClampNeg).toInt ∧ (mv_a σ 9 x.toNatClampNeg).toInt ≤ z := h.2.2.2.2.1 _ (by have := i32_cl h0; omega)
theorem Sy.up {σ : mv_H} {n z : Nat} (h : Sy σ n z) {x y : Int32} (h0 : 0 ≤ x.toInt) (h1 : x.toInt < n) (hy : y.toInt = x.toInt + 1) : (mv_a σ 9 x.toNatClampNeg).toInt ≤ (mv_a σ 9 y.toNatClampNeg).toInt := by
  have e : y.toNatClampNeg = x.toNatClampNeg + 1 := by
    have a := i32_cl h0
    have b := i32_cl (x := y) (by omega)
    omega
  rw [e]
  exact h.2.2.2.2.2.1 _ (by have := i32_cl h0; omega)
def y_Symbols_isSpelt : MethodName := ⟨"MachineLoom$Symbols", "isSpelt", "(I[BII)Z"⟩
abbrev b_Symbols_isSpelt : ByteArray := prog_9_method_4_code
theorem kc_Symbols_isSpelt : Cond.code y_Symbols_isSpelt b_Symbols_isSpelt 7 (Option.some Jvm.ClassFile.FieldType.boolean) ∈ ma := ma_of (tb_4 _ (List.mem_of_getElem? (i := 90) rfl)) rfl
theorem k_66 : (Jvm.Cond.fieldLink "MachineLoom$Symbols" (10 : Nat) "MachineLoom$Symbols" "spelling" "[B") ∈ ma := ma_of (tb_1 _ (List.mem_of_getElem? (i := 66) rfl)) rfl
theorem k_67 : (Jvm.Cond.fieldLink "MachineLoom$Symbols" (16 : Nat) "MachineLoom$Symbols" "starts" "[I") ∈ ma := ma_of (tb_1 _ (List.mem_of_getElem? (i := 67) rfl)) rfl
theorem d_Symbols_isSpelt_0 : decode b_Symbols_isSpelt 0 = .ok (.aload_n 0, 1) := by decide +kernel
theorem d_Symbols_isSpelt_1 : decode b_Symbols_isSpelt 1 = .ok (.getfield 16, 3) := by decide +kernel
theorem d_Symbols_isSpelt_4 : decode b_Symbols_isSpelt 4 = .ok (.iload_n 1, 1) := by decide +kernel
theorem d_Symbols_isSpelt_5 : decode b_Symbols_isSpelt 5 = .ok (.iaload, 1) := by decide +kernel
theorem d_Symbols_isSpelt_6 : decode b_Symbols_isSpelt 6 = .ok (.istore 5, 2) := by decide +kernel
theorem d_Symbols_isSpelt_8 : decode b_Symbols_isSpelt 8 = .ok (.aload_n 0, 1) := by decide +kernel
theorem d_Symbols_isSpelt_9 : decode b_Symbols_isSpelt 9 = .ok (.getfield 16, 3) := by decide +kernel
theorem d_Symbols_isSpelt_12 : decode b_Symbols_isSpelt 12 = .ok (.iload_n 1, 1) := by decide +kernel
theorem d_Symbols_isSpelt_13 : decode b_Symbols_isSpelt 13 = .ok (.iconst 1, 1) := by decide +kernel
theorem d_Symbols_isSpelt_14 : decode b_Symbols_isSpelt 14 = .ok (.iadd, 1) := by decide +kernel
theorem d_Symbols_isSpelt_15 : decode b_Symbols_isSpelt 15 = .ok (.iaload, 1) := by decide +kernel
theorem d_Symbols_isSpelt_16 : decode b_Symbols_isSpelt 16 = .ok (.iload 5, 2) := by decide +kernel
theorem d_Symbols_isSpelt_18 : decode b_Symbols_isSpelt 18 = .ok (.isub, 1) := by decide +kernel
theorem d_Symbols_isSpelt_19 : decode b_Symbols_isSpelt 19 = .ok (.iload 4, 2) := by decide +kernel
theorem d_Symbols_isSpelt_21 : decode b_Symbols_isSpelt 21 = .ok (.if_icmp .eq (5), 3) := by decide +kernel
theorem d_Symbols_isSpelt_24 : decode b_Symbols_isSpelt 24 = .ok (.iconst 0, 1) := by decide +kernel
theorem d_Symbols_isSpelt_25 : decode b_Symbols_isSpelt 25 = .ok (.ireturn, 1) := by decide +kernel
theorem d_Symbols_isSpelt_26 : decode b_Symbols_isSpelt 26 = .ok (.iconst 0, 1) := by decide +kernel
theorem d_Symbols_isSpelt_27 : decode b_Symbols_isSpelt 27 = .ok (.istore 6, 2) := by decide +kernel
theorem d_Symbols_isSpelt_29 : decode b_Symbols_isSpelt 29 = .ok (.iload 6, 2) := by decide +kernel
theorem d_Symbols_isSpelt_31 : decode b_Symbols_isSpelt 31 = .ok (.iload 4, 2) := by decide +kernel
theorem d_Symbols_isSpelt_33 : decode b_Symbols_isSpelt 33 = .ok (.if_icmp .ge (30), 3) := by decide +kernel
theorem d_Symbols_isSpelt_36 : decode b_Symbols_isSpelt 36 = .ok (.aload_n 0, 1) := by decide +kernel
theorem d_Symbols_isSpelt_37 : decode b_Symbols_isSpelt 37 = .ok (.getfield 10, 3) := by decide +kernel
theorem d_Symbols_isSpelt_40 : decode b_Symbols_isSpelt 40 = .ok (.iload 5, 2) := by decide +kernel
theorem d_Symbols_isSpelt_42 : decode b_Symbols_isSpelt 42 = .ok (.iload 6, 2) := by decide +kernel
theorem d_Symbols_isSpelt_44 : decode b_Symbols_isSpelt 44 = .ok (.iadd, 1) := by decide +kernel
theorem d_Symbols_isSpelt_45 : decode b_Symbols_isSpelt 45 = .ok (.baload, 1) := by decide +kernel
theorem d_Symbols_isSpelt_46 : decode b_Symbols_isSpelt 46 = .ok (.aload_n 2, 1) := by decide +kernel
theorem d_Symbols_isSpelt_47 : decode b_Symbols_isSpelt 47 = .ok (.iload_n 3, 1) := by decide +kernel
theorem d_Symbols_isSpelt_48 : decode b_Symbols_isSpelt 48 = .ok (.iload 6, 2) := by decide +kernel
theorem d_Symbols_isSpelt_50 : decode b_Symbols_isSpelt 50 = .ok (.iadd, 1) := by decide +kernel
theorem d_Symbols_isSpelt_51 : decode b_Symbols_isSpelt 51 = .ok (.baload, 1) := by decide +kernel
theorem d_Symbols_isSpelt_52 : decode b_Symbols_isSpelt 52 = .ok (.if_icmp .eq (5), 3) := by decide +kernel
theorem d_Symbols_isSpelt_55 : decode b_Symbols_isSpelt 55 = .ok (.iconst 0, 1) := by decide +kernel
theorem d_Symbols_isSpelt_56 : decode b_Symbols_isSpelt 56 = .ok (.ireturn, 1) := by decide +kernel
theorem d_Symbols_isSpelt_57 : decode b_Symbols_isSpelt 57 = .ok (.iinc 6 (1), 3) := by decide +kernel
theorem d_Symbols_isSpelt_60 : decode b_Symbols_isSpelt 60 = .ok (.goto (-31), 3) := by decide +kernel
theorem d_Symbols_isSpelt_63 : decode b_Symbols_isSpelt 63 = .ok (.iconst 1, 1) := by decide +kernel
theorem d_Symbols_isSpelt_64 : decode b_Symbols_isSpelt 64 = .ok (.ireturn, 1) := by decide +kernel
set_option maxHeartbeats 4000000 in
set_option maxRecDepth 100000 in
theorem c_Symbols_isSpelt (l : Launch) {dA : FieldType → ClassId} {D : va_G} {al : Nat → Nat} {ext : mv_Sh} {sk sv : Nat → Nat} (hi : mv_inj (mg dA D al ext)) (σ : mv_H) (k f d : Int32) (n z : Nat) (hsh : mh (mv_r σ)) (hSy : Sy σ n z) (t tn : Nat) (hts : (mb ++ ext)[t]? = some (.inr (.byte, tn))) (h0 : 0 ≤ k.toInt) (h1 : k.toInt < n) (hf : 0 ≤ f.toInt) (hd : 0 ≤ d.toInt) (hfd : f.toInt + d.toInt ≤ tn) (htn : tn ≤ 32896) : mv_C l y_Symbols_isSpelt (Cond.code y_Symbols_isSpelt b_Symbols_isSpelt 7 (Option.some Jvm.ClassFile.FieldType.boolean) :: ma) ({ frames := 0, cells := 0, slots := 0, locals := 0 }) (mg dA D al ext) (mK sk sv) [.ref (al 7), .int k, .ref (al t), .int f, .int d] σ (mv_Ri (fun v σ1 => σ1 = σ ∧ (v = 0 ∨ v = 1))) := by
  refine mv_C.ofV (cc := b_Symbols_isSpelt) (nL := 7) (ret := (Option.some Jvm.ClassFile.FieldType.boolean)) (by decide +kernel) rfl hi (Nat.le_of_ble_eq_true rfl) ?_
  intro p e s m below meth c B hNs hr hnm hno
  have hn := hSy.2.1
  have hz := hSy.2.2.1
  have lp : ∀ (nn : Nat) (i : Int32) (b : Int32) (q0 : 0 ≤ i.toInt) (q1 : 0 ≤ b.toInt) (q2 : b.toInt + d.toInt ≤ z), (d.toInt - i.toInt).toNat < nn → mv_V p l e ({ frames := 0, cells := 0, slots := 0, locals := 0 }) s m ([.ref (al 7), .int k, .ref (al t), .int f, .int d] : List Value).toArray below meth c (mg dA D al ext) 7 0 0 (mv_Q (mg dA D al ext) below s 0 0 (mv_Ri (fun v σ1 => σ1 = σ ∧ (v = 0 ∨ v = 1)))) σ 29 [(6, .int i), (5, .int b), (0, .ref (al 7)), (1, .int k), (2, .ref (al t)), (3, .int f), (4, .int d)] [] := by
    intro nn
    induction nn with
    | zero => intro i b q0 q1 q2 hm; exact absurd hm (Nat.not_lt_zero _)
    | succ nn ih =>
      intro i b q0 q1 q2 hm
      refine mv_iload (pc := 29) B d_Symbols_isSpelt_29 0 rfl ?_
      refine mv_iload (pc := 31) B d_Symbols_isSpelt_31 6 rfl ?_
      refine mv_icmp_ge (pc := 33) (tgt := 63) B d_Symbols_isSpelt_33 rfl (fun h33 => ?_) (fun h33 => ?_)
      · skip
        refine mv_iconst (pc := 63) (v := 1) B d_Symbols_isSpelt_63 (by decide) ?_
        exact mv_iret (pc := 64) B hr rfl d_Symbols_isSpelt_64 (Nat.le_refl _) (Nat.le_refl _) ⟨_, rfl, rfl, by first | exact Or.inl rfl | exact Or.inr rfl⟩
      · skip
        rw [Int32.le_iff_toInt_le] at h33
        refine mv_aload_n (pc := 36) B d_Symbols_isSpelt_36 rfl 2 rfl ?_
        refine mv_getR (pc := 37) (ci := 3) (C := R_Symbols) (T := F_Symbols) (N := 6) B 0 rfl rfl (by decide) i_Symbols (B.2.2.2.1 _ k_66) rfl (hsh _ 0 _ rfl) d_Symbols_isSpelt_37 ?_
        refine mv_iload (pc := 40) B d_Symbols_isSpelt_40 1 rfl ?_
        refine mv_iload (pc := 42) B d_Symbols_isSpelt_42 0 rfl ?_
        refine mv_iadd (pc := 44) B d_Symbols_isSpelt_44 ?_
        refine mv_topi (fun y44 ey44 => ?_)
        have fy44 := i32_addE ey44 (by (try simp only [Int32.reduceToInt]); omega) (by (try simp only [Int32.reduceToInt]); omega)
        try simp only [Int32.reduceToInt] at fy44
        refine mv_bald (pc := 45) B rfl (i32_in (by omega) (by have := hSy.2.2.1; omega)) d_Symbols_isSpelt_45 ?_
        refine mv_aload_n (pc := 46) B d_Symbols_isSpelt_46 rfl 4 rfl ?_
        refine mv_iload_n (pc := 47) B d_Symbols_isSpelt_47 rfl 5 rfl ?_
        refine mv_iload (pc := 48) B d_Symbols_isSpelt_48 0 rfl ?_
        refine mv_iadd (pc := 50) B d_Symbols_isSpelt_50 ?_
        refine mv_topi (fun y50 ey50 => ?_)
        have fy50 := i32_addE ey50 (by (try simp only [Int32.reduceToInt]); omega) (by (try simp only [Int32.reduceToInt]); omega)
        try simp only [Int32.reduceToInt] at fy50
        refine mv_bald (pc := 51) B hts (i32_in (by omega) (by omega)) d_Symbols_isSpelt_51 ?_
        refine mv_icmp_eq (pc := 52) (tgt := 57) B d_Symbols_isSpelt_52 rfl (fun h52 => ?_) (fun h52 => ?_)
        · skip
          refine mv_iinc (pc := 57) (j := 0) (v := 1) B d_Symbols_isSpelt_57 rfl (by decide) (by decide) rfl ?_
          refine mv_goto (pc := 60) (tgt := 29) B d_Symbols_isSpelt_60 rfl ?_
          refine mv_lpick [0, 1, 2, 3, 4, 5, 6] rfl ?_
          exact ih _ _ (by rw [i32_inc (by omega)]; omega) q1 q2 (by rw [i32_inc (by omega)]; omega)
        · skip
          refine mv_iconst (pc := 55) (v := 0) B d_Symbols_isSpelt_55 (by decide) ?_
          exact mv_iret (pc := 56) B hr rfl d_Symbols_isSpelt_56 (Nat.le_refl _) (Nat.le_refl _) ⟨_, rfl, rfl, by first | exact Or.inl rfl | exact Or.inr rfl⟩
  refine mv_aload_n (pc := 0) B d_Symbols_isSpelt_0 rfl 0 rfl ?_
  refine mv_getR (pc := 1) (ci := 3) (C := R_Symbols) (T := F_Symbols) (N := 6) B 1 rfl rfl (by decide) i_Symbols (B.2.2.2.1 _ k_67) rfl (hsh _ 1 _ rfl) d_Symbols_isSpelt_1 ?_
  refine mv_iload_n (pc := 4) B d_Symbols_isSpelt_4 rfl 1 rfl ?_
  refine mv_iald (pc := 5) B rfl (i32_in h0 (by have := hSy.2.1; omega)) d_Symbols_isSpelt_5 ?_
  have a0 := hSy.le h0 (by omega)
  refine mv_istore (pc := 6) B d_Symbols_isSpelt_6 (by decide) rfl ?_
  refine mv_aload_n (pc := 8) B d_Symbols_isSpelt_8 rfl 1 rfl ?_
  refine mv_getR (pc := 9) (ci := 3) (C := R_Symbols) (T := F_Symbols) (N := 6) B 1 rfl rfl (by decide) i_Symbols (B.2.2.2.1 _ k_67) rfl (hsh _ 1 _ rfl) d_Symbols_isSpelt_9 ?_
  refine mv_iload_n (pc := 12) B d_Symbols_isSpelt_12 rfl 2 rfl ?_
  refine mv_iconst (pc := 13) (v := 1) B d_Symbols_isSpelt_13 (by decide) ?_
  refine mv_iadd (pc := 14) B d_Symbols_isSpelt_14 ?_
  refine mv_topi (fun y14 ey14 => ?_)
  have fy14 := i32_addE ey14 (by (try simp only [Int32.reduceToInt]); omega) (by (try simp only [Int32.reduceToInt]); omega)
  try simp only [Int32.reduceToInt] at fy14
  refine mv_iald (pc := 15) B rfl (i32_in (by omega) (by have := hSy.2.1; omega)) d_Symbols_isSpelt_15 ?_
  have a1 := hSy.le (x := y14) (by omega) (by omega)
  have a2 := hSy.up h0 h1 fy14
  refine mv_iload (pc := 16) B d_Symbols_isSpelt_16 0 rfl ?_
  refine mv_isub (pc := 18) B d_Symbols_isSpelt_18 ?_
  refine mv_topi (fun y18 ey18 => ?_)
  have fy18 := i32_subE ey18 (by (try simp only [Int32.reduceToInt]); omega) (by (try simp only [Int32.reduceToInt]); omega)
  try simp only [Int32.reduceToInt] at fy18
  refine mv_iload (pc := 19) B d_Symbols_isSpelt_19 5 rfl ?_
  refine mv_icmp_eq (pc := 21) (tgt := 26) B d_Symbols_isSpelt_21 rfl (fun h21 => ?_) (fun h21 => ?_)
  · skip
    have e21 : y18.toInt = d.toInt := by rw [h21]
    refine mv_iconst (pc := 26) (v := 0) B d_Symbols_isSpelt_26 (by decide) ?_
    refine mv_istore (pc := 27) B d_Symbols_isSpelt_27 (by decide) rfl ?_
    refine mv_lpick [0, 1, 2, 3, 4, 5, 6] rfl ?_
    exact lp _ _ _ (by decide) a0.1 (by omega) (Nat.lt_succ_self _)
  · skip
    refine mv_iconst (pc := 24) (v := 0) B d_Symbols_isSpelt_24 (by decide) ?_
    exact mv_iret (pc := 25) B hr rfl d_Symbols_isSpelt_25 (Nat.le_refl _) (Nat.le_refl _) ⟨_, rfl, rfl, by first | exact Or.inl rfl | exact Or.inr rfl⟩
def y_Symbols_letter : MethodName := ⟨"MachineLoom$Symbols", "letter", "(I)I"⟩
abbrev b_Symbols_letter : ByteArray := prog_9_method_6_code
theorem kc_Symbols_letter : Cond.code y_Symbols_letter b_Symbols_letter 3 (Option.some Jvm.ClassFile.FieldType.int) ∈ ma := ma_of (tb_6 _ (List.mem_of_getElem? (i := 123) rfl)) rfl
theorem d_Symbols_letter_0 : decode b_Symbols_letter 0 = .ok (.aload_n 0, 1) := by decide +kernel
theorem d_Symbols_letter_1 : decode b_Symbols_letter 1 = .ok (.getfield 16, 3) := by decide +kernel
theorem d_Symbols_letter_4 : decode b_Symbols_letter 4 = .ok (.iload_n 1, 1) := by decide +kernel
theorem d_Symbols_letter_5 : decode b_Symbols_letter 5 = .ok (.iaload, 1) := by decide +kernel
theorem d_Symbols_letter_6 : decode b_Symbols_letter 6 = .ok (.istore_n 2, 1) := by decide +kernel
theorem d_Symbols_letter_7 : decode b_Symbols_letter 7 = .ok (.aload_n 0, 1) := by decide +kernel
theorem d_Symbols_letter_8 : decode b_Symbols_letter 8 = .ok (.getfield 16, 3) := by decide +kernel
theorem d_Symbols_letter_11 : decode b_Symbols_letter 11 = .ok (.iload_n 1, 1) := by decide +kernel
theorem d_Symbols_letter_12 : decode b_Symbols_letter 12 = .ok (.iconst 1, 1) := by decide +kernel
theorem d_Symbols_letter_13 : decode b_Symbols_letter 13 = .ok (.iadd, 1) := by decide +kernel
theorem d_Symbols_letter_14 : decode b_Symbols_letter 14 = .ok (.iaload, 1) := by decide +kernel
theorem d_Symbols_letter_15 : decode b_Symbols_letter 15 = .ok (.iload_n 2, 1) := by decide +kernel
theorem d_Symbols_letter_16 : decode b_Symbols_letter 16 = .ok (.isub, 1) := by decide +kernel
theorem d_Symbols_letter_17 : decode b_Symbols_letter 17 = .ok (.iconst 1, 1) := by decide +kernel
theorem d_Symbols_letter_18 : decode b_Symbols_letter 18 = .ok (.if_icmp .ne (14), 3) := by decide +kernel
theorem d_Symbols_letter_21 : decode b_Symbols_letter 21 = .ok (.aload_n 0, 1) := by decide +kernel
theorem d_Symbols_letter_22 : decode b_Symbols_letter 22 = .ok (.getfield 10, 3) := by decide +kernel
theorem d_Symbols_letter_25 : decode b_Symbols_letter 25 = .ok (.iload_n 2, 1) := by decide +kernel
theorem d_Symbols_letter_26 : decode b_Symbols_letter 26 = .ok (.baload, 1) := by decide +kernel
theorem d_Symbols_letter_27 : decode b_Symbols_letter 27 = .ok (.bipush 95, 2) := by decide +kernel
theorem d_Symbols_letter_29 : decode b_Symbols_letter 29 = .ok (.if_icmp .ne (5), 3) := by decide +kernel
theorem d_Symbols_letter_32 : decode b_Symbols_letter 32 = .ok (.iconst 0, 1) := by decide +kernel
theorem d_Symbols_letter_33 : decode b_Symbols_letter 33 = .ok (.ireturn, 1) := by decide +kernel
theorem d_Symbols_letter_34 : decode b_Symbols_letter 34 = .ok (.aload_n 0, 1) := by decide +kernel
theorem d_Symbols_letter_35 : decode b_Symbols_letter 35 = .ok (.getfield 10, 3) := by decide +kernel
theorem d_Symbols_letter_38 : decode b_Symbols_letter 38 = .ok (.iload_n 2, 1) := by decide +kernel
theorem d_Symbols_letter_39 : decode b_Symbols_letter 39 = .ok (.baload, 1) := by decide +kernel
theorem d_Symbols_letter_40 : decode b_Symbols_letter 40 = .ok (.ireturn, 1) := by decide +kernel
set_option maxHeartbeats 4000000 in
set_option maxRecDepth 100000 in
theorem c_Symbols_letter (l : Launch) {dA : FieldType → ClassId} {D : va_G} {al : Nat → Nat} {ext : mv_Sh} {sk sv : Nat → Nat} (hi : mv_inj (mg dA D al ext)) (σ : mv_H) (k : Int32) (n z : Nat) (hsh : mh (mv_r σ)) (hSy : Sy σ n z) (h0 : 0 ≤ k.toInt) (h1 : k.toInt < n) : mv_C l y_Symbols_letter (Cond.code y_Symbols_letter b_Symbols_letter 3 (Option.some Jvm.ClassFile.FieldType.int) :: ma) ({ frames := 0, cells := 0, slots := 0, locals := 0 }) (mg dA D al ext) (mK sk sv) [.ref (al 7), .int k] σ (mv_Ri (fun v σ1 => σ1 = σ ∧ 0 ≤ v.toInt ∧ v.toInt < 128)) := by
  refine mv_C.ofV (cc := b_Symbols_letter) (nL := 3) (ret := (Option.some Jvm.ClassFile.FieldType.int)) (by decide +kernel) rfl hi (Nat.le_of_ble_eq_true rfl) ?_
  intro p e s m below meth c B hNs hr hnm hno
  have hn := hSy.2.1
  have hz := hSy.2.2.1
  refine mv_aload_n (pc := 0) B d_Symbols_letter_0 rfl 0 rfl ?_
  refine mv_getR (pc := 1) (ci := 3) (C := R_Symbols) (T := F_Symbols) (N := 6) B 1 rfl rfl (by decide) i_Symbols (B.2.2.2.1 _ k_67) rfl (hsh _ 1 _ rfl) d_Symbols_letter_1 ?_
  refine mv_iload_n (pc := 4) B d_Symbols_letter_4 rfl 1 rfl ?_
  refine mv_iald (pc := 5) B rfl (i32_in h0 (by have := hSy.2.1; omega)) d_Symbols_letter_5 ?_
  have a0 := hSy.le h0 (by omega)
  refine mv_istore_n (pc := 6) B d_Symbols_letter_6 rfl (by decide) rfl ?_
  refine mv_aload_n (pc := 7) B d_Symbols_letter_7 rfl 1 rfl ?_
  refine mv_getR (pc := 8) (ci := 3) (C := R_Symbols) (T := F_Symbols) (N := 6) B 1 rfl rfl (by decide) i_Symbols (B.2.2.2.1 _ k_67) rfl (hsh _ 1 _ rfl) d_Symbols_letter_8 ?_
  refine mv_iload_n (pc := 11) B d_Symbols_letter_11 rfl 2 rfl ?_
  refine mv_iconst (pc := 12) (v := 1) B d_Symbols_letter_12 (by decide) ?_
  refine mv_iadd (pc := 13) B d_Symbols_letter_13 ?_
  refine mv_topi (fun y13 ey13 => ?_)
  have fy13 := i32_addE ey13 (by (try simp only [Int32.reduceToInt]); omega) (by (try simp only [Int32.reduceToInt]); omega)
  try simp only [Int32.reduceToInt] at fy13
  refine mv_iald (pc := 14) B rfl (i32_in (by omega) (by have := hSy.2.1; omega)) d_Symbols_letter_14 ?_
  have a1 := hSy.le (x := y13) (by omega) (by omega)
  have a2 := hSy.up h0 h1 fy13
  refine mv_iload_n (pc := 15) B d_Symbols_letter_15 rfl 0 rfl ?_
  refine mv_isub (pc := 16) B d_Symbols_letter_16 ?_
  refine mv_topi (fun y16 ey16 => ?_)
  have fy16 := i32_subE ey16 (by (try simp only [Int32.reduceToInt]); omega) (by (try simp only [Int32.reduceToInt]); omega)
  try simp only [Int32.reduceToInt] at fy16
  refine mv_iconst (pc := 17) (v := 1) B d_Symbols_letter_17 (by decide) ?_
  refine mv_icmp_ne (pc := 18) (tgt := 32) B d_Symbols_letter_18 rfl (fun h18 => ?_) (fun h18 => ?_)
  · skip
    refine mv_iconst (pc := 32) (v := 0) B d_Symbols_letter_32 (by decide) ?_
    exact mv_iret (pc := 33) B hr rfl d_Symbols_letter_33 (Nat.le_refl _) (Nat.le_refl _) ⟨_, rfl, rfl, by decide, by decide⟩
  · skip
    have e18 : y16.toInt = 1 := by rw [h18]; rfl
    refine mv_aload_n (pc := 21) B d_Symbols_letter_21 rfl 1 rfl ?_
    refine mv_getR (pc := 22) (ci := 3) (C := R_Symbols) (T := F_Symbols) (N := 6) B 0 rfl rfl (by decide) i_Symbols (B.2.2.2.1 _ k_66) rfl (hsh _ 0 _ rfl) d_Symbols_letter_22 ?_
    refine mv_iload_n (pc := 25) B d_Symbols_letter_25 rfl 0 rfl ?_
    refine mv_bald (pc := 26) B rfl (i32_in (by omega) (by have := hSy.2.2.1; omega)) d_Symbols_letter_26 ?_
    refine mv_bipush (pc := 27) (v := 95) B d_Symbols_letter_27 (by decide) ?_
    refine mv_icmp_ne (pc := 29) (tgt := 34) B d_Symbols_letter_29 rfl (fun h29 => ?_) (fun h29 => ?_)
    · skip
      refine mv_aload_n (pc := 34) B d_Symbols_letter_34 rfl 1 rfl ?_
      refine mv_getR (pc := 35) (ci := 3) (C := R_Symbols) (T := F_Symbols) (N := 6) B 0 rfl rfl (by decide) i_Symbols (B.2.2.2.1 _ k_66) rfl (hsh _ 0 _ rfl) d_Symbols_letter_35 ?_
      refine mv_iload_n (pc := 38) B d_Symbols_letter_38 rfl 0 rfl ?_
      refine mv_bald (pc := 39) B rfl (i32_in (by omega) (by have := hSy.2.2.1; omega)) d_Symbols_letter_39 ?_
      exact mv_iret (pc := 40) B hr rfl d_Symbols_letter_40 (Nat.le_refl _) (Nat.le_refl _) ⟨_, rfl, rfl, by have := hSy.2.2.2.2.2.2.2.2 _ (show (mv_a σ 9 k.toNatClampNeg).toNatClampNeg < z by have := i32_cl a0.1; omega); omega, by have := hSy.2.2.2.2.2.2.2.2 _ (show (mv_a σ 9 k.toNatClampNeg).toNatClampNeg < z by have := i32_cl a0.1; omega); omega⟩
    · skip
      refine mv_iconst (pc := 32) (v := 0) B d_Symbols_letter_32 (by decide) ?_
      exact mv_iret (pc := 33) B hr rfl d_Symbols_letter_33 (Nat.le_refl _) (Nat.le_refl _) ⟨_, rfl, rfl, by decide, by decide⟩
