/-! Tokens: CODES, signs, names, one TOKEN, all of them -/
theorem rg_ext {P : Nat → Prop} {a : Int} {j : Int32} (h : ∀ i : Nat, a < i → i < j.toInt → P i) (h0 : 0 ≤ j.toInt) (h1 : j.toInt < 2147483647) (hj : P j.toNatClampNeg) : ∀ i : Nat, a < i → i < (j + 1).toInt → P i := by
  intro i a1 a2
  rw [i32_inc h1] at a2
  by_cases e : (i : Int) < j.toInt
  · exact h i a1 e
  · have e2 : i = j.toNatClampNeg := by
      have := i32_cl h0
      omega
    rw [e2]
    exact hj
theorem q34 {b : Int32} (h : -128 ≤ b.toInt ∧ b.toInt ≤ 127) (e : b &&& 255 = 34) : b = 34 := by
  have e1 : (b &&& 255).toInt = b.toInt % 256 := by
    have e := pk_and b (m := 255) 8 (by decide)
    rw [e, nI_toInt (by have := Nat.mod_lt b.toBitVec.toNat (show 0 < 2 ^ 8 by decide); omega)]
    have h1 : b.toInt = b.toBitVec.toInt := rfl
    rw [h1, BitVec.toInt_eq_toNat_cond]
    have h2 := b.toBitVec.isLt
    split <;> omega
  rw [e] at e1
  have e2 : (34 : Int) = b.toInt % 256 := e1
  exact Int32.toInt_inj.mp (show b.toInt = 34 by omega)
theorem lg_toInt (x : Int32) : x.toInt64.toInt = x.toInt := Int32.toInt_toInt64 x
def y_Tokens_cutCode : MethodName := ⟨"MachineLoom$Tokens", "cutCode", "(I)I"⟩
abbrev b_Tokens_cutCode : ByteArray := prog_10_method_9_code
theorem kc_Tokens_cutCode : Cond.code y_Tokens_cutCode b_Tokens_cutCode 3 (Option.some Jvm.ClassFile.FieldType.int) ∈ ma := ma_of (tb_4 _ (List.mem_of_getElem? (i := 153) rfl)) rfl
theorem k_874 : (Jvm.Cond.methodLink "MachineLoom$Tokens" (112 : Nat) ({ cls := "MachineLoom$Tokens", name := "isOfCode", desc := "(I)Z" } : Jvm.MethodName)) ∈ ma := ma_of (tb_4 _ (List.mem_of_getElem? (i := 154) rfl)) rfl
theorem k_875 : (Jvm.Cond.static ({ cls := "MachineLoom$Tokens", name := "isOfCode", desc := "(I)Z" } : Jvm.MethodName)) ∈ ma := ma_of (tb_4 _ (List.mem_of_getElem? (i := 155) rfl)) rfl
theorem d_Tokens_cutCode_0 : decode b_Tokens_cutCode 0 = .ok (.iload_n 1, 1) := by decide +kernel
theorem d_Tokens_cutCode_1 : decode b_Tokens_cutCode 1 = .ok (.iconst 1, 1) := by decide +kernel
theorem d_Tokens_cutCode_2 : decode b_Tokens_cutCode 2 = .ok (.iadd, 1) := by decide +kernel
theorem d_Tokens_cutCode_3 : decode b_Tokens_cutCode 3 = .ok (.istore_n 2, 1) := by decide +kernel
theorem d_Tokens_cutCode_4 : decode b_Tokens_cutCode 4 = .ok (.iload_n 2, 1) := by decide +kernel
theorem d_Tokens_cutCode_5 : decode b_Tokens_cutCode 5 = .ok (.aload_n 0, 1) := by decide +kernel
theorem d_Tokens_cutCode_6 : decode b_Tokens_cutCode 6 = .ok (.getfield 34, 3) := by decide +kernel
theorem d_Tokens_cutCode_9 : decode b_Tokens_cutCode 9 = .ok (.if_icmp .ge (21), 3) := by decide +kernel
theorem d_Tokens_cutCode_12 : decode b_Tokens_cutCode 12 = .ok (.aload_n 0, 1) := by decide +kernel
theorem d_Tokens_cutCode_13 : decode b_Tokens_cutCode 13 = .ok (.getfield 30, 3) := by decide +kernel
theorem d_Tokens_cutCode_16 : decode b_Tokens_cutCode 16 = .ok (.iload_n 2, 1) := by decide +kernel
theorem d_Tokens_cutCode_17 : decode b_Tokens_cutCode 17 = .ok (.baload, 1) := by decide +kernel
theorem d_Tokens_cutCode_18 : decode b_Tokens_cutCode 18 = .ok (.invokestatic 112, 3) := by decide +kernel
theorem d_Tokens_cutCode_21 : decode b_Tokens_cutCode 21 = .ok (.ifCond .eq (9), 3) := by decide +kernel
theorem d_Tokens_cutCode_24 : decode b_Tokens_cutCode 24 = .ok (.iinc 2 (1), 3) := by decide +kernel
theorem d_Tokens_cutCode_27 : decode b_Tokens_cutCode 27 = .ok (.goto (-23), 3) := by decide +kernel
theorem d_Tokens_cutCode_30 : decode b_Tokens_cutCode 30 = .ok (.aload_n 0, 1) := by decide +kernel
theorem d_Tokens_cutCode_31 : decode b_Tokens_cutCode 31 = .ok (.iload_n 2, 1) := by decide +kernel
theorem d_Tokens_cutCode_32 : decode b_Tokens_cutCode 32 = .ok (.invokevirtual 61, 3) := by decide +kernel
theorem d_Tokens_cutCode_35 : decode b_Tokens_cutCode 35 = .ok (.bipush 34, 2) := by decide +kernel
theorem d_Tokens_cutCode_37 : decode b_Tokens_cutCode 37 = .ok (.if_icmp .eq (9), 3) := by decide +kernel
theorem d_Tokens_cutCode_40 : decode b_Tokens_cutCode 40 = .ok (.aload_n 0, 1) := by decide +kernel
theorem d_Tokens_cutCode_41 : decode b_Tokens_cutCode 41 = .ok (.iload_n 2, 1) := by decide +kernel
theorem d_Tokens_cutCode_42 : decode b_Tokens_cutCode 42 = .ok (.invokevirtual 93, 3) := by decide +kernel
theorem d_Tokens_cutCode_45 : decode b_Tokens_cutCode 45 = .ok (.ireturn, 1) := by decide +kernel
theorem d_Tokens_cutCode_46 : decode b_Tokens_cutCode 46 = .ok (.aload_n 0, 1) := by decide +kernel
theorem d_Tokens_cutCode_47 : decode b_Tokens_cutCode 47 = .ok (.iconst 5, 1) := by decide +kernel
theorem d_Tokens_cutCode_48 : decode b_Tokens_cutCode 48 = .ok (.iload_n 1, 1) := by decide +kernel
theorem d_Tokens_cutCode_49 : decode b_Tokens_cutCode 49 = .ok (.iload_n 2, 1) := by decide +kernel
theorem d_Tokens_cutCode_50 : decode b_Tokens_cutCode 50 = .ok (.iload_n 1, 1) := by decide +kernel
theorem d_Tokens_cutCode_51 : decode b_Tokens_cutCode 51 = .ok (.isub, 1) := by decide +kernel
theorem d_Tokens_cutCode_52 : decode b_Tokens_cutCode 52 = .ok (.iconst 1, 1) := by decide +kernel
theorem d_Tokens_cutCode_53 : decode b_Tokens_cutCode 53 = .ok (.isub, 1) := by decide +kernel
theorem d_Tokens_cutCode_54 : decode b_Tokens_cutCode 54 = .ok (.i2l, 1) := by decide +kernel
theorem d_Tokens_cutCode_55 : decode b_Tokens_cutCode 55 = .ok (.iload_n 2, 1) := by decide +kernel
theorem d_Tokens_cutCode_56 : decode b_Tokens_cutCode 56 = .ok (.iconst 1, 1) := by decide +kernel
theorem d_Tokens_cutCode_57 : decode b_Tokens_cutCode 57 = .ok (.iadd, 1) := by decide +kernel
theorem d_Tokens_cutCode_58 : decode b_Tokens_cutCode 58 = .ok (.invokevirtual 64, 3) := by decide +kernel
theorem d_Tokens_cutCode_61 : decode b_Tokens_cutCode 61 = .ok (.ireturn, 1) := by decide +kernel
set_option maxHeartbeats 4000000 in
set_option maxRecDepth 100000 in
theorem c_Tokens_cutCode (l : Launch) {dA : FieldType → ClassId} {D : va_G} {al : Nat → Nat} {ext : mv_Sh} {sk sv : Nat → Nat} (hi : mv_inj (mg dA D al ext)) (σ : mv_H) (f : Int32) (t tn len : Nat) (hx : tx ext σ t tn len) (hsz : vp_in (mv_i σ 3 6) 32770) (g0 : 0 ≤ f.toInt) (g1 : f.toInt < len) (gq9 : mv_a σ t f.toNatClampNeg = 34) (hby8 : ∀ i, i < tn → -128 ≤ (mv_a σ t i).toInt ∧ (mv_a σ t i).toInt ≤ 127) : mv_C l y_Tokens_cutCode (Cond.code y_Tokens_cutCode b_Tokens_cutCode 3 (Option.some Jvm.ClassFile.FieldType.int) :: ma) ({ frames := 2, cells := 0, slots := 0, locals := 46 }) (mg dA D al ext) (mK sk sv) [.ref (al 3), .int f] σ (mv_Ri (fun v σ1 => tk_S σ t len f.toInt v σ1)) := by
  refine mv_C.ofV (cc := b_Tokens_cutCode) (nL := 3) (ret := (Option.some Jvm.ClassFile.FieldType.int)) (by decide +kernel) rfl hi (Nat.le_of_ble_eq_true rfl) ?_
  intro p e s m below meth c B hNs hr hnm hno
  obtain ⟨hsh, ht, hts, hlen, hl1, hl2, ht2⟩ := hx
  have lp : ∀ (nn : Nat) (j : Int32) (q0 : f.toInt < j.toInt) (q1 : j.toInt ≤ len) (qc : ∀ i : Nat, f.toInt < i → i < j.toInt → 46 ≤ (mv_a σ t i).toInt ∧ (mv_a σ t i).toInt ≤ 122), (len - j.toInt).toNat < nn → mv_V p l e ({ frames := 2, cells := 0, slots := 0, locals := 46 }) s m ([.ref (al 3), .int f] : List Value).toArray below meth c (mg dA D al ext) 3 0 0 (mv_Q (mg dA D al ext) below s 0 0 (mv_Ri (fun v σ1 => tk_S σ t len f.toInt v σ1))) σ 4 [(2, .int j), (0, .ref (al 3)), (1, .int f)] [] := by
    intro nn
    induction nn with
    | zero => intro j q0 q1 qc hm; exact absurd hm (Nat.not_lt_zero _)
    | succ nn ih =>
      intro j q0 q1 qc hm
      refine mv_iload_n (pc := 4) B d_Tokens_cutCode_4 rfl 0 rfl ?_
      refine mv_aload_n (pc := 5) B d_Tokens_cutCode_5 rfl 1 rfl ?_
      refine mv_getI (pc := 6) (ci := 2) (C := R_Tokens) (T := F_Tokens) (N := 10) B 5 rfl rfl (by decide) i_Tokens (B.2.2.2.1 _ k_100) rfl d_Tokens_cutCode_6 ?_
      refine mv_icmp_ge (pc := 9) (tgt := 30) B d_Tokens_cutCode_9 rfl (fun h9 => ?_) (fun h9 => ?_)
      · skip
        refine mv_aload_n (pc := 30) B d_Tokens_cutCode_30 rfl 1 rfl ?_
        refine mv_iload_n (pc := 31) B d_Tokens_cutCode_31 rfl 0 rfl ?_
        refine mv_callVi (pc := 32) (n := 1) (ci := 2) (C := R_Tokens) B (mK_ok sk sv) hNs rfl rfl (c_Tokens_characterAt l hi _ _ t tn hsh ht hts (by omega) (by omega)) rfl (ma_goodc kc_Tokens_characterAt) (B.2.2.2.1 _ k_827) (B.2.2.2.1 _ k_829) (B.2.2.2.1 _ ks_21) (B.2.2.2.1 _ k_3) ⟨by decide +kernel, by decide +kernel, by decide +kernel⟩ rfl d_Tokens_cutCode_32 rfl (Nat.le_of_ble_eq_true rfl) ⟨by decide, by decide⟩ ⟨by decide, by decide⟩ ⟨by decide, by decide⟩ (mv_noH hno _) (fun v32 σ32 h32 => ?_)
        obtain ⟨e32, h32⟩ := h32
        have e32 := e32.symm
        subst e32
        refine mv_bipush (pc := 35) (v := 34) B d_Tokens_cutCode_35 (by decide) ?_
        refine mv_icmp_eq (pc := 37) (tgt := 46) B d_Tokens_cutCode_37 rfl (fun h37 => ?_) (fun h37 => ?_)
        · skip
          have gj : j.toInt < len := Decidable.byContradiction fun q => by rw [if_neg (by omega)] at h32; rw [h32] at h37; exact absurd h37 (by decide)
          have g34 : mv_a σ t j.toNatClampNeg = 34 := q34 (hby8 j.toNatClampNeg (by have := i32_cl (x := j) (by omega); omega)) (by rw [if_pos (by omega)] at h32; rw [← h32]; exact h37)
          have gq := qc_two (mv_a σ t) (a := f.toNatClampNeg) (b := j.toNatClampNeg) (by have := i32_cl (x := j) (by omega); have := i32_cl g0; omega) gq9 g34
          refine mv_aload_n (pc := 46) B d_Tokens_cutCode_46 rfl 1 rfl ?_
          refine mv_iconst (pc := 47) (v := 5) B d_Tokens_cutCode_47 (by decide) ?_
          refine mv_iload_n (pc := 48) B d_Tokens_cutCode_48 rfl 2 rfl ?_
          refine mv_iload_n (pc := 49) B d_Tokens_cutCode_49 rfl 0 rfl ?_
          refine mv_iload_n (pc := 50) B d_Tokens_cutCode_50 rfl 2 rfl ?_
          refine mv_isub (pc := 51) B d_Tokens_cutCode_51 ?_
          refine mv_topi (fun y51 ey51 => ?_)
          have fy51 := i32_subE ey51 (by (try simp only [Int32.reduceToInt]); omega) (by (try simp only [Int32.reduceToInt]); omega)
          try simp only [Int32.reduceToInt] at fy51
          refine mv_iconst (pc := 52) (v := 1) B d_Tokens_cutCode_52 (by decide) ?_
          refine mv_isub (pc := 53) B d_Tokens_cutCode_53 ?_
          refine mv_topi (fun y53 ey53 => ?_)
          have fy53 := i32_subE ey53 (by (try simp only [Int32.reduceToInt]); omega) (by (try simp only [Int32.reduceToInt]); omega)
          try simp only [Int32.reduceToInt] at fy53
          refine mv_i2l (pc := 54) B d_Tokens_cutCode_54 ?_
          refine mv_iload_n (pc := 55) B d_Tokens_cutCode_55 rfl 0 rfl ?_
          refine mv_iconst (pc := 56) (v := 1) B d_Tokens_cutCode_56 (by decide) ?_
          refine mv_iadd (pc := 57) B d_Tokens_cutCode_57 ?_
          refine mv_topi (fun y57 ey57 => ?_)
          have fy57 := i32_addE ey57 (by (try simp only [Int32.reduceToInt]); omega) (by (try simp only [Int32.reduceToInt]); omega)
          try simp only [Int32.reduceToInt] at fy57
          refine mv_callVi (pc := 58) (n := 4) (ci := 2) (C := R_Tokens) B (mK_ok sk sv) hNs rfl rfl (c_Tokens_add l hi _ _ _ _ _ hsh hsz) rfl (ma_goodc kc_Tokens_add) (B.2.2.2.1 _ k_831) (B.2.2.2.1 _ k_833) (B.2.2.2.1 _ ks_22) (B.2.2.2.1 _ k_3) ⟨by decide +kernel, by decide +kernel, by decide +kernel⟩ rfl d_Tokens_cutCode_58 rfl (Nat.le_of_ble_eq_true rfl) ⟨by decide, by decide⟩ ⟨by decide, by decide⟩ ⟨by decide, by decide⟩ (mv_noH hno _) (fun v58 σ58 h58 => ?_)
          obtain ⟨rfl, rfl⟩ := h58
          exact mv_iret (pc := 61) B hr rfl d_Tokens_cutCode_61 (Nat.le_refl _) (Nat.le_refl _) ⟨_, rfl, 5, _, _, rfl, g0, Or.inr ⟨by omega, by omega, by decide, fun _ => ⟨⟨f.toNatClampNeg, y53.toNatClampNeg, (i32_cl g0).symm, by rw [lg_toInt]; exact (i32_cl (by omega)).symm, by have := i32_cl g0; have := i32_cl (x := y53) (by omega); omega, fun i hi9 => by have := qc (f.toNatClampNeg + 1 + i) (by have := i32_cl g0; omega) (by have := i32_cl g0; have := i32_cl (x := y53) (by omega); omega); omega⟩, by have e1 : f.toInt.toNat = f.toNatClampNeg := rfl; have e2 : v58.toNatClampNeg = j.toNatClampNeg + 1 := (by have := i32_cl (x := j) (by omega); have := i32_cl (x := v58) (by omega); omega); rw [e1, e2]; exact gq⟩⟩⟩
        · skip
          refine mv_aload_n (pc := 40) B d_Tokens_cutCode_40 rfl 1 rfl ?_
          refine mv_iload_n (pc := 41) B d_Tokens_cutCode_41 rfl 0 rfl ?_
          refine mv_callVi (pc := 42) (n := 1) (ci := 2) (C := R_Tokens) B (mK_ok sk sv) hNs rfl rfl (c_Tokens_broken l hi _ _ hsh hsz) rfl (ma_goodc kc_Tokens_broken) (B.2.2.2.1 _ k_845) (B.2.2.2.1 _ k_847) (B.2.2.2.1 _ ks_24) (B.2.2.2.1 _ k_3) ⟨by decide +kernel, by decide +kernel, by decide +kernel⟩ rfl d_Tokens_cutCode_42 rfl (Nat.le_of_ble_eq_true rfl) ⟨by decide, by decide⟩ ⟨by decide, by decide⟩ ⟨by decide, by decide⟩ (mv_noH hno _) (fun v42 σ42 h42 => ?_)
          obtain ⟨rfl, rfl⟩ := h42
          exact mv_iret (pc := 45) B hr rfl d_Tokens_cutCode_45 (Nat.le_refl _) (Nat.le_refl _) ⟨_, rfl, 2, _, 0, rfl, by omega, Or.inl ⟨rfl, Or.inr rfl⟩⟩
      · skip
        rw [Int32.le_iff_toInt_le] at h9
        refine mv_aload_n (pc := 12) B d_Tokens_cutCode_12 rfl 1 rfl ?_
        refine mv_getR (pc := 13) (ci := 2) (C := R_Tokens) (T := F_Tokens) (N := 10) B 4 rfl rfl (by decide) i_Tokens (B.2.2.2.1 _ k_98) rfl ht d_Tokens_cutCode_13 ?_
        refine mv_iload_n (pc := 16) B d_Tokens_cutCode_16 rfl 0 rfl ?_
        refine mv_bald (pc := 17) B hts (i32_in (by omega) (by omega)) d_Tokens_cutCode_17 ?_
        refine mv_callSi (pc := 18) (n := 1) B (mK_ok sk sv) hNs (c_Tokens_isOfCode l hi _ _) rfl (ma_goodc kc_Tokens_isOfCode) (B.2.2.2.1 _ k_874) (B.2.2.2.1 _ k_875) (B.2.2.2.1 _ k_3) ⟨by decide +kernel, by decide +kernel, by decide +kernel⟩ rfl d_Tokens_cutCode_18 rfl (Nat.le_of_ble_eq_true rfl) ⟨by decide, by decide⟩ ⟨by decide, by decide⟩ ⟨by decide, by decide⟩ (mv_noH hno _) (fun v18 σ18 h18 => ?_)
        obtain ⟨e18, z18⟩ := h18
        have e18 := e18.symm
        subst e18
        refine mv_if_eq (pc := 21) (tgt := 30) B d_Tokens_cutCode_21 rfl (fun h21 => ?_) (fun h21 => ?_)
        · skip
          refine mv_aload_n (pc := 30) B d_Tokens_cutCode_30 rfl 1 rfl ?_
          refine mv_iload_n (pc := 31) B d_Tokens_cutCode_31 rfl 0 rfl ?_
          refine mv_callVi (pc := 32) (n := 1) (ci := 2) (C := R_Tokens) B (mK_ok sk sv) hNs rfl rfl (c_Tokens_characterAt l hi _ _ t tn hsh ht hts (by omega) (by omega)) rfl (ma_goodc kc_Tokens_characterAt) (B.2.2.2.1 _ k_827) (B.2.2.2.1 _ k_829) (B.2.2.2.1 _ ks_21) (B.2.2.2.1 _ k_3) ⟨by decide +kernel, by decide +kernel, by decide +kernel⟩ rfl d_Tokens_cutCode_32 rfl (Nat.le_of_ble_eq_true rfl) ⟨by decide, by decide⟩ ⟨by decide, by decide⟩ ⟨by decide, by decide⟩ (mv_noH hno _) (fun v32 σ32 h32 => ?_)
          obtain ⟨e32, h32⟩ := h32
          have e32 := e32.symm
          subst e32
          refine mv_bipush (pc := 35) (v := 34) B d_Tokens_cutCode_35 (by decide) ?_
          refine mv_icmp_eq (pc := 37) (tgt := 46) B d_Tokens_cutCode_37 rfl (fun h37 => ?_) (fun h37 => ?_)
          · skip
            have gj : j.toInt < len := Decidable.byContradiction fun q => by rw [if_neg (by omega)] at h32; rw [h32] at h37; exact absurd h37 (by decide)
            have g34 : mv_a σ t j.toNatClampNeg = 34 := q34 (hby8 j.toNatClampNeg (by have := i32_cl (x := j) (by omega); omega)) (by rw [if_pos (by omega)] at h32; rw [← h32]; exact h37)
            have gq := qc_two (mv_a σ t) (a := f.toNatClampNeg) (b := j.toNatClampNeg) (by have := i32_cl (x := j) (by omega); have := i32_cl g0; omega) gq9 g34
            refine mv_aload_n (pc := 46) B d_Tokens_cutCode_46 rfl 1 rfl ?_
            refine mv_iconst (pc := 47) (v := 5) B d_Tokens_cutCode_47 (by decide) ?_
            refine mv_iload_n (pc := 48) B d_Tokens_cutCode_48 rfl 2 rfl ?_
            refine mv_iload_n (pc := 49) B d_Tokens_cutCode_49 rfl 0 rfl ?_
            refine mv_iload_n (pc := 50) B d_Tokens_cutCode_50 rfl 2 rfl ?_
            refine mv_isub (pc := 51) B d_Tokens_cutCode_51 ?_
            refine mv_topi (fun y51 ey51 => ?_)
            have fy51 := i32_subE ey51 (by (try simp only [Int32.reduceToInt]); omega) (by (try simp only [Int32.reduceToInt]); omega)
            try simp only [Int32.reduceToInt] at fy51
            refine mv_iconst (pc := 52) (v := 1) B d_Tokens_cutCode_52 (by decide) ?_
            refine mv_isub (pc := 53) B d_Tokens_cutCode_53 ?_
            refine mv_topi (fun y53 ey53 => ?_)
            have fy53 := i32_subE ey53 (by (try simp only [Int32.reduceToInt]); omega) (by (try simp only [Int32.reduceToInt]); omega)
            try simp only [Int32.reduceToInt] at fy53
            refine mv_i2l (pc := 54) B d_Tokens_cutCode_54 ?_
            refine mv_iload_n (pc := 55) B d_Tokens_cutCode_55 rfl 0 rfl ?_
            refine mv_iconst (pc := 56) (v := 1) B d_Tokens_cutCode_56 (by decide) ?_
            refine mv_iadd (pc := 57) B d_Tokens_cutCode_57 ?_
            refine mv_topi (fun y57 ey57 => ?_)
            have fy57 := i32_addE ey57 (by (try simp only [Int32.reduceToInt]); omega) (by (try simp only [Int32.reduceToInt]); omega)
            try simp only [Int32.reduceToInt] at fy57
            refine mv_callVi (pc := 58) (n := 4) (ci := 2) (C := R_Tokens) B (mK_ok sk sv) hNs rfl rfl (c_Tokens_add l hi _ _ _ _ _ hsh hsz) rfl (ma_goodc kc_Tokens_add) (B.2.2.2.1 _ k_831) (B.2.2.2.1 _ k_833) (B.2.2.2.1 _ ks_22) (B.2.2.2.1 _ k_3) ⟨by decide +kernel, by decide +kernel, by decide +kernel⟩ rfl d_Tokens_cutCode_58 rfl (Nat.le_of_ble_eq_true rfl) ⟨by decide, by decide⟩ ⟨by decide, by decide⟩ ⟨by decide, by decide⟩ (mv_noH hno _) (fun v58 σ58 h58 => ?_)
            obtain ⟨rfl, rfl⟩ := h58
            exact mv_iret (pc := 61) B hr rfl d_Tokens_cutCode_61 (Nat.le_refl _) (Nat.le_refl _) ⟨_, rfl, 5, _, _, rfl, g0, Or.inr ⟨by omega, by omega, by decide, fun _ => ⟨⟨f.toNatClampNeg, y53.toNatClampNeg, (i32_cl g0).symm, by rw [lg_toInt]; exact (i32_cl (by omega)).symm, by have := i32_cl g0; have := i32_cl (x := y53) (by omega); omega, fun i hi9 => by have := qc (f.toNatClampNeg + 1 + i) (by have := i32_cl g0; omega) (by have := i32_cl g0; have := i32_cl (x := y53) (by omega); omega); omega⟩, by have e1 : f.toInt.toNat = f.toNatClampNeg := rfl; have e2 : v58.toNatClampNeg = j.toNatClampNeg + 1 := (by have := i32_cl (x := j) (by omega); have := i32_cl (x := v58) (by omega); omega); rw [e1, e2]; exact gq⟩⟩⟩
          · skip
            refine mv_aload_n (pc := 40) B d_Tokens_cutCode_40 rfl 1 rfl ?_
            refine mv_iload_n (pc := 41) B d_Tokens_cutCode_41 rfl 0 rfl ?_
            refine mv_callVi (pc := 42) (n := 1) (ci := 2) (C := R_Tokens) B (mK_ok sk sv) hNs rfl rfl (c_Tokens_broken l hi _ _ hsh hsz) rfl (ma_goodc kc_Tokens_broken) (B.2.2.2.1 _ k_845) (B.2.2.2.1 _ k_847) (B.2.2.2.1 _ ks_24) (B.2.2.2.1 _ k_3) ⟨by decide +kernel, by decide +kernel, by decide +kernel⟩ rfl d_Tokens_cutCode_42 rfl (Nat.le_of_ble_eq_true rfl) ⟨by decide, by decide⟩ ⟨by decide, by decide⟩ ⟨by decide, by decide⟩ (mv_noH hno _) (fun v42 σ42 h42 => ?_)
            obtain ⟨rfl, rfl⟩ := h42
            exact mv_iret (pc := 45) B hr rfl d_Tokens_cutCode_45 (Nat.le_refl _) (Nat.le_refl _) ⟨_, rfl, 2, _, 0, rfl, by omega, Or.inl ⟨rfl, Or.inr rfl⟩⟩
        · skip
          have z21 := zb_t z18 h21
          refine mv_iinc (pc := 24) (j := 0) (v := 1) B d_Tokens_cutCode_24 rfl (by decide) (by decide) rfl ?_
          refine mv_goto (pc := 27) (tgt := 4) B d_Tokens_cutCode_27 rfl ?_
          refine mv_lpick [0, 1, 2] rfl ?_
          exact ih _ (by rw [i32_inc (by omega)]; omega) (by rw [i32_inc (by omega)]; omega) (rg_ext qc (by omega) (by omega) (by first | omega | (dsimp only; omega))) (by rw [i32_inc (by omega)]; omega)
  refine mv_iload_n (pc := 0) B d_Tokens_cutCode_0 rfl 1 rfl ?_
  refine mv_iconst (pc := 1) (v := 1) B d_Tokens_cutCode_1 (by decide) ?_
  refine mv_iadd (pc := 2) B d_Tokens_cutCode_2 ?_
  refine mv_topi (fun y2 ey2 => ?_)
  have fy2 := i32_addE ey2 (by (try simp only [Int32.reduceToInt]); omega) (by (try simp only [Int32.reduceToInt]); omega)
  try simp only [Int32.reduceToInt] at fy2
  refine mv_istore_n (pc := 3) B d_Tokens_cutCode_3 rfl (by decide) rfl ?_
  refine mv_lpick [0, 1, 2] rfl ?_
  exact lp _ _ (by omega) (by omega) (fun i a1 a2 => by omega) (Nat.lt_succ_self _)
theorem st_sg : ∀ j, j < (st_g 133).2.2.2.length → ¬ (st_g 133).2.2.2.getD j 0 = 3 ∧ ¬ (st_g 133).2.2.2.getD j 0 = 5 := by decide +kernel
def y_Tokens_cutSign : MethodName := ⟨"MachineLoom$Tokens", "cutSign", "(II)I"⟩
abbrev b_Tokens_cutSign : ByteArray := prog_10_method_10_code
theorem kc_Tokens_cutSign : Cond.code y_Tokens_cutSign b_Tokens_cutSign 4 (Option.some Jvm.ClassFile.FieldType.int) ∈ ma := ma_of (tb_4 _ (List.mem_of_getElem? (i := 160) rfl)) rfl
theorem k_881 : (Jvm.Cond.methodLink "MachineLoom$Tokens" (115 : Nat) ({ cls := "MachineLoom$Tokens", name := "pairOf", desc := "(II)I" } : Jvm.MethodName)) ∈ ma := ma_of (tb_4 _ (List.mem_of_getElem? (i := 161) rfl)) rfl
theorem k_882 : (Jvm.Cond.static ({ cls := "MachineLoom$Tokens", name := "pairOf", desc := "(II)I" } : Jvm.MethodName)) ∈ ma := ma_of (tb_4 _ (List.mem_of_getElem? (i := 162) rfl)) rfl
theorem k_885 : (Jvm.Cond.methodLink "MachineLoom$Tokens" (120 : Nat) ({ cls := "java/lang/String", name := "indexOf", desc := "(I)I" } : Jvm.MethodName)) ∈ ma := ma_of (tb_4 _ (List.mem_of_getElem? (i := 165) rfl)) rfl
theorem k_886 : (Jvm.Cond.instanceMethod ({ cls := "java/lang/String", name := "indexOf", desc := "(I)I" } : Jvm.MethodName)) ∈ ma := ma_of (tb_4 _ (List.mem_of_getElem? (i := 166) rfl)) rfl
theorem k_887 : (Jvm.Cond.selects "java/lang/String" ({ cls := "java/lang/String", name := "indexOf", desc := "(I)I" } : Jvm.MethodName) ({ cls := "java/lang/String", name := "indexOf", desc := "(I)I" } : Jvm.MethodName)) ∈ ma := ma_of (tb_4 _ (List.mem_of_getElem? (i := 167) rfl)) rfl
theorem d_Tokens_cutSign_0 : decode b_Tokens_cutSign 0 = .ok (.iload_n 2, 1) := by decide +kernel
theorem d_Tokens_cutSign_1 : decode b_Tokens_cutSign 1 = .ok (.aload_n 0, 1) := by decide +kernel
theorem d_Tokens_cutSign_2 : decode b_Tokens_cutSign 2 = .ok (.iload_n 1, 1) := by decide +kernel
theorem d_Tokens_cutSign_3 : decode b_Tokens_cutSign 3 = .ok (.iconst 1, 1) := by decide +kernel
theorem d_Tokens_cutSign_4 : decode b_Tokens_cutSign 4 = .ok (.iadd, 1) := by decide +kernel
theorem d_Tokens_cutSign_5 : decode b_Tokens_cutSign 5 = .ok (.invokevirtual 61, 3) := by decide +kernel
theorem d_Tokens_cutSign_8 : decode b_Tokens_cutSign 8 = .ok (.invokestatic 115, 3) := by decide +kernel
theorem d_Tokens_cutSign_11 : decode b_Tokens_cutSign 11 = .ok (.istore_n 3, 1) := by decide +kernel
theorem d_Tokens_cutSign_12 : decode b_Tokens_cutSign 12 = .ok (.iload_n 3, 1) := by decide +kernel
theorem d_Tokens_cutSign_13 : decode b_Tokens_cutSign 13 = .ok (.ifCond .eq (14), 3) := by decide +kernel
theorem d_Tokens_cutSign_16 : decode b_Tokens_cutSign 16 = .ok (.aload_n 0, 1) := by decide +kernel
theorem d_Tokens_cutSign_17 : decode b_Tokens_cutSign 17 = .ok (.iload_n 3, 1) := by decide +kernel
theorem d_Tokens_cutSign_18 : decode b_Tokens_cutSign 18 = .ok (.iload_n 1, 1) := by decide +kernel
theorem d_Tokens_cutSign_19 : decode b_Tokens_cutSign 19 = .ok (.lconst 0, 1) := by decide +kernel
theorem d_Tokens_cutSign_20 : decode b_Tokens_cutSign 20 = .ok (.iload_n 1, 1) := by decide +kernel
theorem d_Tokens_cutSign_21 : decode b_Tokens_cutSign 21 = .ok (.iconst 2, 1) := by decide +kernel
theorem d_Tokens_cutSign_22 : decode b_Tokens_cutSign 22 = .ok (.iadd, 1) := by decide +kernel
theorem d_Tokens_cutSign_23 : decode b_Tokens_cutSign 23 = .ok (.invokevirtual 64, 3) := by decide +kernel
theorem d_Tokens_cutSign_26 : decode b_Tokens_cutSign 26 = .ok (.ireturn, 1) := by decide +kernel
theorem d_Tokens_cutSign_27 : decode b_Tokens_cutSign 27 = .ok (.iload_n 2, 1) := by decide +kernel
theorem d_Tokens_cutSign_28 : decode b_Tokens_cutSign 28 = .ok (.bipush 62, 2) := by decide +kernel
theorem d_Tokens_cutSign_30 : decode b_Tokens_cutSign 30 = .ok (.if_icmp .ne (11), 3) := by decide +kernel
theorem d_Tokens_cutSign_33 : decode b_Tokens_cutSign 33 = .ok (.aload_n 0, 1) := by decide +kernel
theorem d_Tokens_cutSign_34 : decode b_Tokens_cutSign 34 = .ok (.iload_n 1, 1) := by decide +kernel
theorem d_Tokens_cutSign_35 : decode b_Tokens_cutSign 35 = .ok (.iconst 1, 1) := by decide +kernel
theorem d_Tokens_cutSign_36 : decode b_Tokens_cutSign 36 = .ok (.iadd, 1) := by decide +kernel
theorem d_Tokens_cutSign_37 : decode b_Tokens_cutSign 37 = .ok (.invokevirtual 93, 3) := by decide +kernel
theorem d_Tokens_cutSign_40 : decode b_Tokens_cutSign 40 = .ok (.ireturn, 1) := by decide +kernel
theorem d_Tokens_cutSign_41 : decode b_Tokens_cutSign 41 = .ok (.ldc 118, 2) := by decide +kernel
theorem d_Tokens_cutSign_43 : decode b_Tokens_cutSign 43 = .ok (.iload_n 2, 1) := by decide +kernel
theorem d_Tokens_cutSign_44 : decode b_Tokens_cutSign 44 = .ok (.i2c, 1) := by decide +kernel
theorem d_Tokens_cutSign_45 : decode b_Tokens_cutSign 45 = .ok (.invokevirtual 120, 3) := by decide +kernel
theorem d_Tokens_cutSign_48 : decode b_Tokens_cutSign 48 = .ok (.ifCond .ge (11), 3) := by decide +kernel
theorem d_Tokens_cutSign_51 : decode b_Tokens_cutSign 51 = .ok (.aload_n 0, 1) := by decide +kernel
theorem d_Tokens_cutSign_52 : decode b_Tokens_cutSign 52 = .ok (.iload_n 1, 1) := by decide +kernel
theorem d_Tokens_cutSign_53 : decode b_Tokens_cutSign 53 = .ok (.invokevirtual 93, 3) := by decide +kernel
theorem d_Tokens_cutSign_56 : decode b_Tokens_cutSign 56 = .ok (.goto (13), 3) := by decide +kernel
theorem d_Tokens_cutSign_59 : decode b_Tokens_cutSign 59 = .ok (.aload_n 0, 1) := by decide +kernel
theorem d_Tokens_cutSign_60 : decode b_Tokens_cutSign 60 = .ok (.iload_n 2, 1) := by decide +kernel
theorem d_Tokens_cutSign_61 : decode b_Tokens_cutSign 61 = .ok (.iload_n 1, 1) := by decide +kernel
theorem d_Tokens_cutSign_62 : decode b_Tokens_cutSign 62 = .ok (.lconst 0, 1) := by decide +kernel
theorem d_Tokens_cutSign_63 : decode b_Tokens_cutSign 63 = .ok (.iload_n 1, 1) := by decide +kernel
theorem d_Tokens_cutSign_64 : decode b_Tokens_cutSign 64 = .ok (.iconst 1, 1) := by decide +kernel
theorem d_Tokens_cutSign_65 : decode b_Tokens_cutSign 65 = .ok (.iadd, 1) := by decide +kernel
theorem d_Tokens_cutSign_66 : decode b_Tokens_cutSign 66 = .ok (.invokevirtual 64, 3) := by decide +kernel
theorem d_Tokens_cutSign_69 : decode b_Tokens_cutSign 69 = .ok (.ireturn, 1) := by decide +kernel
set_option maxHeartbeats 4000000 in
set_option maxRecDepth 100000 in
theorem c_Tokens_cutSign (l : Launch) {dA : FieldType → ClassId} {D : va_G} {al : Nat → Nat} {ext : mv_Sh} {sk sv : Nat → Nat} (hi : mv_inj (mg dA D al ext)) (σ : mv_H) (f x : Int32) (t tn len : Nat) (hx : tx ext σ t tn len) (hsz : vp_in (mv_i σ 3 6) 32770) (g0 : 0 ≤ f.toInt) (g1 : f.toInt < len) (gx : 0 ≤ x.toInt) : mv_C l y_Tokens_cutSign (Cond.code y_Tokens_cutSign b_Tokens_cutSign 4 (Option.some Jvm.ClassFile.FieldType.int) :: ma) ({ frames := 4, cells := 0, slots := 0, locals := 106 }) (mg dA D al ext) (mK sk sv) [.ref (al 3), .int f, .int x] σ (mv_Ri (fun v σ1 => tk_S σ t len f.toInt v σ1)) := by
  refine mv_C.ofV (cc := b_Tokens_cutSign) (nL := 4) (ret := (Option.some Jvm.ClassFile.FieldType.int)) (by decide +kernel) rfl hi (Nat.le_of_ble_eq_true rfl) ?_
  intro p e s m below meth c B hNs hr hnm hno
  obtain ⟨hsh, ht, hts, hlen, hl1, hl2, ht2⟩ := hx
  refine mv_iload_n (pc := 0) B d_Tokens_cutSign_0 rfl 2 rfl ?_
  refine mv_aload_n (pc := 1) B d_Tokens_cutSign_1 rfl 0 rfl ?_
  refine mv_iload_n (pc := 2) B d_Tokens_cutSign_2 rfl 1 rfl ?_
  refine mv_iconst (pc := 3) (v := 1) B d_Tokens_cutSign_3 (by decide) ?_
  refine mv_iadd (pc := 4) B d_Tokens_cutSign_4 ?_
  refine mv_topi (fun y4 ey4 => ?_)
  have fy4 := i32_addE ey4 (by (try simp only [Int32.reduceToInt]); omega) (by (try simp only [Int32.reduceToInt]); omega)
  try simp only [Int32.reduceToInt] at fy4
  refine mv_callVi (pc := 5) (n := 1) (ci := 2) (C := R_Tokens) B (mK_ok sk sv) hNs rfl rfl (c_Tokens_characterAt l hi _ _ t tn hsh ht hts (by omega) (by omega)) rfl (ma_goodc kc_Tokens_characterAt) (B.2.2.2.1 _ k_827) (B.2.2.2.1 _ k_829) (B.2.2.2.1 _ ks_21) (B.2.2.2.1 _ k_3) ⟨by decide +kernel, by decide +kernel, by decide +kernel⟩ rfl d_Tokens_cutSign_5 rfl (Nat.le_of_ble_eq_true rfl) ⟨by decide, by decide⟩ ⟨by decide, by decide⟩ ⟨by decide, by decide⟩ (mv_noH hno _) (fun v5 σ5 h5 => ?_)
  obtain ⟨rfl, h5⟩ := h5
  refine mv_callSi (pc := 8) (n := 2) B (mK_ok sk sv) hNs (c_Tokens_pairOf l hi _ _ _) rfl (ma_goodc kc_Tokens_pairOf) (B.2.2.2.1 _ k_881) (B.2.2.2.1 _ k_882) (B.2.2.2.1 _ k_3) ⟨by decide +kernel, by decide +kernel, by decide +kernel⟩ rfl d_Tokens_cutSign_8 rfl (Nat.le_of_ble_eq_true rfl) ⟨by decide, by decide⟩ ⟨by decide, by decide⟩ ⟨by decide, by decide⟩ (mv_noH hno _) (fun v8 σ8 h8 => ?_)
  obtain ⟨rfl, h8⟩ := h8
  refine mv_istore_n (pc := 11) B d_Tokens_cutSign_11 rfl (by decide) rfl ?_
  refine mv_iload_n (pc := 12) B d_Tokens_cutSign_12 rfl 0 rfl ?_
  refine mv_if_eq (pc := 13) (tgt := 27) B d_Tokens_cutSign_13 rfl (fun h13 => ?_) (fun h13 => ?_)
  · skip
    refine mv_iload_n (pc := 27) B d_Tokens_cutSign_27 rfl 3 rfl ?_
    refine mv_bipush (pc := 28) (v := 62) B d_Tokens_cutSign_28 (by decide) ?_
    refine mv_icmp_ne (pc := 30) (tgt := 41) B d_Tokens_cutSign_30 rfl (fun h30 => ?_) (fun h30 => ?_)
    · skip
      refine mv_ldcS (pc := 41) B (hNs.2.1 133 (by decide)).1 d_Tokens_cutSign_41 ?_
      refine mv_iload_n (pc := 43) B d_Tokens_cutSign_43 rfl 3 rfl ?_
      refine mv_i2c (pc := 44) B d_Tokens_cutSign_44 ?_
      refine mv_callVOi (pc := 45) (n := 1) B (mK_ok sk sv) hNs (hNs.2.1 133 (by decide)).2.1 (c_String_indexOf_0 l hi _ 133 (by decide) _) rfl (ma_goodc kc_String_indexOf_0) (B.2.2.2.1 _ k_885) (B.2.2.2.1 _ k_886) (B.2.2.2.1 _ k_887) (B.2.2.2.1 _ k_21) ⟨by decide +kernel, by decide +kernel, by decide +kernel⟩ rfl d_Tokens_cutSign_45 rfl (Nat.le_of_ble_eq_true rfl) ⟨by decide, by decide⟩ ⟨by decide, by decide⟩ ⟨by decide, by decide⟩ (mv_noH hno _) (fun v45 σ45 h45 => ?_)
      obtain ⟨rfl, h45⟩ := h45
      refine mv_if_ge (pc := 48) (tgt := 59) B d_Tokens_cutSign_48 rfl (fun h48 => ?_) (fun h48 => ?_)
      · skip
        rw [Int32.le_iff_toInt_le] at h48
        have k48 := h45 h48
        have k3 : ¬ x = 3 := fun q => by obtain ⟨j, j1, j2⟩ := k48; rw [q] at j2; exact (st_sg j j1).1 (j2.trans (by decide))
        have k5 : ¬ x = 5 := fun q => by obtain ⟨j, j1, j2⟩ := k48; rw [q] at j2; exact (st_sg j j1).2 (j2.trans (by decide))
        refine mv_aload_n (pc := 59) B d_Tokens_cutSign_59 rfl 1 rfl ?_
        refine mv_iload_n (pc := 60) B d_Tokens_cutSign_60 rfl 3 rfl ?_
        refine mv_iload_n (pc := 61) B d_Tokens_cutSign_61 rfl 2 rfl ?_
        refine mv_lconst (pc := 62) (v := 0) B d_Tokens_cutSign_62 (by decide) ?_
        refine mv_iload_n (pc := 63) B d_Tokens_cutSign_63 rfl 2 rfl ?_
        refine mv_iconst (pc := 64) (v := 1) B d_Tokens_cutSign_64 (by decide) ?_
        refine mv_iadd (pc := 65) B d_Tokens_cutSign_65 ?_
        refine mv_topi (fun y65 ey65 => ?_)
        have fy65 := i32_addE ey65 (by (try simp only [Int32.reduceToInt]); omega) (by (try simp only [Int32.reduceToInt]); omega)
        try simp only [Int32.reduceToInt] at fy65
        refine mv_callVi (pc := 66) (n := 4) (ci := 2) (C := R_Tokens) B (mK_ok sk sv) hNs rfl rfl (c_Tokens_add l hi _ _ _ _ _ hsh hsz) rfl (ma_goodc kc_Tokens_add) (B.2.2.2.1 _ k_831) (B.2.2.2.1 _ k_833) (B.2.2.2.1 _ ks_22) (B.2.2.2.1 _ k_3) ⟨by decide +kernel, by decide +kernel, by decide +kernel⟩ rfl d_Tokens_cutSign_66 rfl (Nat.le_of_ble_eq_true rfl) ⟨by decide, by decide⟩ ⟨by decide, by decide⟩ ⟨by decide, by decide⟩ (mv_noH hno _) (fun v66 σ66 h66 => ?_)
        obtain ⟨rfl, rfl⟩ := h66
        exact mv_iret (pc := 69) B hr rfl d_Tokens_cutSign_69 (Nat.le_refl _) (Nat.le_refl _) ⟨_, rfl, by first | exact ⟨2, _, 0, rfl, by omega, Or.inl ⟨rfl, Or.inr rfl⟩⟩ | exact ⟨_, _, _, rfl, by omega, Or.inr ⟨by omega, by omega, k3, fun q => absurd q k5⟩⟩⟩
      · skip
        refine mv_aload_n (pc := 51) B d_Tokens_cutSign_51 rfl 1 rfl ?_
        refine mv_iload_n (pc := 52) B d_Tokens_cutSign_52 rfl 2 rfl ?_
        refine mv_callVi (pc := 53) (n := 1) (ci := 2) (C := R_Tokens) B (mK_ok sk sv) hNs rfl rfl (c_Tokens_broken l hi _ _ hsh hsz) rfl (ma_goodc kc_Tokens_broken) (B.2.2.2.1 _ k_845) (B.2.2.2.1 _ k_847) (B.2.2.2.1 _ ks_24) (B.2.2.2.1 _ k_3) ⟨by decide +kernel, by decide +kernel, by decide +kernel⟩ rfl d_Tokens_cutSign_53 rfl (Nat.le_of_ble_eq_true rfl) ⟨by decide, by decide⟩ ⟨by decide, by decide⟩ ⟨by decide, by decide⟩ (mv_noH hno _) (fun v53 σ53 h53 => ?_)
        obtain ⟨rfl, rfl⟩ := h53
        refine mv_goto (pc := 56) (tgt := 69) B d_Tokens_cutSign_56 rfl ?_
        exact mv_iret (pc := 69) B hr rfl d_Tokens_cutSign_69 (Nat.le_refl _) (Nat.le_refl _) ⟨_, rfl, by first | exact ⟨2, _, 0, rfl, by omega, Or.inl ⟨rfl, Or.inr rfl⟩⟩ | exact ⟨_, _, _, rfl, by omega, Or.inr ⟨by omega, by omega, k3, fun q => absurd q k5⟩⟩⟩
    · skip
      refine mv_aload_n (pc := 33) B d_Tokens_cutSign_33 rfl 1 rfl ?_
      refine mv_iload_n (pc := 34) B d_Tokens_cutSign_34 rfl 2 rfl ?_
      refine mv_iconst (pc := 35) (v := 1) B d_Tokens_cutSign_35 (by decide) ?_
      refine mv_iadd (pc := 36) B d_Tokens_cutSign_36 ?_
      refine mv_topi (fun y36 ey36 => ?_)
      have fy36 := i32_addE ey36 (by (try simp only [Int32.reduceToInt]); omega) (by (try simp only [Int32.reduceToInt]); omega)
      try simp only [Int32.reduceToInt] at fy36
      refine mv_callVi (pc := 37) (n := 1) (ci := 2) (C := R_Tokens) B (mK_ok sk sv) hNs rfl rfl (c_Tokens_broken l hi _ _ hsh hsz) rfl (ma_goodc kc_Tokens_broken) (B.2.2.2.1 _ k_845) (B.2.2.2.1 _ k_847) (B.2.2.2.1 _ ks_24) (B.2.2.2.1 _ k_3) ⟨by decide +kernel, by decide +kernel, by decide +kernel⟩ rfl d_Tokens_cutSign_37 rfl (Nat.le_of_ble_eq_true rfl) ⟨by decide, by decide⟩ ⟨by decide, by decide⟩ ⟨by decide, by decide⟩ (mv_noH hno _) (fun v37 σ37 h37 => ?_)
      obtain ⟨rfl, rfl⟩ := h37
      exact mv_iret (pc := 40) B hr rfl d_Tokens_cutSign_40 (Nat.le_refl _) (Nat.le_refl _) ⟨_, rfl, 2, _, 0, rfl, by omega, Or.inl ⟨rfl, Or.inr rfl⟩⟩
  · skip
    have k13 := h8.resolve_left h13
    have l13 : f.toInt + 1 < len := Decidable.byContradiction fun q => by rw [if_neg (by omega)] at h5; rw [h5] at k13; rcases k13.2.2 with q2 | q2; exact absurd q2 (by decide); rw [q2] at gx; exact absurd gx (by decide)
    refine mv_aload_n (pc := 16) B d_Tokens_cutSign_16 rfl 1 rfl ?_
    refine mv_iload_n (pc := 17) B d_Tokens_cutSign_17 rfl 0 rfl ?_
    refine mv_iload_n (pc := 18) B d_Tokens_cutSign_18 rfl 2 rfl ?_
    refine mv_lconst (pc := 19) (v := 0) B d_Tokens_cutSign_19 (by decide) ?_
    refine mv_iload_n (pc := 20) B d_Tokens_cutSign_20 rfl 2 rfl ?_
    refine mv_iconst (pc := 21) (v := 2) B d_Tokens_cutSign_21 (by decide) ?_
    refine mv_iadd (pc := 22) B d_Tokens_cutSign_22 ?_
    refine mv_topi (fun y22 ey22 => ?_)
    have fy22 := i32_addE ey22 (by (try simp only [Int32.reduceToInt]); omega) (by (try simp only [Int32.reduceToInt]); omega)
    try simp only [Int32.reduceToInt] at fy22
    refine mv_callVi (pc := 23) (n := 4) (ci := 2) (C := R_Tokens) B (mK_ok sk sv) hNs rfl rfl (c_Tokens_add l hi _ _ _ _ _ hsh hsz) rfl (ma_goodc kc_Tokens_add) (B.2.2.2.1 _ k_831) (B.2.2.2.1 _ k_833) (B.2.2.2.1 _ ks_22) (B.2.2.2.1 _ k_3) ⟨by decide +kernel, by decide +kernel, by decide +kernel⟩ rfl d_Tokens_cutSign_23 rfl (Nat.le_of_ble_eq_true rfl) ⟨by decide, by decide⟩ ⟨by decide, by decide⟩ ⟨by decide, by decide⟩ (mv_noH hno _) (fun v23 σ23 h23 => ?_)
    obtain ⟨rfl, rfl⟩ := h23
    exact mv_iret (pc := 26) B hr rfl d_Tokens_cutSign_26 (Nat.le_refl _) (Nat.le_refl _) ⟨_, rfl, _, _, _, rfl, by omega, Or.inr ⟨by omega, by omega, fun q => by rw [q] at k13; exact absurd k13.1 (by decide), fun q => by rw [q] at k13; exact absurd k13.1 (by decide)⟩⟩
/-- the TOKENS below sz, with n symbols -/
def Tk (σ : mv_H) (t len sz n : Nat) : Prop := (mv_i σ 3 6).toInt = sz ∧ (1 ≤ sz ∧ 1 ≤ n) ∧ mv_a σ 4 0 = 0 ∧ mv_b σ 6 0 = 0 ∧ ∀ i, i < sz → (mv_a σ 4 i = 3 → 0 ≤ (mv_b σ 6 i).toInt ∧ (mv_b σ 6 i).toInt < n) ∧ (mv_a σ 4 i = 5 → tk_code σ t len (mv_a σ 5 i) (mv_b σ 6 i)) ∧ 0 ≤ (mv_a σ 5 i).toInt
/-- how many symbols there can be where the reader is at p -/
def Ju (σ : mv_H) (t len n z p : Nat) : Prop := 2 * n ≤ p + 75 ∧ (p < len → ch_name (mv_a σ t p).toInt → 2 * n ≤ p + 74) ∧ z ≤ p + 74
abbrev CutF : mv_H → mv_H → Prop := Fr (fun o k => (o = 3 ∧ k = 6) ∨ (o = 7 ∧ k = 5)) (fun o => o = 4 ∨ o = 5 ∨ (8 ≤ o ∧ o ≤ 11)) (fun o => o = 6)
def CutP (σ : mv_H) (t len sz p : Nat) (v : Int32) (σ1 : mv_H) : Prop := CutF σ σ1 ∧ ((∀ i, i < sz → mv_a σ1 4 i = mv_a σ 4 i) ∧ (mv_a σ1 4 sz = 5 → qc (mv_a σ t) p + 2 ≤ qc (mv_a σ t) v.toNatClampNeg)) ∧ ∃ n z : Nat, Sy σ1 n z ∧ Tk σ1 t len (sz + 1) n ∧ ((v = -1 ∧ (mv_a σ1 4 sz = 1 ∨ mv_a σ1 4 sz = 2)) ∨ ∃ q : Nat, v.toInt = q ∧ p < q ∧ q ≤ len ∧ Ju σ1 t len n z q)
theorem Sy.tk {σ : mv_H} {n z : Nat} (h : Sy σ n z) (k q : Int32) (x : Int64) : Sy (tk_add σ k q x) n z := h
theorem CutF.tk (σ : mv_H) (k q : Int32) (x : Int64) : CutF σ (tk_add σ k q x) := ((((Fr.rf.sa (by decide)).sa (by decide)).sb (by decide)).si (by decide))
theorem tk_txt {σ : mv_H} {t : Nat} (ht : t = 1 ∨ t = 144) (k q : Int32) (x : Int64) : mv_a (tk_add σ k q x) t = mv_a σ t := by
  rcases ht with rfl | rfl <;> rfl
theorem sy_txt {σ τ : mv_H} (h : SyF σ τ) {t : Nat} (ht : t = 1 ∨ t = 144) : mv_a τ t = mv_a σ t := h.2.1 t (by rcases ht with rfl | rfl <;> omega)
theorem Tk.add {σ : mv_H} {t len sz n n1 : Nat} (h : Tk σ t len sz n) (hn : n ≤ n1) (hs : sz < 32770) (ht : t = 1 ∨ t = 144) {k q : Int32} {x : Int64} (hq0 : 0 ≤ q.toInt) (h3 : k = 3 → 0 ≤ x.toInt ∧ x.toInt < n1) (h5 : k = 5 → tk_code σ t len q x) :
    Tk (tk_add σ k q x) t len (sz + 1) n1 ∧ mv_a (tk_add σ k q x) 4 sz = k := by
  obtain ⟨a1, a2, a3, a4, a5⟩ := h
  have ec : (mv_i σ 3 6).toNatClampNeg = sz := by
    have := i32_cl (x := mv_i σ 3 6) (by omega)
    omega
  have e4 : ∀ i, mv_a (tk_add σ k q x) 4 i = if i = sz then k else mv_a σ 4 i := fun i => by
    show (if 4 = 4 ∧ i = (mv_i σ 3 6).toNatClampNeg then k else mv_a σ 4 i) = _
    rw [ec]; simp only [true_and]
  have e5 : ∀ i, mv_a (tk_add σ k q x) 5 i = if i = sz then q else mv_a σ 5 i := fun i => by
    show (if 5 = 5 ∧ i = (mv_i σ 3 6).toNatClampNeg then q else mv_a σ 5 i) = _
    rw [ec]; simp only [true_and]
  have e6 : ∀ i, mv_b (tk_add σ k q x) 6 i = if i = sz then x else mv_b σ 6 i := fun i => by
    show (if 6 = 6 ∧ i = (mv_i σ 3 6).toNatClampNeg then x else mv_b σ 6 i) = _
    rw [ec]; simp only [true_and]
  have et2 : ∀ (q' : Int32) (x' : Int64), tk_code σ t len q' x' → tk_code (tk_add σ k q x) t len q' x' := fun q' x' hc => by
    unfold tk_code at hc ⊢
    rw [tk_txt ht]; exact hc
  refine ⟨⟨?_, by omega, ?_, ?_, fun i hi => ?_⟩, by rw [e4, if_pos rfl]⟩
  · show (mv_i σ 3 6 + 1).toInt = _
    rw [i32_inc (by omega)]; omega
  · rw [e4, if_neg (by omega)]; exact a3
  · rw [e6, if_neg (by omega)]; exact a4
  · rw [e4, e5, e6]
    by_cases e : i = sz
    · rw [if_pos e, if_pos e, if_pos e]
      exact ⟨h3, fun q5 => et2 _ _ (h5 q5), hq0⟩
    · rw [if_neg e, if_neg e, if_neg e]
      have := a5 i (by omega)
      exact ⟨fun q3 => by have := this.1 q3; omega, fun q5 => et2 _ _ (this.2.1 q5), this.2.2⟩
theorem Tk.sy {σ τ : mv_H} {t len sz n : Nat} (h : Tk σ t len sz n) (g : SyF σ τ) (ht : t = 1 ∨ t = 144) : Tk τ t len sz n := by
  obtain ⟨a1, a2, a3, a4, a5⟩ := h
  have e4 : mv_a τ 4 = mv_a σ 4 := g.2.1 4 (by omega)
  have e5 : mv_a τ 5 = mv_a σ 5 := g.2.1 5 (by omega)
  have e6 : mv_b τ 6 = mv_b σ 6 := g.2.2.1 6 (by simp)
  have et := sy_txt g ht
  refine ⟨by rw [g.1 3 6 (by omega)]; exact a1, a2, by rw [e4]; exact a3, by rw [e6]; exact a4, fun i hi => ?_⟩
  rw [e4, e5, e6]
  unfold tk_code
  rw [et]
  exact a5 i hi
theorem Tk.lo {σ : mv_H} {t len sz n : Nat} (h : Tk σ t len sz n) (k q : Int32) (x : Int64) : ∀ i, i < sz → mv_a (tk_add σ k q x) 4 i = mv_a σ 4 i := fun i hi => by
  show (if 4 = 4 ∧ i = (mv_i σ 3 6).toNatClampNeg then k else mv_a σ 4 i) = _
  have := i32_cl (x := mv_i σ 3 6) (by have := h.1; omega)
  exact if_neg (fun q => by have := q.2; have := h.1; omega)
/-- a TOKEN that is no NAME -/
theorem CutP.of {σ : mv_H} {t len sz n z p : Nat} {v : Int32} {σ1 : mv_H} {f : Int} (h : tk_S σ t len f v σ1) (hf : f = p) (hS : Sy σ n z) (hT : Tk σ t len sz n) (hs : sz < 32770) (ht : t = 1 ∨ t = 144) (hJ : Ju σ t len n z p) : CutP σ t len sz p v σ1 := by
  obtain ⟨k, q, x, rfl, hq0, h⟩ := h
  rcases h with ⟨h1, h2⟩ | ⟨h1, h2, h3, h4⟩
  · obtain ⟨g1, g2⟩ := Tk.add (k := k) (q := q) (x := x) hT (Nat.le_refl _) hs ht hq0 (fun e => by rcases h2 with h2 | h2 <;> (rw [h2] at e; exact absurd e (by decide))) (fun e => by rcases h2 with h2 | h2 <;> (rw [h2] at e; exact absurd e (by decide)))
    exact ⟨CutF.tk _ _ _ _, ⟨hT.lo _ _ _, fun e => by rw [g2] at e; rcases h2 with h2 | h2 <;> (rw [h2] at e; exact absurd e (by decide))⟩, n, z, hS.tk _ _ _, g1, Or.inl ⟨h1, by rw [g2]; exact h2⟩⟩
  · obtain ⟨g1, g2⟩ := Tk.add (k := k) (q := q) (x := x) hT (Nat.le_refl _) hs ht hq0 (fun e => absurd e h3) (fun e => (h4 e).1)
    refine ⟨CutF.tk _ _ _ _, ⟨hT.lo _ _ _, fun e => by rw [g2] at e; have := (h4 e).2; rw [hf] at this; exact this⟩, n, z, hS.tk _ _ _, g1, Or.inr ⟨v.toNatClampNeg, (i32_cl (by omega)).symm, ?_, ?_, ?_⟩⟩
    · have := i32_cl (x := v) (by omega); omega
    · have := i32_cl (x := v) (by omega); omega
    · have e := i32_cl (x := v) (by omega)
      have := hJ.1; have := hJ.2.2
      exact ⟨by omega, fun _ _ => by omega, by omega⟩
