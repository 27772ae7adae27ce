/-! Shipped, while the shipped program is not yet made -/
def me2 : mv_Sh := [.inl 10, .inr (.byte, 8192)]
set_option maxHeartbeats 4000000 in
set_option maxRecDepth 100000 in
theorem c_Shipped_put_k (l : Launch) {dA : FieldType → ClassId} {D : va_G} {al : Nat → Nat} {sk sv : Nat → Nat} (hi : mv_inj (mg dA D al me2)) (σ : mv_H) (i9 q9 : Nat) (hi9 : i9 < st_t.length) (hQ0 : ShQ σ q9) : mv_C l y_Shipped_put (Cond.code y_Shipped_put b_Shipped_put 3 (Option.none : Option Jvm.ClassFile.FieldType) :: ma) ({ frames := 4, cells := 0, slots := 0, locals := 85 }) (mg dA D al me2) (mK sk sv) [.ref (al 143), .ref (sk i9)] σ (mv_Rv (fun σ1 => ShF σ σ1 ∧ ShQ σ1 (q9 + qs i9))) := by
  refine mv_C.ofV (cc := b_Shipped_put) (nL := 3) (ret := (Option.none : Option Jvm.ClassFile.FieldType)) (by decide +kernel) rfl hi (Nat.le_of_ble_eq_true rfl) ?_
  intro p e s m below meth c B hNs hr hnm hno
  have lp : ∀ (nn : Nat) (τ : mv_H) (jj : Int32) (q0 : 0 ≤ jj.toInt) (hF : ShF σ τ) (hQ : ShQ τ (q9 + qc (fun j => (st_g i9).2.2.2.getD j 0) jj.toNatClampNeg)), (2000 - jj.toInt).toNat < nn → mv_V p l e ({ frames := 4, cells := 0, slots := 0, locals := 85 }) s m ([.ref (al 143), .ref (sk i9)] : List Value).toArray below meth c (mg dA D al me2) 3 0 0 (mv_Q (mg dA D al me2) below s 0 0 (mv_Rv (fun σ1 => ShF σ σ1 ∧ ShQ σ1 (q9 + qs i9)))) τ 2 [(2, .int jj), (0, .ref (al 143)), (1, .ref (sk i9))] [] := by
    intro nn
    induction nn with
    | zero => intro τ jj q0 hF hQ hm; exact absurd hm (Nat.not_lt_zero _)
    | succ nn ih =>
      intro τ jj q0 hF hQ hm
      refine mv_iload_n (pc := 2) B d_Shipped_put_2 rfl 0 rfl ?_
      refine mv_aload_n (pc := 3) B d_Shipped_put_3 rfl 2 rfl ?_
      refine mv_callVOi (pc := 4) (n := 0) B (mK_ok sk sv) hNs (hNs.2.1 i9 hi9).2.1 (c_String_length l hi _ i9 hi9) rfl (ma_goodc kc_String_length) (B.2.2.2.1 _ k_545) (B.2.2.2.1 _ k_546) (B.2.2.2.1 _ k_547) (B.2.2.2.1 _ k_21) ⟨by decide +kernel, by decide +kernel, by decide +kernel⟩ rfl d_Shipped_put_4 rfl (Nat.le_of_ble_eq_true rfl) ⟨by decide, by decide⟩ ⟨by decide, by decide⟩ ⟨by decide, by decide⟩ (mv_noH hno _) (fun v4 σ4 h4 => ?_)
      obtain ⟨e4, z4⟩ := h4
      have e4 := e4.symm
      subst e4
      refine mv_icmp_ge (pc := 7) (tgt := 51) B d_Shipped_put_7 rfl (fun h7 => ?_) (fun h7 => ?_)
      · skip
        exact mv_vret (pc := 51) B hr d_Shipped_put_51 (Nat.le_refl _) (Nat.le_refl _) ⟨rfl, hF, hQ.up (Nat.add_le_add_left (qc_le9 i9 jj) _)⟩
      · skip
        rw [Int32.le_iff_toInt_le] at h7
        have hll := st_l9 i9 hi9
        refine mv_aload_n (pc := 10) B d_Shipped_put_10 rfl 1 rfl ?_
        refine mv_getI (pc := 11) (ci := 10) (C := R_Shipped) (T := F_Shipped) (N := 2) B 1 rfl rfl (by decide) i_Shipped (B.2.2.2.1 _ k_530) rfl d_Shipped_put_11 ?_
        refine mv_sipush (pc := 14) (v := 8192) B d_Shipped_put_14 (by decide) ?_
        refine mv_icmp_ge (pc := 17) (tgt := 51) B d_Shipped_put_17 rfl (fun h17 => ?_) (fun h17 => ?_)
        · skip
          exact mv_vret (pc := 51) B hr d_Shipped_put_51 (Nat.le_refl _) (Nat.le_refl _) ⟨rfl, hF, hQ.up (Nat.add_le_add_left (qc_le9 i9 jj) _)⟩
        · skip
          rw [Int32.le_iff_toInt_le] at h17
          have h17 : ¬ (8192 : Int) ≤ (mv_i τ 143 1).toInt := h17
          have cj := i32_cl q0
          have hasc := st_asc i9 hi9 jj.toNatClampNeg (by omega)
          have w2 : (jj + 1).toInt = jj.toInt + 1 := i32_inc (by omega)
          have hs0 := hQ.2.1
          refine mv_aload_n (pc := 20) B d_Shipped_put_20 rfl 1 rfl ?_
          refine mv_getR (pc := 21) (ci := 10) (C := R_Shipped) (T := F_Shipped) (N := 2) B 0 rfl rfl (by decide) i_Shipped (B.2.2.2.1 _ k_527) rfl hQ.1 d_Shipped_put_21 ?_
          refine mv_aload_n (pc := 24) B d_Shipped_put_24 rfl 1 rfl ?_
          refine mv_getI (pc := 25) (ci := 10) (C := R_Shipped) (T := F_Shipped) (N := 2) B 1 rfl rfl (by decide) i_Shipped (B.2.2.2.1 _ k_530) rfl d_Shipped_put_25 ?_
          refine mv_aload_n (pc := 28) B d_Shipped_put_28 rfl 2 rfl ?_
          refine mv_iload_n (pc := 29) B d_Shipped_put_29 rfl 0 rfl ?_
          refine mv_callVOi (pc := 30) (n := 1) B (mK_ok sk sv) hNs (hNs.2.1 i9 hi9).2.1 (c_String_charAt l hi _ i9 hi9 _ q0 (by omega)) rfl (ma_goodc kc_String_charAt) (B.2.2.2.1 _ k_555) (B.2.2.2.1 _ k_556) (B.2.2.2.1 _ k_557) (B.2.2.2.1 _ k_21) ⟨by decide +kernel, by decide +kernel, by decide +kernel⟩ rfl d_Shipped_put_30 rfl (Nat.le_of_ble_eq_true rfl) ⟨by decide, by decide⟩ ⟨by decide, by decide⟩ ⟨by decide, by decide⟩ (mv_noH hno _) (fun v30 σ30 h30 => ?_)
          obtain ⟨e30, z30⟩ := h30
          have e30 := e30.symm
          subst e30
          refine mv_i2b (pc := 33) B d_Shipped_put_33 ?_
          refine mv_bast (pc := 34) B rfl (i32_in hs0 (by omega)) d_Shipped_put_34 ?_
          refine mv_aload_n (pc := 35) B d_Shipped_put_35 rfl 1 rfl ?_
          refine mv_dup (pc := 36) B d_Shipped_put_36 rfl ?_
          refine mv_getI (pc := 37) (ci := 10) (C := R_Shipped) (T := F_Shipped) (N := 2) B 1 rfl rfl (by decide) i_Shipped (B.2.2.2.1 _ k_530) rfl d_Shipped_put_37 ?_
          refine mv_iconst (pc := 40) (v := 1) B d_Shipped_put_40 (by decide) ?_
          refine mv_iadd (pc := 41) B d_Shipped_put_41 ?_
          refine mv_putI (pc := 42) (ci := 10) (C := R_Shipped) (T := F_Shipped) (N := 2) B 1 rfl rfl (by decide) i_Shipped t_Shipped_ok n_Shipped (B.2.2.2.1 _ k_530) rfl rfl rfl rfl d_Shipped_put_42 ?_
          refine mv_gen (fun S45 eS45 => ?_)
          have z31 : S45 = sh_add τ ((st_g i9).2.2.2.getD jj.toNatClampNeg 0) := by rw [eS45, z30]; show sh_add τ _ = _; rw [hasc.1]
          have hF2 : ShF σ S45 := by rw [z31]; exact (hF.sa rfl).si ⟨rfl, rfl⟩
          have hQ2 : ShQ S45 (q9 + qc (fun j => (st_g i9).2.2.2.getD j 0) (jj + 1).toNatClampNeg) := by
            rw [z31]
            have cj2 := i32_cl (x := jj + 1) (by omega)
            rw [show (jj + 1).toNatClampNeg = jj.toNatClampNeg + 1 by omega]
            have hq3 := hQ.add (v := (st_g i9).2.2.2.getD jj.toNatClampNeg 0) (by omega) ⟨by omega, hasc.2.2⟩
            rw [Nat.add_assoc] at hq3
            exact hq3
          have go := ih S45 (jj + 1) (by omega) hF2 hQ2 (by omega)
          clear eS45
          refine mv_iinc (pc := 45) (j := 0) (v := 1) B d_Shipped_put_45 rfl (by decide) (by decide) rfl ?_
          refine mv_goto (pc := 48) (tgt := 2) B d_Shipped_put_48 rfl ?_
          refine mv_lpick [0, 1, 2] rfl ?_
          exact go
  refine mv_iconst (pc := 0) (v := 0) B d_Shipped_put_0 (by decide) ?_
  refine mv_istore_n (pc := 1) B d_Shipped_put_1 rfl (by decide) rfl ?_
  refine mv_lpick [0, 1, 2] rfl ?_
  exact lp _ _ _ (by decide) Fr.rf (hQ0.up (Nat.le_add_right _ _)) (Nat.lt_succ_self _)

set_option maxHeartbeats 4000000 in
set_option maxRecDepth 100000 in
theorem c_Shipped_head_k (l : Launch) {dA : FieldType → ClassId} {D : va_G} {al : Nat → Nat} {sk sv : Nat → Nat} (hi : mv_inj (mg dA D al me2)) (σ : mv_H) (i1 : Nat) (i2 : Nat) (i3 : Nat) (i4 : Nat) (q9 : Nat) (hi1 : i1 < st_t.length) (hi2 : i2 < st_t.length) (hi3 : i3 < st_t.length) (hi4 : i4 < st_t.length) (hQ : ShQ σ q9) : mv_C l y_Shipped_head (Cond.code y_Shipped_head b_Shipped_head 5 (Option.none : Option Jvm.ClassFile.FieldType) :: ma) ({ frames := 5, cells := 0, slots := 0, locals := 107 }) (mg dA D al me2) (mK sk sv) [.ref (al 143), .ref (sk i1), .ref (sk i2), .ref (sk i3), .ref (sk i4)] σ (mv_Rv (fun σ1 => ShF σ σ1 ∧ ShQ σ1 (q9 + qs 5 + qs i1 + qs 157 + qs i2 + qs i3 + qs i4 + qs 158))) := by
  refine mv_C.ofV (cc := b_Shipped_head) (nL := 5) (ret := (Option.none : Option Jvm.ClassFile.FieldType)) (by decide +kernel) rfl hi (Nat.le_of_ble_eq_true rfl) ?_
  intro p e s m below meth c B hNs hr hnm hno
  have hF : ShF σ σ := Fr.rf
  refine mv_aload_n (pc := 0) B d_Shipped_head_0 rfl 0 rfl ?_
  refine mv_ldcwS (pc := 1) B (hNs.2.1 5 (by decide)).1 d_Shipped_head_1 ?_
  refine mv_callVv (pc := 4) (n := 1) (ci := 10) (C := R_Shipped) B (mK_ok sk sv) hNs rfl rfl (c_Shipped_put_k l hi _ 5 _ (by decide) hQ) rfl (ma_goodc kc_Shipped_put) (B.2.2.2.1 _ k_541) (B.2.2.2.1 _ k_543) (B.2.2.2.1 _ ks_3) (B.2.2.2.1 _ k_35) ⟨by decide +kernel, by decide +kernel, by decide +kernel⟩ rfl d_Shipped_head_4 rfl (Nat.le_of_ble_eq_true rfl) ⟨by decide, by decide⟩ ⟨by decide, by decide⟩ ⟨by decide, by decide⟩ (mv_noH hno _) (fun σ4 h4 => ?_)
  obtain ⟨f4, hQ⟩ := h4
  have hF := hF.tr f4
  refine mv_aload_n (pc := 7) B d_Shipped_head_7 rfl 0 rfl ?_
  refine mv_aload_n (pc := 8) B d_Shipped_head_8 rfl 1 rfl ?_
  refine mv_callVv (pc := 9) (n := 1) (ci := 10) (C := R_Shipped) B (mK_ok sk sv) hNs rfl rfl (c_Shipped_put_k l hi _ i1 _ hi1 hQ) rfl (ma_goodc kc_Shipped_put) (B.2.2.2.1 _ k_541) (B.2.2.2.1 _ k_543) (B.2.2.2.1 _ ks_3) (B.2.2.2.1 _ k_35) ⟨by decide +kernel, by decide +kernel, by decide +kernel⟩ rfl d_Shipped_head_9 rfl (Nat.le_of_ble_eq_true rfl) ⟨by decide, by decide⟩ ⟨by decide, by decide⟩ ⟨by decide, by decide⟩ (mv_noH hno _) (fun σ9 h9 => ?_)
  obtain ⟨f9, hQ⟩ := h9
  have hF := hF.tr f9
  refine mv_aload_n (pc := 12) B d_Shipped_head_12 rfl 0 rfl ?_
  refine mv_ldcwS (pc := 13) B (hNs.2.1 157 (by decide)).1 d_Shipped_head_13 ?_
  refine mv_callVv (pc := 16) (n := 1) (ci := 10) (C := R_Shipped) B (mK_ok sk sv) hNs rfl rfl (c_Shipped_put_k l hi _ 157 _ (by decide) hQ) rfl (ma_goodc kc_Shipped_put) (B.2.2.2.1 _ k_541) (B.2.2.2.1 _ k_543) (B.2.2.2.1 _ ks_3) (B.2.2.2.1 _ k_35) ⟨by decide +kernel, by decide +kernel, by decide +kernel⟩ rfl d_Shipped_head_16 rfl (Nat.le_of_ble_eq_true rfl) ⟨by decide, by decide⟩ ⟨by decide, by decide⟩ ⟨by decide, by decide⟩ (mv_noH hno _) (fun σ16 h16 => ?_)
  obtain ⟨f16, hQ⟩ := h16
  have hF := hF.tr f16
  refine mv_aload_n (pc := 19) B d_Shipped_head_19 rfl 0 rfl ?_
  refine mv_aload_n (pc := 20) B d_Shipped_head_20 rfl 2 rfl ?_
  refine mv_callVv (pc := 21) (n := 1) (ci := 10) (C := R_Shipped) B (mK_ok sk sv) hNs rfl rfl (c_Shipped_put_k l hi _ i2 _ hi2 hQ) rfl (ma_goodc kc_Shipped_put) (B.2.2.2.1 _ k_541) (B.2.2.2.1 _ k_543) (B.2.2.2.1 _ ks_3) (B.2.2.2.1 _ k_35) ⟨by decide +kernel, by decide +kernel, by decide +kernel⟩ rfl d_Shipped_head_21 rfl (Nat.le_of_ble_eq_true rfl) ⟨by decide, by decide⟩ ⟨by decide, by decide⟩ ⟨by decide, by decide⟩ (mv_noH hno _) (fun σ21 h21 => ?_)
  obtain ⟨f21, hQ⟩ := h21
  have hF := hF.tr f21
  refine mv_aload_n (pc := 24) B d_Shipped_head_24 rfl 0 rfl ?_
  refine mv_aload_n (pc := 25) B d_Shipped_head_25 rfl 3 rfl ?_
  refine mv_callVv (pc := 26) (n := 1) (ci := 10) (C := R_Shipped) B (mK_ok sk sv) hNs rfl rfl (c_Shipped_put_k l hi _ i3 _ hi3 hQ) rfl (ma_goodc kc_Shipped_put) (B.2.2.2.1 _ k_541) (B.2.2.2.1 _ k_543) (B.2.2.2.1 _ ks_3) (B.2.2.2.1 _ k_35) ⟨by decide +kernel, by decide +kernel, by decide +kernel⟩ rfl d_Shipped_head_26 rfl (Nat.le_of_ble_eq_true rfl) ⟨by decide, by decide⟩ ⟨by decide, by decide⟩ ⟨by decide, by decide⟩ (mv_noH hno _) (fun σ26 h26 => ?_)
  obtain ⟨f26, hQ⟩ := h26
  have hF := hF.tr f26
  refine mv_aload_n (pc := 29) B d_Shipped_head_29 rfl 0 rfl ?_
  refine mv_aload (pc := 30) B d_Shipped_head_30 4 rfl ?_
  refine mv_callVv (pc := 32) (n := 1) (ci := 10) (C := R_Shipped) B (mK_ok sk sv) hNs rfl rfl (c_Shipped_put_k l hi _ i4 _ hi4 hQ) rfl (ma_goodc kc_Shipped_put) (B.2.2.2.1 _ k_541) (B.2.2.2.1 _ k_543) (B.2.2.2.1 _ ks_3) (B.2.2.2.1 _ k_35) ⟨by decide +kernel, by decide +kernel, by decide +kernel⟩ rfl d_Shipped_head_32 rfl (Nat.le_of_ble_eq_true rfl) ⟨by decide, by decide⟩ ⟨by decide, by decide⟩ ⟨by decide, by decide⟩ (mv_noH hno _) (fun σ32 h32 => ?_)
  obtain ⟨f32, hQ⟩ := h32
  have hF := hF.tr f32
  refine mv_aload_n (pc := 35) B d_Shipped_head_35 rfl 0 rfl ?_
  refine mv_ldcwS (pc := 36) B (hNs.2.1 158 (by decide)).1 d_Shipped_head_36 ?_
  refine mv_callVv (pc := 39) (n := 1) (ci := 10) (C := R_Shipped) B (mK_ok sk sv) hNs rfl rfl (c_Shipped_put_k l hi _ 158 _ (by decide) hQ) rfl (ma_goodc kc_Shipped_put) (B.2.2.2.1 _ k_541) (B.2.2.2.1 _ k_543) (B.2.2.2.1 _ ks_3) (B.2.2.2.1 _ k_35) ⟨by decide +kernel, by decide +kernel, by decide +kernel⟩ rfl d_Shipped_head_39 rfl (Nat.le_of_ble_eq_true rfl) ⟨by decide, by decide⟩ ⟨by decide, by decide⟩ ⟨by decide, by decide⟩ (mv_noH hno _) (fun σ39 h39 => ?_)
  obtain ⟨f39, hQ⟩ := h39
  have hF := hF.tr f39
  exact mv_vret (pc := 42) B hr d_Shipped_head_42 (Nat.le_refl _) (Nat.le_refl _) ⟨rfl, hF, hQ⟩

set_option maxHeartbeats 4000000 in
set_option maxRecDepth 100000 in
theorem c_Shipped_result_k (l : Launch) {dA : FieldType → ClassId} {D : va_G} {al : Nat → Nat} {sk sv : Nat → Nat} (hi : mv_inj (mg dA D al me2)) (σ : mv_H) (i1 : Nat) (q9 : Nat) (hi1 : i1 < st_t.length) (hQ : ShQ σ q9) : mv_C l y_Shipped_result (Cond.code y_Shipped_result b_Shipped_result 2 (Option.none : Option Jvm.ClassFile.FieldType) :: ma) ({ frames := 5, cells := 0, slots := 0, locals := 107 }) (mg dA D al me2) (mK sk sv) [.ref (al 143), .ref (sk i1)] σ (mv_Rv (fun σ1 => ShF σ σ1 ∧ ShQ σ1 (q9 + qs 64 + qs i1 + qs 43))) := by
  refine mv_C.ofV (cc := b_Shipped_result) (nL := 2) (ret := (Option.none : Option Jvm.ClassFile.FieldType)) (by decide +kernel) rfl hi (Nat.le_of_ble_eq_true rfl) ?_
  intro p e s m below meth c B hNs hr hnm hno
  have hF : ShF σ σ := Fr.rf
  refine mv_aload_n (pc := 0) B d_Shipped_result_0 rfl 0 rfl ?_
  refine mv_ldcwS (pc := 1) B (hNs.2.1 64 (by decide)).1 d_Shipped_result_1 ?_
  refine mv_callVv (pc := 4) (n := 1) (ci := 10) (C := R_Shipped) B (mK_ok sk sv) hNs rfl rfl (c_Shipped_put_k l hi _ 64 _ (by decide) hQ) rfl (ma_goodc kc_Shipped_put) (B.2.2.2.1 _ k_541) (B.2.2.2.1 _ k_543) (B.2.2.2.1 _ ks_3) (B.2.2.2.1 _ k_35) ⟨by decide +kernel, by decide +kernel, by decide +kernel⟩ rfl d_Shipped_result_4 rfl (Nat.le_of_ble_eq_true rfl) ⟨by decide, by decide⟩ ⟨by decide, by decide⟩ ⟨by decide, by decide⟩ (mv_noH hno _) (fun σ4 h4 => ?_)
  obtain ⟨f4, hQ⟩ := h4
  have hF := hF.tr f4
  refine mv_aload_n (pc := 7) B d_Shipped_result_7 rfl 0 rfl ?_
  refine mv_aload_n (pc := 8) B d_Shipped_result_8 rfl 1 rfl ?_
  refine mv_callVv (pc := 9) (n := 1) (ci := 10) (C := R_Shipped) B (mK_ok sk sv) hNs rfl rfl (c_Shipped_put_k l hi _ i1 _ hi1 hQ) rfl (ma_goodc kc_Shipped_put) (B.2.2.2.1 _ k_541) (B.2.2.2.1 _ k_543) (B.2.2.2.1 _ ks_3) (B.2.2.2.1 _ k_35) ⟨by decide +kernel, by decide +kernel, by decide +kernel⟩ rfl d_Shipped_result_9 rfl (Nat.le_of_ble_eq_true rfl) ⟨by decide, by decide⟩ ⟨by decide, by decide⟩ ⟨by decide, by decide⟩ (mv_noH hno _) (fun σ9 h9 => ?_)
  obtain ⟨f9, hQ⟩ := h9
  have hF := hF.tr f9
  refine mv_aload_n (pc := 12) B d_Shipped_result_12 rfl 0 rfl ?_
  refine mv_ldcwS (pc := 13) B (hNs.2.1 43 (by decide)).1 d_Shipped_result_13 ?_
  refine mv_callVv (pc := 16) (n := 1) (ci := 10) (C := R_Shipped) B (mK_ok sk sv) hNs rfl rfl (c_Shipped_put_k l hi _ 43 _ (by decide) hQ) rfl (ma_goodc kc_Shipped_put) (B.2.2.2.1 _ k_541) (B.2.2.2.1 _ k_543) (B.2.2.2.1 _ ks_3) (B.2.2.2.1 _ k_35) ⟨by decide +kernel, by decide +kernel, by decide +kernel⟩ rfl d_Shipped_result_16 rfl (Nat.le_of_ble_eq_true rfl) ⟨by decide, by decide⟩ ⟨by decide, by decide⟩ ⟨by decide, by decide⟩ (mv_noH hno _) (fun σ16 h16 => ?_)
  obtain ⟨f16, hQ⟩ := h16
  have hF := hF.tr f16
  exact mv_vret (pc := 19) B hr d_Shipped_result_19 (Nat.le_refl _) (Nat.le_refl _) ⟨rfl, hF, hQ⟩

set_option maxHeartbeats 4000000 in
set_option maxRecDepth 100000 in
theorem c_Shipped_op_k (l : Launch) {dA : FieldType → ClassId} {D : va_G} {al : Nat → Nat} {sk sv : Nat → Nat} (hi : mv_inj (mg dA D al me2)) (σ : mv_H) (i1 : Nat) (i2 : Nat) (i3 : Nat) (q9 : Nat) (hi1 : i1 < st_t.length) (hi2 : i2 < st_t.length) (hi3 : i3 < st_t.length) (hQ : ShQ σ q9) : mv_C l y_Shipped_op (Cond.code y_Shipped_op b_Shipped_op 4 (Option.none : Option Jvm.ClassFile.FieldType) :: ma) ({ frames := 6, cells := 0, slots := 0, locals := 131 }) (mg dA D al me2) (mK sk sv) [.ref (al 143), .ref (sk i1), .ref (sk i2), .ref (sk i3)] σ (mv_Rv (fun σ1 => ShF σ σ1 ∧ ShQ σ1 (q9 + qs 5 + qs i1 + qs 157 + qs i2 + qs 4 + qs 4 + qs 158 + qs i3 + qs 6))) := by
  refine mv_C.ofV (cc := b_Shipped_op) (nL := 4) (ret := (Option.none : Option Jvm.ClassFile.FieldType)) (by decide +kernel) rfl hi (Nat.le_of_ble_eq_true rfl) ?_
  intro p e s m below meth c B hNs hr hnm hno
  have hF : ShF σ σ := Fr.rf
  refine mv_aload_n (pc := 0) B d_Shipped_op_0 rfl 0 rfl ?_
  refine mv_aload_n (pc := 1) B d_Shipped_op_1 rfl 1 rfl ?_
  refine mv_aload_n (pc := 2) B d_Shipped_op_2 rfl 2 rfl ?_
  refine mv_ldcS (pc := 3) B (hNs.2.1 4 (by decide)).1 d_Shipped_op_3 ?_
  refine mv_ldcS (pc := 5) B (hNs.2.1 4 (by decide)).1 d_Shipped_op_5 ?_
  refine mv_callVv (pc := 7) (n := 4) (ci := 10) (C := R_Shipped) B (mK_ok sk sv) hNs rfl rfl (c_Shipped_head_k l hi _ i1 i2 4 4 _ hi1 hi2 (by decide) (by decide) hQ) rfl (ma_goodc kc_Shipped_head) (B.2.2.2.1 _ k_601) (B.2.2.2.1 _ k_603) (B.2.2.2.1 _ ks_5) (B.2.2.2.1 _ k_35) ⟨by decide +kernel, by decide +kernel, by decide +kernel⟩ rfl d_Shipped_op_7 rfl (Nat.le_of_ble_eq_true rfl) ⟨by decide, by decide⟩ ⟨by decide, by decide⟩ ⟨by decide, by decide⟩ (mv_noH hno _) (fun σ7 h7 => ?_)
  obtain ⟨f7, hQ⟩ := h7
  have hF := hF.tr f7
  refine mv_aload_n (pc := 10) B d_Shipped_op_10 rfl 0 rfl ?_
  refine mv_aload_n (pc := 11) B d_Shipped_op_11 rfl 3 rfl ?_
  refine mv_callVv (pc := 12) (n := 1) (ci := 10) (C := R_Shipped) B (mK_ok sk sv) hNs rfl rfl (c_Shipped_put_k l hi _ i3 _ hi3 hQ) rfl (ma_goodc kc_Shipped_put) (B.2.2.2.1 _ k_541) (B.2.2.2.1 _ k_543) (B.2.2.2.1 _ ks_3) (B.2.2.2.1 _ k_35) ⟨by decide +kernel, by decide +kernel, by decide +kernel⟩ rfl d_Shipped_op_12 rfl (Nat.le_of_ble_eq_true rfl) ⟨by decide, by decide⟩ ⟨by decide, by decide⟩ ⟨by decide, by decide⟩ (mv_noH hno _) (fun σ12 h12 => ?_)
  obtain ⟨f12, hQ⟩ := h12
  have hF := hF.tr f12
  refine mv_aload_n (pc := 15) B d_Shipped_op_15 rfl 0 rfl ?_
  refine mv_ldcwS (pc := 16) B (hNs.2.1 6 (by decide)).1 d_Shipped_op_16 ?_
  refine mv_callVv (pc := 19) (n := 1) (ci := 10) (C := R_Shipped) B (mK_ok sk sv) hNs rfl rfl (c_Shipped_put_k l hi _ 6 _ (by decide) hQ) rfl (ma_goodc kc_Shipped_put) (B.2.2.2.1 _ k_541) (B.2.2.2.1 _ k_543) (B.2.2.2.1 _ ks_3) (B.2.2.2.1 _ k_35) ⟨by decide +kernel, by decide +kernel, by decide +kernel⟩ rfl d_Shipped_op_19 rfl (Nat.le_of_ble_eq_true rfl) ⟨by decide, by decide⟩ ⟨by decide, by decide⟩ ⟨by decide, by decide⟩ (mv_noH hno _) (fun σ19 h19 => ?_)
  obtain ⟨f19, hQ⟩ := h19
  have hF := hF.tr f19
  exact mv_vret (pc := 22) B hr d_Shipped_op_22 (Nat.le_refl _) (Nat.le_refl _) ⟨rfl, hF, hQ⟩

set_option maxHeartbeats 4000000 in
set_option maxRecDepth 100000 in
theorem c_Shipped_branch_k (l : Launch) {dA : FieldType → ClassId} {D : va_G} {al : Nat → Nat} {sk sv : Nat → Nat} (hi : mv_inj (mg dA D al me2)) (σ : mv_H) (i1 : Nat) (i2 : Nat) (i3 : Nat) (q9 : Nat) (hi1 : i1 < st_t.length) (hi2 : i2 < st_t.length) (hi3 : i3 < st_t.length) (hQ : ShQ σ q9) : mv_C l y_Shipped_branch (Cond.code y_Shipped_branch b_Shipped_branch 4 (Option.none : Option Jvm.ClassFile.FieldType) :: ma) ({ frames := 6, cells := 0, slots := 0, locals := 131 }) (mg dA D al me2) (mK sk sv) [.ref (al 143), .ref (sk i1), .ref (sk i2), .ref (sk i3)] σ (mv_Rv (fun σ1 => ShF σ σ1 ∧ ShQ σ1 (q9 + qs 5 + qs i1 + qs 157 + qs 19 + qs i2 + qs 20 + qs 158 + qs 21 + qs i3 + qs 22))) := by
  refine mv_C.ofV (cc := b_Shipped_branch) (nL := 4) (ret := (Option.none : Option Jvm.ClassFile.FieldType)) (by decide +kernel) rfl hi (Nat.le_of_ble_eq_true rfl) ?_
  intro p e s m below meth c B hNs hr hnm hno
  have hF : ShF σ σ := Fr.rf
  refine mv_aload_n (pc := 0) B d_Shipped_branch_0 rfl 0 rfl ?_
  refine mv_aload_n (pc := 1) B d_Shipped_branch_1 rfl 1 rfl ?_
  refine mv_ldcwS (pc := 2) B (hNs.2.1 19 (by decide)).1 d_Shipped_branch_2 ?_
  refine mv_aload_n (pc := 5) B d_Shipped_branch_5 rfl 2 rfl ?_
  refine mv_ldcwS (pc := 6) B (hNs.2.1 20 (by decide)).1 d_Shipped_branch_6 ?_
  refine mv_callVv (pc := 9) (n := 4) (ci := 10) (C := R_Shipped) B (mK_ok sk sv) hNs rfl rfl (c_Shipped_head_k l hi _ i1 19 i2 20 _ hi1 (by decide) hi2 (by decide) hQ) rfl (ma_goodc kc_Shipped_head) (B.2.2.2.1 _ k_601) (B.2.2.2.1 _ k_603) (B.2.2.2.1 _ ks_5) (B.2.2.2.1 _ k_35) ⟨by decide +kernel, by decide +kernel, by decide +kernel⟩ rfl d_Shipped_branch_9 rfl (Nat.le_of_ble_eq_true rfl) ⟨by decide, by decide⟩ ⟨by decide, by decide⟩ ⟨by decide, by decide⟩ (mv_noH hno _) (fun σ9 h9 => ?_)
  obtain ⟨f9, hQ⟩ := h9
  have hF := hF.tr f9
  refine mv_aload_n (pc := 12) B d_Shipped_branch_12 rfl 0 rfl ?_
  refine mv_ldcwS (pc := 13) B (hNs.2.1 21 (by decide)).1 d_Shipped_branch_13 ?_
  refine mv_callVv (pc := 16) (n := 1) (ci := 10) (C := R_Shipped) B (mK_ok sk sv) hNs rfl rfl (c_Shipped_put_k l hi _ 21 _ (by decide) hQ) rfl (ma_goodc kc_Shipped_put) (B.2.2.2.1 _ k_541) (B.2.2.2.1 _ k_543) (B.2.2.2.1 _ ks_3) (B.2.2.2.1 _ k_35) ⟨by decide +kernel, by decide +kernel, by decide +kernel⟩ rfl d_Shipped_branch_16 rfl (Nat.le_of_ble_eq_true rfl) ⟨by decide, by decide⟩ ⟨by decide, by decide⟩ ⟨by decide, by decide⟩ (mv_noH hno _) (fun σ16 h16 => ?_)
  obtain ⟨f16, hQ⟩ := h16
  have hF := hF.tr f16
  refine mv_aload_n (pc := 19) B d_Shipped_branch_19 rfl 0 rfl ?_
  refine mv_aload_n (pc := 20) B d_Shipped_branch_20 rfl 3 rfl ?_
  refine mv_callVv (pc := 21) (n := 1) (ci := 10) (C := R_Shipped) B (mK_ok sk sv) hNs rfl rfl (c_Shipped_put_k l hi _ i3 _ hi3 hQ) rfl (ma_goodc kc_Shipped_put) (B.2.2.2.1 _ k_541) (B.2.2.2.1 _ k_543) (B.2.2.2.1 _ ks_3) (B.2.2.2.1 _ k_35) ⟨by decide +kernel, by decide +kernel, by decide +kernel⟩ rfl d_Shipped_branch_21 rfl (Nat.le_of_ble_eq_true rfl) ⟨by decide, by decide⟩ ⟨by decide, by decide⟩ ⟨by decide, by decide⟩ (mv_noH hno _) (fun σ21 h21 => ?_)
  obtain ⟨f21, hQ⟩ := h21
  have hF := hF.tr f21
  refine mv_aload_n (pc := 24) B d_Shipped_branch_24 rfl 0 rfl ?_
  refine mv_ldcwS (pc := 25) B (hNs.2.1 22 (by decide)).1 d_Shipped_branch_25 ?_
  refine mv_callVv (pc := 28) (n := 1) (ci := 10) (C := R_Shipped) B (mK_ok sk sv) hNs rfl rfl (c_Shipped_put_k l hi _ 22 _ (by decide) hQ) rfl (ma_goodc kc_Shipped_put) (B.2.2.2.1 _ k_541) (B.2.2.2.1 _ k_543) (B.2.2.2.1 _ ks_3) (B.2.2.2.1 _ k_35) ⟨by decide +kernel, by decide +kernel, by decide +kernel⟩ rfl d_Shipped_branch_28 rfl (Nat.le_of_ble_eq_true rfl) ⟨by decide, by decide⟩ ⟨by decide, by decide⟩ ⟨by decide, by decide⟩ (mv_noH hno _) (fun σ28 h28 => ?_)
  obtain ⟨f28, hQ⟩ := h28
  have hF := hF.tr f28
  exact mv_vret (pc := 31) B hr d_Shipped_branch_31 (Nat.le_refl _) (Nat.le_refl _) ⟨rfl, hF, hQ⟩

set_option maxHeartbeats 4000000 in
set_option maxRecDepth 100000 in
theorem c_Shipped_load_k (l : Launch) {dA : FieldType → ClassId} {D : va_G} {al : Nat → Nat} {sk sv : Nat → Nat} (hi : mv_inj (mg dA D al me2)) (σ : mv_H) (i1 : Nat) (i2 : Nat) (i3 : Nat) (q9 : Nat) (hi1 : i1 < st_t.length) (hi2 : i2 < st_t.length) (hi3 : i3 < st_t.length) (hQ : ShQ σ q9) : mv_C l y_Shipped_load (Cond.code y_Shipped_load b_Shipped_load 4 (Option.none : Option Jvm.ClassFile.FieldType) :: ma) ({ frames := 6, cells := 0, slots := 0, locals := 131 }) (mg dA D al me2) (mK sk sv) [.ref (al 143), .ref (sk i1), .ref (sk i2), .ref (sk i3)] σ (mv_Rv (fun σ1 => ShF σ σ1 ∧ ShQ σ1 (q9 + qs 5 + qs i1 + qs 157 + qs 40 + qs i2 + qs 41 + qs 158 + qs 42 + qs i3 + qs 43))) := by
  refine mv_C.ofV (cc := b_Shipped_load) (nL := 4) (ret := (Option.none : Option Jvm.ClassFile.FieldType)) (by decide +kernel) rfl hi (Nat.le_of_ble_eq_true rfl) ?_
  intro p e s m below meth c B hNs hr hnm hno
  have hF : ShF σ σ := Fr.rf
  refine mv_aload_n (pc := 0) B d_Shipped_load_0 rfl 0 rfl ?_
  refine mv_aload_n (pc := 1) B d_Shipped_load_1 rfl 1 rfl ?_
  refine mv_ldcwS (pc := 2) B (hNs.2.1 40 (by decide)).1 d_Shipped_load_2 ?_
  refine mv_aload_n (pc := 5) B d_Shipped_load_5 rfl 2 rfl ?_
  refine mv_ldcwS (pc := 6) B (hNs.2.1 41 (by decide)).1 d_Shipped_load_6 ?_
  refine mv_callVv (pc := 9) (n := 4) (ci := 10) (C := R_Shipped) B (mK_ok sk sv) hNs rfl rfl (c_Shipped_head_k l hi _ i1 40 i2 41 _ hi1 (by decide) hi2 (by decide) hQ) rfl (ma_goodc kc_Shipped_head) (B.2.2.2.1 _ k_601) (B.2.2.2.1 _ k_603) (B.2.2.2.1 _ ks_5) (B.2.2.2.1 _ k_35) ⟨by decide +kernel, by decide +kernel, by decide +kernel⟩ rfl d_Shipped_load_9 rfl (Nat.le_of_ble_eq_true rfl) ⟨by decide, by decide⟩ ⟨by decide, by decide⟩ ⟨by decide, by decide⟩ (mv_noH hno _) (fun σ9 h9 => ?_)
  obtain ⟨f9, hQ⟩ := h9
  have hF := hF.tr f9
  refine mv_aload_n (pc := 12) B d_Shipped_load_12 rfl 0 rfl ?_
  refine mv_ldcwS (pc := 13) B (hNs.2.1 42 (by decide)).1 d_Shipped_load_13 ?_
  refine mv_callVv (pc := 16) (n := 1) (ci := 10) (C := R_Shipped) B (mK_ok sk sv) hNs rfl rfl (c_Shipped_put_k l hi _ 42 _ (by decide) hQ) rfl (ma_goodc kc_Shipped_put) (B.2.2.2.1 _ k_541) (B.2.2.2.1 _ k_543) (B.2.2.2.1 _ ks_3) (B.2.2.2.1 _ k_35) ⟨by decide +kernel, by decide +kernel, by decide +kernel⟩ rfl d_Shipped_load_16 rfl (Nat.le_of_ble_eq_true rfl) ⟨by decide, by decide⟩ ⟨by decide, by decide⟩ ⟨by decide, by decide⟩ (mv_noH hno _) (fun σ16 h16 => ?_)
  obtain ⟨f16, hQ⟩ := h16
  have hF := hF.tr f16
  refine mv_aload_n (pc := 19) B d_Shipped_load_19 rfl 0 rfl ?_
  refine mv_aload_n (pc := 20) B d_Shipped_load_20 rfl 3 rfl ?_
  refine mv_callVv (pc := 21) (n := 1) (ci := 10) (C := R_Shipped) B (mK_ok sk sv) hNs rfl rfl (c_Shipped_put_k l hi _ i3 _ hi3 hQ) rfl (ma_goodc kc_Shipped_put) (B.2.2.2.1 _ k_541) (B.2.2.2.1 _ k_543) (B.2.2.2.1 _ ks_3) (B.2.2.2.1 _ k_35) ⟨by decide +kernel, by decide +kernel, by decide +kernel⟩ rfl d_Shipped_load_21 rfl (Nat.le_of_ble_eq_true rfl) ⟨by decide, by decide⟩ ⟨by decide, by decide⟩ ⟨by decide, by decide⟩ (mv_noH hno _) (fun σ21 h21 => ?_)
  obtain ⟨f21, hQ⟩ := h21
  have hF := hF.tr f21
  refine mv_aload_n (pc := 24) B d_Shipped_load_24 rfl 0 rfl ?_
  refine mv_ldcwS (pc := 25) B (hNs.2.1 43 (by decide)).1 d_Shipped_load_25 ?_
  refine mv_callVv (pc := 28) (n := 1) (ci := 10) (C := R_Shipped) B (mK_ok sk sv) hNs rfl rfl (c_Shipped_put_k l hi _ 43 _ (by decide) hQ) rfl (ma_goodc kc_Shipped_put) (B.2.2.2.1 _ k_541) (B.2.2.2.1 _ k_543) (B.2.2.2.1 _ ks_3) (B.2.2.2.1 _ k_35) ⟨by decide +kernel, by decide +kernel, by decide +kernel⟩ rfl d_Shipped_load_28 rfl (Nat.le_of_ble_eq_true rfl) ⟨by decide, by decide⟩ ⟨by decide, by decide⟩ ⟨by decide, by decide⟩ (mv_noH hno _) (fun σ28 h28 => ?_)
  obtain ⟨f28, hQ⟩ := h28
  have hF := hF.tr f28
  exact mv_vret (pc := 31) B hr d_Shipped_load_31 (Nat.le_refl _) (Nat.le_refl _) ⟨rfl, hF, hQ⟩

set_option maxHeartbeats 4000000 in
set_option maxRecDepth 100000 in
theorem c_Shipped_store_k (l : Launch) {dA : FieldType → ClassId} {D : va_G} {al : Nat → Nat} {sk sv : Nat → Nat} (hi : mv_inj (mg dA D al me2)) (σ : mv_H) (i1 : Nat) (i2 : Nat) (i3 : Nat) (q9 : Nat) (hi1 : i1 < st_t.length) (hi2 : i2 < st_t.length) (hi3 : i3 < st_t.length) (hQ : ShQ σ q9) : mv_C l y_Shipped_store (Cond.code y_Shipped_store b_Shipped_store 4 (Option.none : Option Jvm.ClassFile.FieldType) :: ma) ({ frames := 6, cells := 0, slots := 0, locals := 131 }) (mg dA D al me2) (mK sk sv) [.ref (al 143), .ref (sk i1), .ref (sk i2), .ref (sk i3)] σ (mv_Rv (fun σ1 => ShF σ σ1 ∧ ShQ σ1 (q9 + qs 5 + qs i1 + qs 157 + qs 54 + qs i2 + qs 55 + qs 158 + qs 56 + qs i3 + qs 6))) := by
  refine mv_C.ofV (cc := b_Shipped_store) (nL := 4) (ret := (Option.none : Option Jvm.ClassFile.FieldType)) (by decide +kernel) rfl hi (Nat.le_of_ble_eq_true rfl) ?_
  intro p e s m below meth c B hNs hr hnm hno
  have hF : ShF σ σ := Fr.rf
  refine mv_aload_n (pc := 0) B d_Shipped_store_0 rfl 0 rfl ?_
  refine mv_aload_n (pc := 1) B d_Shipped_store_1 rfl 1 rfl ?_
  refine mv_ldcwS (pc := 2) B (hNs.2.1 54 (by decide)).1 d_Shipped_store_2 ?_
  refine mv_aload_n (pc := 5) B d_Shipped_store_5 rfl 2 rfl ?_
  refine mv_ldcwS (pc := 6) B (hNs.2.1 55 (by decide)).1 d_Shipped_store_6 ?_
  refine mv_callVv (pc := 9) (n := 4) (ci := 10) (C := R_Shipped) B (mK_ok sk sv) hNs rfl rfl (c_Shipped_head_k l hi _ i1 54 i2 55 _ hi1 (by decide) hi2 (by decide) hQ) rfl (ma_goodc kc_Shipped_head) (B.2.2.2.1 _ k_601) (B.2.2.2.1 _ k_603) (B.2.2.2.1 _ ks_5) (B.2.2.2.1 _ k_35) ⟨by decide +kernel, by decide +kernel, by decide +kernel⟩ rfl d_Shipped_store_9 rfl (Nat.le_of_ble_eq_true rfl) ⟨by decide, by decide⟩ ⟨by decide, by decide⟩ ⟨by decide, by decide⟩ (mv_noH hno _) (fun σ9 h9 => ?_)
  obtain ⟨f9, hQ⟩ := h9
  have hF := hF.tr f9
  refine mv_aload_n (pc := 12) B d_Shipped_store_12 rfl 0 rfl ?_
  refine mv_ldcwS (pc := 13) B (hNs.2.1 56 (by decide)).1 d_Shipped_store_13 ?_
  refine mv_callVv (pc := 16) (n := 1) (ci := 10) (C := R_Shipped) B (mK_ok sk sv) hNs rfl rfl (c_Shipped_put_k l hi _ 56 _ (by decide) hQ) rfl (ma_goodc kc_Shipped_put) (B.2.2.2.1 _ k_541) (B.2.2.2.1 _ k_543) (B.2.2.2.1 _ ks_3) (B.2.2.2.1 _ k_35) ⟨by decide +kernel, by decide +kernel, by decide +kernel⟩ rfl d_Shipped_store_16 rfl (Nat.le_of_ble_eq_true rfl) ⟨by decide, by decide⟩ ⟨by decide, by decide⟩ ⟨by decide, by decide⟩ (mv_noH hno _) (fun σ16 h16 => ?_)
  obtain ⟨f16, hQ⟩ := h16
  have hF := hF.tr f16
  refine mv_aload_n (pc := 19) B d_Shipped_store_19 rfl 0 rfl ?_
  refine mv_aload_n (pc := 20) B d_Shipped_store_20 rfl 3 rfl ?_
  refine mv_callVv (pc := 21) (n := 1) (ci := 10) (C := R_Shipped) B (mK_ok sk sv) hNs rfl rfl (c_Shipped_put_k l hi _ i3 _ hi3 hQ) rfl (ma_goodc kc_Shipped_put) (B.2.2.2.1 _ k_541) (B.2.2.2.1 _ k_543) (B.2.2.2.1 _ ks_3) (B.2.2.2.1 _ k_35) ⟨by decide +kernel, by decide +kernel, by decide +kernel⟩ rfl d_Shipped_store_21 rfl (Nat.le_of_ble_eq_true rfl) ⟨by decide, by decide⟩ ⟨by decide, by decide⟩ ⟨by decide, by decide⟩ (mv_noH hno _) (fun σ21 h21 => ?_)
  obtain ⟨f21, hQ⟩ := h21
  have hF := hF.tr f21
  refine mv_aload_n (pc := 24) B d_Shipped_store_24 rfl 0 rfl ?_
  refine mv_ldcwS (pc := 25) B (hNs.2.1 6 (by decide)).1 d_Shipped_store_25 ?_
  refine mv_callVv (pc := 28) (n := 1) (ci := 10) (C := R_Shipped) B (mK_ok sk sv) hNs rfl rfl (c_Shipped_put_k l hi _ 6 _ (by decide) hQ) rfl (ma_goodc kc_Shipped_put) (B.2.2.2.1 _ k_541) (B.2.2.2.1 _ k_543) (B.2.2.2.1 _ ks_3) (B.2.2.2.1 _ k_35) ⟨by decide +kernel, by decide +kernel, by decide +kernel⟩ rfl d_Shipped_store_28 rfl (Nat.le_of_ble_eq_true rfl) ⟨by decide, by decide⟩ ⟨by decide, by decide⟩ ⟨by decide, by decide⟩ (mv_noH hno _) (fun σ28 h28 => ?_)
  obtain ⟨f28, hQ⟩ := h28
  have hF := hF.tr f28
  exact mv_vret (pc := 31) B hr d_Shipped_store_31 (Nat.le_refl _) (Nat.le_refl _) ⟨rfl, hF, hQ⟩

set_option maxHeartbeats 4000000 in
set_option maxRecDepth 100000 in
theorem c_Shipped_constant_k (l : Launch) {dA : FieldType → ClassId} {D : va_G} {al : Nat → Nat} {sk sv : Nat → Nat} (hi : mv_inj (mg dA D al me2)) (σ : mv_H) (i1 : Nat) (i2 : Nat) (i3 : Nat) (q9 : Nat) (hi1 : i1 < st_t.length) (hi2 : i2 < st_t.length) (hi3 : i3 < st_t.length) (hQ : ShQ σ q9) : mv_C l y_Shipped_constant (Cond.code y_Shipped_constant b_Shipped_constant 4 (Option.none : Option Jvm.ClassFile.FieldType) :: ma) ({ frames := 6, cells := 0, slots := 0, locals := 131 }) (mg dA D al me2) (mK sk sv) [.ref (al 143), .ref (sk i1), .ref (sk i2), .ref (sk i3)] σ (mv_Rv (fun σ1 => ShF σ σ1 ∧ ShQ σ1 (q9 + qs 5 + qs i1 + qs 157 + qs 40 + qs i2 + qs 63 + qs 158 + qs 64 + qs i3 + qs 43))) := by
  refine mv_C.ofV (cc := b_Shipped_constant) (nL := 4) (ret := (Option.none : Option Jvm.ClassFile.FieldType)) (by decide +kernel) rfl hi (Nat.le_of_ble_eq_true rfl) ?_
  intro p e s m below meth c B hNs hr hnm hno
  have hF : ShF σ σ := Fr.rf
  refine mv_aload_n (pc := 0) B d_Shipped_constant_0 rfl 0 rfl ?_
  refine mv_aload_n (pc := 1) B d_Shipped_constant_1 rfl 1 rfl ?_
  refine mv_ldcwS (pc := 2) B (hNs.2.1 40 (by decide)).1 d_Shipped_constant_2 ?_
  refine mv_aload_n (pc := 5) B d_Shipped_constant_5 rfl 2 rfl ?_
  refine mv_ldcwS (pc := 6) B (hNs.2.1 63 (by decide)).1 d_Shipped_constant_6 ?_
  refine mv_callVv (pc := 9) (n := 4) (ci := 10) (C := R_Shipped) B (mK_ok sk sv) hNs rfl rfl (c_Shipped_head_k l hi _ i1 40 i2 63 _ hi1 (by decide) hi2 (by decide) hQ) rfl (ma_goodc kc_Shipped_head) (B.2.2.2.1 _ k_601) (B.2.2.2.1 _ k_603) (B.2.2.2.1 _ ks_5) (B.2.2.2.1 _ k_35) ⟨by decide +kernel, by decide +kernel, by decide +kernel⟩ rfl d_Shipped_constant_9 rfl (Nat.le_of_ble_eq_true rfl) ⟨by decide, by decide⟩ ⟨by decide, by decide⟩ ⟨by decide, by decide⟩ (mv_noH hno _) (fun σ9 h9 => ?_)
  obtain ⟨f9, hQ⟩ := h9
  have hF := hF.tr f9
  refine mv_aload_n (pc := 12) B d_Shipped_constant_12 rfl 0 rfl ?_
  refine mv_aload_n (pc := 13) B d_Shipped_constant_13 rfl 3 rfl ?_
  refine mv_callVv (pc := 14) (n := 1) (ci := 10) (C := R_Shipped) B (mK_ok sk sv) hNs rfl rfl (c_Shipped_result_k l hi _ i3 _ hi3 hQ) rfl (ma_goodc kc_Shipped_result) (B.2.2.2.1 _ k_686) (B.2.2.2.1 _ k_688) (B.2.2.2.1 _ ks_11) (B.2.2.2.1 _ k_35) ⟨by decide +kernel, by decide +kernel, by decide +kernel⟩ rfl d_Shipped_constant_14 rfl (Nat.le_of_ble_eq_true rfl) ⟨by decide, by decide⟩ ⟨by decide, by decide⟩ ⟨by decide, by decide⟩ (mv_noH hno _) (fun σ14 h14 => ?_)
  obtain ⟨f14, hQ⟩ := h14
  have hF := hF.tr f14
  exact mv_vret (pc := 17) B hr d_Shipped_constant_17 (Nat.le_refl _) (Nat.le_refl _) ⟨rfl, hF, hQ⟩

set_option maxHeartbeats 4000000 in
set_option maxRecDepth 100000 in
theorem c_Shipped_shift_k (l : Launch) {dA : FieldType → ClassId} {D : va_G} {al : Nat → Nat} {sk sv : Nat → Nat} (hi : mv_inj (mg dA D al me2)) (σ : mv_H) (i1 : Nat) (i2 : Nat) (i3 : Nat) (i4 : Nat) (q9 : Nat) (hi1 : i1 < st_t.length) (hi2 : i2 < st_t.length) (hi3 : i3 < st_t.length) (hi4 : i4 < st_t.length) (hQ : ShQ σ q9) : mv_C l y_Shipped_shift (Cond.code y_Shipped_shift b_Shipped_shift 5 (Option.none : Option Jvm.ClassFile.FieldType) :: ma) ({ frames := 6, cells := 0, slots := 0, locals := 128 }) (mg dA D al me2) (mK sk sv) [.ref (al 143), .ref (sk i1), .ref (sk i2), .ref (sk i3), .ref (sk i4)] σ (mv_Rv (fun σ1 => ShF σ σ1 ∧ ShQ σ1 (q9 + qs 79 + qs i1 + qs 157 + qs i2 + qs 80 + qs i3 + qs 159 + qs 64 + qs i4 + qs 43))) := by
  refine mv_C.ofV (cc := b_Shipped_shift) (nL := 5) (ret := (Option.none : Option Jvm.ClassFile.FieldType)) (by decide +kernel) rfl hi (Nat.le_of_ble_eq_true rfl) ?_
  intro p e s m below meth c B hNs hr hnm hno
  have hF : ShF σ σ := Fr.rf
  refine mv_aload_n (pc := 0) B d_Shipped_shift_0 rfl 0 rfl ?_
  refine mv_ldcwS (pc := 1) B (hNs.2.1 79 (by decide)).1 d_Shipped_shift_1 ?_
  refine mv_callVv (pc := 4) (n := 1) (ci := 10) (C := R_Shipped) B (mK_ok sk sv) hNs rfl rfl (c_Shipped_put_k l hi _ 79 _ (by decide) hQ) rfl (ma_goodc kc_Shipped_put) (B.2.2.2.1 _ k_541) (B.2.2.2.1 _ k_543) (B.2.2.2.1 _ ks_3) (B.2.2.2.1 _ k_35) ⟨by decide +kernel, by decide +kernel, by decide +kernel⟩ rfl d_Shipped_shift_4 rfl (Nat.le_of_ble_eq_true rfl) ⟨by decide, by decide⟩ ⟨by decide, by decide⟩ ⟨by decide, by decide⟩ (mv_noH hno _) (fun σ4 h4 => ?_)
  obtain ⟨f4, hQ⟩ := h4
  have hF := hF.tr f4
  refine mv_aload_n (pc := 7) B d_Shipped_shift_7 rfl 0 rfl ?_
  refine mv_aload_n (pc := 8) B d_Shipped_shift_8 rfl 1 rfl ?_
  refine mv_callVv (pc := 9) (n := 1) (ci := 10) (C := R_Shipped) B (mK_ok sk sv) hNs rfl rfl (c_Shipped_put_k l hi _ i1 _ hi1 hQ) rfl (ma_goodc kc_Shipped_put) (B.2.2.2.1 _ k_541) (B.2.2.2.1 _ k_543) (B.2.2.2.1 _ ks_3) (B.2.2.2.1 _ k_35) ⟨by decide +kernel, by decide +kernel, by decide +kernel⟩ rfl d_Shipped_shift_9 rfl (Nat.le_of_ble_eq_true rfl) ⟨by decide, by decide⟩ ⟨by decide, by decide⟩ ⟨by decide, by decide⟩ (mv_noH hno _) (fun σ9 h9 => ?_)
  obtain ⟨f9, hQ⟩ := h9
  have hF := hF.tr f9
  refine mv_aload_n (pc := 12) B d_Shipped_shift_12 rfl 0 rfl ?_
  refine mv_ldcwS (pc := 13) B (hNs.2.1 157 (by decide)).1 d_Shipped_shift_13 ?_
  refine mv_callVv (pc := 16) (n := 1) (ci := 10) (C := R_Shipped) B (mK_ok sk sv) hNs rfl rfl (c_Shipped_put_k l hi _ 157 _ (by decide) hQ) rfl (ma_goodc kc_Shipped_put) (B.2.2.2.1 _ k_541) (B.2.2.2.1 _ k_543) (B.2.2.2.1 _ ks_3) (B.2.2.2.1 _ k_35) ⟨by decide +kernel, by decide +kernel, by decide +kernel⟩ rfl d_Shipped_shift_16 rfl (Nat.le_of_ble_eq_true rfl) ⟨by decide, by decide⟩ ⟨by decide, by decide⟩ ⟨by decide, by decide⟩ (mv_noH hno _) (fun σ16 h16 => ?_)
  obtain ⟨f16, hQ⟩ := h16
  have hF := hF.tr f16
  refine mv_aload_n (pc := 19) B d_Shipped_shift_19 rfl 0 rfl ?_
  refine mv_aload_n (pc := 20) B d_Shipped_shift_20 rfl 2 rfl ?_
  refine mv_callVv (pc := 21) (n := 1) (ci := 10) (C := R_Shipped) B (mK_ok sk sv) hNs rfl rfl (c_Shipped_put_k l hi _ i2 _ hi2 hQ) rfl (ma_goodc kc_Shipped_put) (B.2.2.2.1 _ k_541) (B.2.2.2.1 _ k_543) (B.2.2.2.1 _ ks_3) (B.2.2.2.1 _ k_35) ⟨by decide +kernel, by decide +kernel, by decide +kernel⟩ rfl d_Shipped_shift_21 rfl (Nat.le_of_ble_eq_true rfl) ⟨by decide, by decide⟩ ⟨by decide, by decide⟩ ⟨by decide, by decide⟩ (mv_noH hno _) (fun σ21 h21 => ?_)
  obtain ⟨f21, hQ⟩ := h21
  have hF := hF.tr f21
  refine mv_aload_n (pc := 24) B d_Shipped_shift_24 rfl 0 rfl ?_
  refine mv_ldcwS (pc := 25) B (hNs.2.1 80 (by decide)).1 d_Shipped_shift_25 ?_
  refine mv_callVv (pc := 28) (n := 1) (ci := 10) (C := R_Shipped) B (mK_ok sk sv) hNs rfl rfl (c_Shipped_put_k l hi _ 80 _ (by decide) hQ) rfl (ma_goodc kc_Shipped_put) (B.2.2.2.1 _ k_541) (B.2.2.2.1 _ k_543) (B.2.2.2.1 _ ks_3) (B.2.2.2.1 _ k_35) ⟨by decide +kernel, by decide +kernel, by decide +kernel⟩ rfl d_Shipped_shift_28 rfl (Nat.le_of_ble_eq_true rfl) ⟨by decide, by decide⟩ ⟨by decide, by decide⟩ ⟨by decide, by decide⟩ (mv_noH hno _) (fun σ28 h28 => ?_)
  obtain ⟨f28, hQ⟩ := h28
  have hF := hF.tr f28
  refine mv_aload_n (pc := 31) B d_Shipped_shift_31 rfl 0 rfl ?_
  refine mv_aload_n (pc := 32) B d_Shipped_shift_32 rfl 3 rfl ?_
  refine mv_callVv (pc := 33) (n := 1) (ci := 10) (C := R_Shipped) B (mK_ok sk sv) hNs rfl rfl (c_Shipped_put_k l hi _ i3 _ hi3 hQ) rfl (ma_goodc kc_Shipped_put) (B.2.2.2.1 _ k_541) (B.2.2.2.1 _ k_543) (B.2.2.2.1 _ ks_3) (B.2.2.2.1 _ k_35) ⟨by decide +kernel, by decide +kernel, by decide +kernel⟩ rfl d_Shipped_shift_33 rfl (Nat.le_of_ble_eq_true rfl) ⟨by decide, by decide⟩ ⟨by decide, by decide⟩ ⟨by decide, by decide⟩ (mv_noH hno _) (fun σ33 h33 => ?_)
  obtain ⟨f33, hQ⟩ := h33
  have hF := hF.tr f33
  refine mv_aload_n (pc := 36) B d_Shipped_shift_36 rfl 0 rfl ?_
  refine mv_ldcwS (pc := 37) B (hNs.2.1 159 (by decide)).1 d_Shipped_shift_37 ?_
  refine mv_callVv (pc := 40) (n := 1) (ci := 10) (C := R_Shipped) B (mK_ok sk sv) hNs rfl rfl (c_Shipped_put_k l hi _ 159 _ (by decide) hQ) rfl (ma_goodc kc_Shipped_put) (B.2.2.2.1 _ k_541) (B.2.2.2.1 _ k_543) (B.2.2.2.1 _ ks_3) (B.2.2.2.1 _ k_35) ⟨by decide +kernel, by decide +kernel, by decide +kernel⟩ rfl d_Shipped_shift_40 rfl (Nat.le_of_ble_eq_true rfl) ⟨by decide, by decide⟩ ⟨by decide, by decide⟩ ⟨by decide, by decide⟩ (mv_noH hno _) (fun σ40 h40 => ?_)
  obtain ⟨f40, hQ⟩ := h40
  have hF := hF.tr f40
  refine mv_aload_n (pc := 43) B d_Shipped_shift_43 rfl 0 rfl ?_
  refine mv_aload (pc := 44) B d_Shipped_shift_44 4 rfl ?_
  refine mv_callVv (pc := 46) (n := 1) (ci := 10) (C := R_Shipped) B (mK_ok sk sv) hNs rfl rfl (c_Shipped_result_k l hi _ i4 _ hi4 hQ) rfl (ma_goodc kc_Shipped_result) (B.2.2.2.1 _ k_686) (B.2.2.2.1 _ k_688) (B.2.2.2.1 _ ks_11) (B.2.2.2.1 _ k_35) ⟨by decide +kernel, by decide +kernel, by decide +kernel⟩ rfl d_Shipped_shift_46 rfl (Nat.le_of_ble_eq_true rfl) ⟨by decide, by decide⟩ ⟨by decide, by decide⟩ ⟨by decide, by decide⟩ (mv_noH hno _) (fun σ46 h46 => ?_)
  obtain ⟨f46, hQ⟩ := h46
  have hF := hF.tr f46
  exact mv_vret (pc := 49) B hr d_Shipped_shift_49 (Nat.le_refl _) (Nat.le_refl _) ⟨rfl, hF, hQ⟩

set_option maxHeartbeats 4000000 in
set_option maxRecDepth 100000 in
theorem c_Shipped_ofTwo_k (l : Launch) {dA : FieldType → ClassId} {D : va_G} {al : Nat → Nat} {sk sv : Nat → Nat} (hi : mv_inj (mg dA D al me2)) (σ : mv_H) (i1 : Nat) (i2 : Nat) (i3 : Nat) (i4 : Nat) (q9 : Nat) (hi1 : i1 < st_t.length) (hi2 : i2 < st_t.length) (hi3 : i3 < st_t.length) (hi4 : i4 < st_t.length) (hQ : ShQ σ q9) : mv_C l y_Shipped_ofTwo (Cond.code y_Shipped_ofTwo b_Shipped_ofTwo 5 (Option.none : Option Jvm.ClassFile.FieldType) :: ma) ({ frames := 6, cells := 0, slots := 0, locals := 128 }) (mg dA D al me2) (mK sk sv) [.ref (al 143), .ref (sk i1), .ref (sk i2), .ref (sk i3), .ref (sk i4)] σ (mv_Rv (fun σ1 => ShF σ σ1 ∧ ShQ σ1 (q9 + qs 79 + qs i1 + qs 157 + qs i2 + qs 88 + qs i3 + qs 160 + qs 64 + qs i4 + qs 43))) := by
  refine mv_C.ofV (cc := b_Shipped_ofTwo) (nL := 5) (ret := (Option.none : Option Jvm.ClassFile.FieldType)) (by decide +kernel) rfl hi (Nat.le_of_ble_eq_true rfl) ?_
  intro p e s m below meth c B hNs hr hnm hno
  have hF : ShF σ σ := Fr.rf
  refine mv_aload_n (pc := 0) B d_Shipped_ofTwo_0 rfl 0 rfl ?_
  refine mv_ldcwS (pc := 1) B (hNs.2.1 79 (by decide)).1 d_Shipped_ofTwo_1 ?_
  refine mv_callVv (pc := 4) (n := 1) (ci := 10) (C := R_Shipped) B (mK_ok sk sv) hNs rfl rfl (c_Shipped_put_k l hi _ 79 _ (by decide) hQ) rfl (ma_goodc kc_Shipped_put) (B.2.2.2.1 _ k_541) (B.2.2.2.1 _ k_543) (B.2.2.2.1 _ ks_3) (B.2.2.2.1 _ k_35) ⟨by decide +kernel, by decide +kernel, by decide +kernel⟩ rfl d_Shipped_ofTwo_4 rfl (Nat.le_of_ble_eq_true rfl) ⟨by decide, by decide⟩ ⟨by decide, by decide⟩ ⟨by decide, by decide⟩ (mv_noH hno _) (fun σ4 h4 => ?_)
  obtain ⟨f4, hQ⟩ := h4
  have hF := hF.tr f4
  refine mv_aload_n (pc := 7) B d_Shipped_ofTwo_7 rfl 0 rfl ?_
  refine mv_aload_n (pc := 8) B d_Shipped_ofTwo_8 rfl 1 rfl ?_
  refine mv_callVv (pc := 9) (n := 1) (ci := 10) (C := R_Shipped) B (mK_ok sk sv) hNs rfl rfl (c_Shipped_put_k l hi _ i1 _ hi1 hQ) rfl (ma_goodc kc_Shipped_put) (B.2.2.2.1 _ k_541) (B.2.2.2.1 _ k_543) (B.2.2.2.1 _ ks_3) (B.2.2.2.1 _ k_35) ⟨by decide +kernel, by decide +kernel, by decide +kernel⟩ rfl d_Shipped_ofTwo_9 rfl (Nat.le_of_ble_eq_true rfl) ⟨by decide, by decide⟩ ⟨by decide, by decide⟩ ⟨by decide, by decide⟩ (mv_noH hno _) (fun σ9 h9 => ?_)
  obtain ⟨f9, hQ⟩ := h9
  have hF := hF.tr f9
  refine mv_aload_n (pc := 12) B d_Shipped_ofTwo_12 rfl 0 rfl ?_
  refine mv_ldcwS (pc := 13) B (hNs.2.1 157 (by decide)).1 d_Shipped_ofTwo_13 ?_
  refine mv_callVv (pc := 16) (n := 1) (ci := 10) (C := R_Shipped) B (mK_ok sk sv) hNs rfl rfl (c_Shipped_put_k l hi _ 157 _ (by decide) hQ) rfl (ma_goodc kc_Shipped_put) (B.2.2.2.1 _ k_541) (B.2.2.2.1 _ k_543) (B.2.2.2.1 _ ks_3) (B.2.2.2.1 _ k_35) ⟨by decide +kernel, by decide +kernel, by decide +kernel⟩ rfl d_Shipped_ofTwo_16 rfl (Nat.le_of_ble_eq_true rfl) ⟨by decide, by decide⟩ ⟨by decide, by decide⟩ ⟨by decide, by decide⟩ (mv_noH hno _) (fun σ16 h16 => ?_)
  obtain ⟨f16, hQ⟩ := h16
  have hF := hF.tr f16
  refine mv_aload_n (pc := 19) B d_Shipped_ofTwo_19 rfl 0 rfl ?_
  refine mv_aload_n (pc := 20) B d_Shipped_ofTwo_20 rfl 2 rfl ?_
  refine mv_callVv (pc := 21) (n := 1) (ci := 10) (C := R_Shipped) B (mK_ok sk sv) hNs rfl rfl (c_Shipped_put_k l hi _ i2 _ hi2 hQ) rfl (ma_goodc kc_Shipped_put) (B.2.2.2.1 _ k_541) (B.2.2.2.1 _ k_543) (B.2.2.2.1 _ ks_3) (B.2.2.2.1 _ k_35) ⟨by decide +kernel, by decide +kernel, by decide +kernel⟩ rfl d_Shipped_ofTwo_21 rfl (Nat.le_of_ble_eq_true rfl) ⟨by decide, by decide⟩ ⟨by decide, by decide⟩ ⟨by decide, by decide⟩ (mv_noH hno _) (fun σ21 h21 => ?_)
  obtain ⟨f21, hQ⟩ := h21
  have hF := hF.tr f21
  refine mv_aload_n (pc := 24) B d_Shipped_ofTwo_24 rfl 0 rfl ?_
  refine mv_ldcwS (pc := 25) B (hNs.2.1 88 (by decide)).1 d_Shipped_ofTwo_25 ?_
  refine mv_callVv (pc := 28) (n := 1) (ci := 10) (C := R_Shipped) B (mK_ok sk sv) hNs rfl rfl (c_Shipped_put_k l hi _ 88 _ (by decide) hQ) rfl (ma_goodc kc_Shipped_put) (B.2.2.2.1 _ k_541) (B.2.2.2.1 _ k_543) (B.2.2.2.1 _ ks_3) (B.2.2.2.1 _ k_35) ⟨by decide +kernel, by decide +kernel, by decide +kernel⟩ rfl d_Shipped_ofTwo_28 rfl (Nat.le_of_ble_eq_true rfl) ⟨by decide, by decide⟩ ⟨by decide, by decide⟩ ⟨by decide, by decide⟩ (mv_noH hno _) (fun σ28 h28 => ?_)
  obtain ⟨f28, hQ⟩ := h28
  have hF := hF.tr f28
  refine mv_aload_n (pc := 31) B d_Shipped_ofTwo_31 rfl 0 rfl ?_
  refine mv_aload_n (pc := 32) B d_Shipped_ofTwo_32 rfl 3 rfl ?_
  refine mv_callVv (pc := 33) (n := 1) (ci := 10) (C := R_Shipped) B (mK_ok sk sv) hNs rfl rfl (c_Shipped_put_k l hi _ i3 _ hi3 hQ) rfl (ma_goodc kc_Shipped_put) (B.2.2.2.1 _ k_541) (B.2.2.2.1 _ k_543) (B.2.2.2.1 _ ks_3) (B.2.2.2.1 _ k_35) ⟨by decide +kernel, by decide +kernel, by decide +kernel⟩ rfl d_Shipped_ofTwo_33 rfl (Nat.le_of_ble_eq_true rfl) ⟨by decide, by decide⟩ ⟨by decide, by decide⟩ ⟨by decide, by decide⟩ (mv_noH hno _) (fun σ33 h33 => ?_)
  obtain ⟨f33, hQ⟩ := h33
  have hF := hF.tr f33
  refine mv_aload_n (pc := 36) B d_Shipped_ofTwo_36 rfl 0 rfl ?_
  refine mv_ldcwS (pc := 37) B (hNs.2.1 160 (by decide)).1 d_Shipped_ofTwo_37 ?_
  refine mv_callVv (pc := 40) (n := 1) (ci := 10) (C := R_Shipped) B (mK_ok sk sv) hNs rfl rfl (c_Shipped_put_k l hi _ 160 _ (by decide) hQ) rfl (ma_goodc kc_Shipped_put) (B.2.2.2.1 _ k_541) (B.2.2.2.1 _ k_543) (B.2.2.2.1 _ ks_3) (B.2.2.2.1 _ k_35) ⟨by decide +kernel, by decide +kernel, by decide +kernel⟩ rfl d_Shipped_ofTwo_40 rfl (Nat.le_of_ble_eq_true rfl) ⟨by decide, by decide⟩ ⟨by decide, by decide⟩ ⟨by decide, by decide⟩ (mv_noH hno _) (fun σ40 h40 => ?_)
  obtain ⟨f40, hQ⟩ := h40
  have hF := hF.tr f40
  refine mv_aload_n (pc := 43) B d_Shipped_ofTwo_43 rfl 0 rfl ?_
  refine mv_aload (pc := 44) B d_Shipped_ofTwo_44 4 rfl ?_
  refine mv_callVv (pc := 46) (n := 1) (ci := 10) (C := R_Shipped) B (mK_ok sk sv) hNs rfl rfl (c_Shipped_result_k l hi _ i4 _ hi4 hQ) rfl (ma_goodc kc_Shipped_result) (B.2.2.2.1 _ k_686) (B.2.2.2.1 _ k_688) (B.2.2.2.1 _ ks_11) (B.2.2.2.1 _ k_35) ⟨by decide +kernel, by decide +kernel, by decide +kernel⟩ rfl d_Shipped_ofTwo_46 rfl (Nat.le_of_ble_eq_true rfl) ⟨by decide, by decide⟩ ⟨by decide, by decide⟩ ⟨by decide, by decide⟩ (mv_noH hno _) (fun σ46 h46 => ?_)
  obtain ⟨f46, hQ⟩ := h46
  have hF := hF.tr f46
  exact mv_vret (pc := 49) B hr d_Shipped_ofTwo_49 (Nat.le_refl _) (Nat.le_refl _) ⟨rfl, hF, hQ⟩

set_option maxHeartbeats 4000000 in
set_option maxRecDepth 100000 in
theorem c_Shipped_writeOfConstants_k (l : Launch) {dA : FieldType → ClassId} {D : va_G} {al : Nat → Nat} {sk sv : Nat → Nat} (hi : mv_inj (mg dA D al me2)) (σ : mv_H)  (q9 : Nat)  (hQ : ShQ σ q9) : mv_C l y_Shipped_writeOfConstants (Cond.code y_Shipped_writeOfConstants b_Shipped_writeOfConstants 1 (Option.none : Option Jvm.ClassFile.FieldType) :: ma) ({ frames := 7, cells := 0, slots := 0, locals := 154 }) (mg dA D al me2) (mK sk sv) [.ref (al 143)] σ (mv_Rv (fun σ1 => ShF σ σ1 ∧ ShQ σ1 (q9 + qs 5 + qs 61 + qs 157 + qs 40 + qs 17 + qs 63 + qs 158 + qs 64 + qs 62 + qs 43 + qs 5 + qs 65 + qs 157 + qs 40 + qs 47 + qs 63 + qs 158 + qs 64 + qs 66 + qs 43 + qs 5 + qs 67 + qs 157 + qs 40 + qs 68 + qs 63 + qs 158 + qs 64 + qs 69 + qs 43 + qs 5 + qs 70 + qs 157 + qs 40 + qs 27 + qs 63 + qs 158 + qs 64 + qs 71 + qs 43 + qs 5 + qs 72 + qs 157 + qs 40 + qs 33 + qs 63 + qs 158 + qs 64 + qs 73 + qs 43 + qs 5 + qs 74 + qs 157 + qs 40 + qs 36 + qs 63 + qs 158 + qs 64 + qs 75 + qs 43 + qs 79 + qs 76 + qs 157 + qs 77 + qs 80 + qs 24 + qs 159 + qs 64 + qs 78 + qs 43 + qs 79 + qs 81 + qs 157 + qs 77 + qs 80 + qs 30 + qs 159 + qs 64 + qs 82 + qs 43 + qs 79 + qs 83 + qs 157 + qs 84 + qs 80 + qs 30 + qs 159 + qs 64 + qs 85 + qs 43))) := by
  refine mv_C.ofV (cc := b_Shipped_writeOfConstants) (nL := 1) (ret := (Option.none : Option Jvm.ClassFile.FieldType)) (by decide +kernel) rfl hi (Nat.le_of_ble_eq_true rfl) ?_
  intro p e s m below meth c B hNs hr hnm hno
  have hF : ShF σ σ := Fr.rf
  refine mv_aload_n (pc := 0) B d_Shipped_writeOfConstants_0 rfl 0 rfl ?_
  refine mv_ldcS (pc := 1) B (hNs.2.1 61 (by decide)).1 d_Shipped_writeOfConstants_1 ?_
  refine mv_ldcS (pc := 3) B (hNs.2.1 17 (by decide)).1 d_Shipped_writeOfConstants_3 ?_
  refine mv_ldcS (pc := 5) B (hNs.2.1 62 (by decide)).1 d_Shipped_writeOfConstants_5 ?_
  refine mv_callVv (pc := 7) (n := 3) (ci := 10) (C := R_Shipped) B (mK_ok sk sv) hNs rfl rfl (c_Shipped_constant_k l hi _ 61 17 62 _ (by decide) (by decide) (by decide) hQ) rfl (ma_goodc kc_Shipped_constant) (B.2.2.2.1 _ k_681) (B.2.2.2.1 _ k_683) (B.2.2.2.1 _ ks_10) (B.2.2.2.1 _ k_35) ⟨by decide +kernel, by decide +kernel, by decide +kernel⟩ rfl d_Shipped_writeOfConstants_7 rfl (Nat.le_of_ble_eq_true rfl) ⟨by decide, by decide⟩ ⟨by decide, by decide⟩ ⟨by decide, by decide⟩ (mv_noH hno _) (fun σ7 h7 => ?_)
  obtain ⟨f7, hQ⟩ := h7
  have hF := hF.tr f7
  refine mv_aload_n (pc := 10) B d_Shipped_writeOfConstants_10 rfl 0 rfl ?_
  refine mv_ldcS (pc := 11) B (hNs.2.1 65 (by decide)).1 d_Shipped_writeOfConstants_11 ?_
  refine mv_ldcS (pc := 13) B (hNs.2.1 47 (by decide)).1 d_Shipped_writeOfConstants_13 ?_
  refine mv_ldcS (pc := 15) B (hNs.2.1 66 (by decide)).1 d_Shipped_writeOfConstants_15 ?_
  refine mv_callVv (pc := 17) (n := 3) (ci := 10) (C := R_Shipped) B (mK_ok sk sv) hNs rfl rfl (c_Shipped_constant_k l hi _ 65 47 66 _ (by decide) (by decide) (by decide) hQ) rfl (ma_goodc kc_Shipped_constant) (B.2.2.2.1 _ k_681) (B.2.2.2.1 _ k_683) (B.2.2.2.1 _ ks_10) (B.2.2.2.1 _ k_35) ⟨by decide +kernel, by decide +kernel, by decide +kernel⟩ rfl d_Shipped_writeOfConstants_17 rfl (Nat.le_of_ble_eq_true rfl) ⟨by decide, by decide⟩ ⟨by decide, by decide⟩ ⟨by decide, by decide⟩ (mv_noH hno _) (fun σ17 h17 => ?_)
  obtain ⟨f17, hQ⟩ := h17
  have hF := hF.tr f17
  refine mv_aload_n (pc := 20) B d_Shipped_writeOfConstants_20 rfl 0 rfl ?_
  refine mv_ldcS (pc := 21) B (hNs.2.1 67 (by decide)).1 d_Shipped_writeOfConstants_21 ?_
  refine mv_ldcS (pc := 23) B (hNs.2.1 68 (by decide)).1 d_Shipped_writeOfConstants_23 ?_
  refine mv_ldcS (pc := 25) B (hNs.2.1 69 (by decide)).1 d_Shipped_writeOfConstants_25 ?_
  refine mv_callVv (pc := 27) (n := 3) (ci := 10) (C := R_Shipped) B (mK_ok sk sv) hNs rfl rfl (c_Shipped_constant_k l hi _ 67 68 69 _ (by decide) (by decide) (by decide) hQ) rfl (ma_goodc kc_Shipped_constant) (B.2.2.2.1 _ k_681) (B.2.2.2.1 _ k_683) (B.2.2.2.1 _ ks_10) (B.2.2.2.1 _ k_35) ⟨by decide +kernel, by decide +kernel, by decide +kernel⟩ rfl d_Shipped_writeOfConstants_27 rfl (Nat.le_of_ble_eq_true rfl) ⟨by decide, by decide⟩ ⟨by decide, by decide⟩ ⟨by decide, by decide⟩ (mv_noH hno _) (fun σ27 h27 => ?_)
  obtain ⟨f27, hQ⟩ := h27
  have hF := hF.tr f27
  refine mv_aload_n (pc := 30) B d_Shipped_writeOfConstants_30 rfl 0 rfl ?_
  refine mv_ldcS (pc := 31) B (hNs.2.1 70 (by decide)).1 d_Shipped_writeOfConstants_31 ?_
  refine mv_ldcS (pc := 33) B (hNs.2.1 27 (by decide)).1 d_Shipped_writeOfConstants_33 ?_
  refine mv_ldcS (pc := 35) B (hNs.2.1 71 (by decide)).1 d_Shipped_writeOfConstants_35 ?_
  refine mv_callVv (pc := 37) (n := 3) (ci := 10) (C := R_Shipped) B (mK_ok sk sv) hNs rfl rfl (c_Shipped_constant_k l hi _ 70 27 71 _ (by decide) (by decide) (by decide) hQ) rfl (ma_goodc kc_Shipped_constant) (B.2.2.2.1 _ k_681) (B.2.2.2.1 _ k_683) (B.2.2.2.1 _ ks_10) (B.2.2.2.1 _ k_35) ⟨by decide +kernel, by decide +kernel, by decide +kernel⟩ rfl d_Shipped_writeOfConstants_37 rfl (Nat.le_of_ble_eq_true rfl) ⟨by decide, by decide⟩ ⟨by decide, by decide⟩ ⟨by decide, by decide⟩ (mv_noH hno _) (fun σ37 h37 => ?_)
  obtain ⟨f37, hQ⟩ := h37
  have hF := hF.tr f37
  refine mv_aload_n (pc := 40) B d_Shipped_writeOfConstants_40 rfl 0 rfl ?_
  refine mv_ldcS (pc := 41) B (hNs.2.1 72 (by decide)).1 d_Shipped_writeOfConstants_41 ?_
  refine mv_ldcS (pc := 43) B (hNs.2.1 33 (by decide)).1 d_Shipped_writeOfConstants_43 ?_
  refine mv_ldcS (pc := 45) B (hNs.2.1 73 (by decide)).1 d_Shipped_writeOfConstants_45 ?_
  refine mv_callVv (pc := 47) (n := 3) (ci := 10) (C := R_Shipped) B (mK_ok sk sv) hNs rfl rfl (c_Shipped_constant_k l hi _ 72 33 73 _ (by decide) (by decide) (by decide) hQ) rfl (ma_goodc kc_Shipped_constant) (B.2.2.2.1 _ k_681) (B.2.2.2.1 _ k_683) (B.2.2.2.1 _ ks_10) (B.2.2.2.1 _ k_35) ⟨by decide +kernel, by decide +kernel, by decide +kernel⟩ rfl d_Shipped_writeOfConstants_47 rfl (Nat.le_of_ble_eq_true rfl) ⟨by decide, by decide⟩ ⟨by decide, by decide⟩ ⟨by decide, by decide⟩ (mv_noH hno _) (fun σ47 h47 => ?_)
  obtain ⟨f47, hQ⟩ := h47
  have hF := hF.tr f47
  refine mv_aload_n (pc := 50) B d_Shipped_writeOfConstants_50 rfl 0 rfl ?_
  refine mv_ldcS (pc := 51) B (hNs.2.1 74 (by decide)).1 d_Shipped_writeOfConstants_51 ?_
  refine mv_ldcS (pc := 53) B (hNs.2.1 36 (by decide)).1 d_Shipped_writeOfConstants_53 ?_
  refine mv_ldcS (pc := 55) B (hNs.2.1 75 (by decide)).1 d_Shipped_writeOfConstants_55 ?_
  refine mv_callVv (pc := 57) (n := 3) (ci := 10) (C := R_Shipped) B (mK_ok sk sv) hNs rfl rfl (c_Shipped_constant_k l hi _ 74 36 75 _ (by decide) (by decide) (by decide) hQ) rfl (ma_goodc kc_Shipped_constant) (B.2.2.2.1 _ k_681) (B.2.2.2.1 _ k_683) (B.2.2.2.1 _ ks_10) (B.2.2.2.1 _ k_35) ⟨by decide +kernel, by decide +kernel, by decide +kernel⟩ rfl d_Shipped_writeOfConstants_57 rfl (Nat.le_of_ble_eq_true rfl) ⟨by decide, by decide⟩ ⟨by decide, by decide⟩ ⟨by decide, by decide⟩ (mv_noH hno _) (fun σ57 h57 => ?_)
  obtain ⟨f57, hQ⟩ := h57
  have hF := hF.tr f57
  refine mv_aload_n (pc := 60) B d_Shipped_writeOfConstants_60 rfl 0 rfl ?_
  refine mv_ldcS (pc := 61) B (hNs.2.1 76 (by decide)).1 d_Shipped_writeOfConstants_61 ?_
  refine mv_ldcS (pc := 63) B (hNs.2.1 77 (by decide)).1 d_Shipped_writeOfConstants_63 ?_
  refine mv_ldcS (pc := 65) B (hNs.2.1 24 (by decide)).1 d_Shipped_writeOfConstants_65 ?_
  refine mv_ldcS (pc := 67) B (hNs.2.1 78 (by decide)).1 d_Shipped_writeOfConstants_67 ?_
  refine mv_callVv (pc := 69) (n := 4) (ci := 10) (C := R_Shipped) B (mK_ok sk sv) hNs rfl rfl (c_Shipped_shift_k l hi _ 76 77 24 78 _ (by decide) (by decide) (by decide) (by decide) hQ) rfl (ma_goodc kc_Shipped_shift) (B.2.2.2.1 _ k_705) (B.2.2.2.1 _ k_707) (B.2.2.2.1 _ ks_12) (B.2.2.2.1 _ k_35) ⟨by decide +kernel, by decide +kernel, by decide +kernel⟩ rfl d_Shipped_writeOfConstants_69 rfl (Nat.le_of_ble_eq_true rfl) ⟨by decide, by decide⟩ ⟨by decide, by decide⟩ ⟨by decide, by decide⟩ (mv_noH hno _) (fun σ69 h69 => ?_)
  obtain ⟨f69, hQ⟩ := h69
  have hF := hF.tr f69
  refine mv_aload_n (pc := 72) B d_Shipped_writeOfConstants_72 rfl 0 rfl ?_
  refine mv_ldcS (pc := 73) B (hNs.2.1 81 (by decide)).1 d_Shipped_writeOfConstants_73 ?_
  refine mv_ldcS (pc := 75) B (hNs.2.1 77 (by decide)).1 d_Shipped_writeOfConstants_75 ?_
  refine mv_ldcS (pc := 77) B (hNs.2.1 30 (by decide)).1 d_Shipped_writeOfConstants_77 ?_
  refine mv_ldcS (pc := 79) B (hNs.2.1 82 (by decide)).1 d_Shipped_writeOfConstants_79 ?_
  refine mv_callVv (pc := 81) (n := 4) (ci := 10) (C := R_Shipped) B (mK_ok sk sv) hNs rfl rfl (c_Shipped_shift_k l hi _ 81 77 30 82 _ (by decide) (by decide) (by decide) (by decide) hQ) rfl (ma_goodc kc_Shipped_shift) (B.2.2.2.1 _ k_705) (B.2.2.2.1 _ k_707) (B.2.2.2.1 _ ks_12) (B.2.2.2.1 _ k_35) ⟨by decide +kernel, by decide +kernel, by decide +kernel⟩ rfl d_Shipped_writeOfConstants_81 rfl (Nat.le_of_ble_eq_true rfl) ⟨by decide, by decide⟩ ⟨by decide, by decide⟩ ⟨by decide, by decide⟩ (mv_noH hno _) (fun σ81 h81 => ?_)
  obtain ⟨f81, hQ⟩ := h81
  have hF := hF.tr f81
  refine mv_aload_n (pc := 84) B d_Shipped_writeOfConstants_84 rfl 0 rfl ?_
  refine mv_ldcS (pc := 85) B (hNs.2.1 83 (by decide)).1 d_Shipped_writeOfConstants_85 ?_
  refine mv_ldcS (pc := 87) B (hNs.2.1 84 (by decide)).1 d_Shipped_writeOfConstants_87 ?_
  refine mv_ldcS (pc := 89) B (hNs.2.1 30 (by decide)).1 d_Shipped_writeOfConstants_89 ?_
  refine mv_ldcS (pc := 91) B (hNs.2.1 85 (by decide)).1 d_Shipped_writeOfConstants_91 ?_
  refine mv_callVv (pc := 93) (n := 4) (ci := 10) (C := R_Shipped) B (mK_ok sk sv) hNs rfl rfl (c_Shipped_shift_k l hi _ 83 84 30 85 _ (by decide) (by decide) (by decide) (by decide) hQ) rfl (ma_goodc kc_Shipped_shift) (B.2.2.2.1 _ k_705) (B.2.2.2.1 _ k_707) (B.2.2.2.1 _ ks_12) (B.2.2.2.1 _ k_35) ⟨by decide +kernel, by decide +kernel, by decide +kernel⟩ rfl d_Shipped_writeOfConstants_93 rfl (Nat.le_of_ble_eq_true rfl) ⟨by decide, by decide⟩ ⟨by decide, by decide⟩ ⟨by decide, by decide⟩ (mv_noH hno _) (fun σ93 h93 => ?_)
  obtain ⟨f93, hQ⟩ := h93
  have hF := hF.tr f93
  exact mv_vret (pc := 96) B hr d_Shipped_writeOfConstants_96 (Nat.le_refl _) (Nat.le_refl _) ⟨rfl, hF, hQ⟩

set_option maxHeartbeats 4000000 in
set_option maxRecDepth 100000 in
theorem c_Shipped_writeOfTwo_k (l : Launch) {dA : FieldType → ClassId} {D : va_G} {al : Nat → Nat} {sk sv : Nat → Nat} (hi : mv_inj (mg dA D al me2)) (σ : mv_H)  (q9 : Nat)  (hQ : ShQ σ q9) : mv_C l y_Shipped_writeOfTwo (Cond.code y_Shipped_writeOfTwo b_Shipped_writeOfTwo 1 (Option.none : Option Jvm.ClassFile.FieldType) :: ma) ({ frames := 7, cells := 0, slots := 0, locals := 152 }) (mg dA D al me2) (mK sk sv) [.ref (al 143)] σ (mv_Rv (fun σ1 => ShF σ σ1 ∧ ShQ σ1 (q9 + qs 79 + qs 86 + qs 157 + qs 77 + qs 88 + qs 17 + qs 160 + qs 64 + qs 87 + qs 43 + qs 79 + qs 89 + qs 157 + qs 84 + qs 88 + qs 17 + qs 160 + qs 64 + qs 90 + qs 43 + qs 79 + qs 91 + qs 157 + qs 77 + qs 88 + qs 24 + qs 160 + qs 64 + qs 92 + qs 43 + qs 79 + qs 93 + qs 157 + qs 77 + qs 88 + qs 47 + qs 160 + qs 64 + qs 94 + qs 43 + qs 79 + qs 95 + qs 157 + qs 77 + qs 88 + qs 68 + qs 160 + qs 64 + qs 96 + qs 43 + qs 79 + qs 97 + qs 157 + qs 77 + qs 88 + qs 27 + qs 160 + qs 64 + qs 98 + qs 43 + qs 79 + qs 99 + qs 157 + qs 77 + qs 88 + qs 30 + qs 160 + qs 64 + qs 100 + qs 43 + qs 79 + qs 101 + qs 157 + qs 84 + qs 88 + qs 30 + qs 160 + qs 64 + qs 102 + qs 43 + qs 79 + qs 103 + qs 157 + qs 77 + qs 88 + qs 33 + qs 160 + qs 64 + qs 104 + qs 43 + qs 79 + qs 105 + qs 157 + qs 77 + qs 88 + qs 36 + qs 160 + qs 64 + qs 106 + qs 43))) := by
  refine mv_C.ofV (cc := b_Shipped_writeOfTwo) (nL := 1) (ret := (Option.none : Option Jvm.ClassFile.FieldType)) (by decide +kernel) rfl hi (Nat.le_of_ble_eq_true rfl) ?_
  intro p e s m below meth c B hNs hr hnm hno
  have hF : ShF σ σ := Fr.rf
  refine mv_aload_n (pc := 0) B d_Shipped_writeOfTwo_0 rfl 0 rfl ?_
  refine mv_ldcS (pc := 1) B (hNs.2.1 86 (by decide)).1 d_Shipped_writeOfTwo_1 ?_
  refine mv_ldcS (pc := 3) B (hNs.2.1 77 (by decide)).1 d_Shipped_writeOfTwo_3 ?_
  refine mv_ldcS (pc := 5) B (hNs.2.1 17 (by decide)).1 d_Shipped_writeOfTwo_5 ?_
  refine mv_ldcS (pc := 7) B (hNs.2.1 87 (by decide)).1 d_Shipped_writeOfTwo_7 ?_
  refine mv_callVv (pc := 9) (n := 4) (ci := 10) (C := R_Shipped) B (mK_ok sk sv) hNs rfl rfl (c_Shipped_ofTwo_k l hi _ 86 77 17 87 _ (by decide) (by decide) (by decide) (by decide) hQ) rfl (ma_goodc kc_Shipped_ofTwo) (B.2.2.2.1 _ k_723) (B.2.2.2.1 _ k_725) (B.2.2.2.1 _ ks_14) (B.2.2.2.1 _ k_35) ⟨by decide +kernel, by decide +kernel, by decide +kernel⟩ rfl d_Shipped_writeOfTwo_9 rfl (Nat.le_of_ble_eq_true rfl) ⟨by decide, by decide⟩ ⟨by decide, by decide⟩ ⟨by decide, by decide⟩ (mv_noH hno _) (fun σ9 h9 => ?_)
  obtain ⟨f9, hQ⟩ := h9
  have hF := hF.tr f9
  refine mv_aload_n (pc := 12) B d_Shipped_writeOfTwo_12 rfl 0 rfl ?_
  refine mv_ldcS (pc := 13) B (hNs.2.1 89 (by decide)).1 d_Shipped_writeOfTwo_13 ?_
  refine mv_ldcS (pc := 15) B (hNs.2.1 84 (by decide)).1 d_Shipped_writeOfTwo_15 ?_
  refine mv_ldcS (pc := 17) B (hNs.2.1 17 (by decide)).1 d_Shipped_writeOfTwo_17 ?_
  refine mv_ldcS (pc := 19) B (hNs.2.1 90 (by decide)).1 d_Shipped_writeOfTwo_19 ?_
  refine mv_callVv (pc := 21) (n := 4) (ci := 10) (C := R_Shipped) B (mK_ok sk sv) hNs rfl rfl (c_Shipped_ofTwo_k l hi _ 89 84 17 90 _ (by decide) (by decide) (by decide) (by decide) hQ) rfl (ma_goodc kc_Shipped_ofTwo) (B.2.2.2.1 _ k_723) (B.2.2.2.1 _ k_725) (B.2.2.2.1 _ ks_14) (B.2.2.2.1 _ k_35) ⟨by decide +kernel, by decide +kernel, by decide +kernel⟩ rfl d_Shipped_writeOfTwo_21 rfl (Nat.le_of_ble_eq_true rfl) ⟨by decide, by decide⟩ ⟨by decide, by decide⟩ ⟨by decide, by decide⟩ (mv_noH hno _) (fun σ21 h21 => ?_)
  obtain ⟨f21, hQ⟩ := h21
  have hF := hF.tr f21
  refine mv_aload_n (pc := 24) B d_Shipped_writeOfTwo_24 rfl 0 rfl ?_
  refine mv_ldcS (pc := 25) B (hNs.2.1 91 (by decide)).1 d_Shipped_writeOfTwo_25 ?_
  refine mv_ldcS (pc := 27) B (hNs.2.1 77 (by decide)).1 d_Shipped_writeOfTwo_27 ?_
  refine mv_ldcS (pc := 29) B (hNs.2.1 24 (by decide)).1 d_Shipped_writeOfTwo_29 ?_
  refine mv_ldcS (pc := 31) B (hNs.2.1 92 (by decide)).1 d_Shipped_writeOfTwo_31 ?_
  refine mv_callVv (pc := 33) (n := 4) (ci := 10) (C := R_Shipped) B (mK_ok sk sv) hNs rfl rfl (c_Shipped_ofTwo_k l hi _ 91 77 24 92 _ (by decide) (by decide) (by decide) (by decide) hQ) rfl (ma_goodc kc_Shipped_ofTwo) (B.2.2.2.1 _ k_723) (B.2.2.2.1 _ k_725) (B.2.2.2.1 _ ks_14) (B.2.2.2.1 _ k_35) ⟨by decide +kernel, by decide +kernel, by decide +kernel⟩ rfl d_Shipped_writeOfTwo_33 rfl (Nat.le_of_ble_eq_true rfl) ⟨by decide, by decide⟩ ⟨by decide, by decide⟩ ⟨by decide, by decide⟩ (mv_noH hno _) (fun σ33 h33 => ?_)
  obtain ⟨f33, hQ⟩ := h33
  have hF := hF.tr f33
  refine mv_aload_n (pc := 36) B d_Shipped_writeOfTwo_36 rfl 0 rfl ?_
  refine mv_ldcS (pc := 37) B (hNs.2.1 93 (by decide)).1 d_Shipped_writeOfTwo_37 ?_
  refine mv_ldcS (pc := 39) B (hNs.2.1 77 (by decide)).1 d_Shipped_writeOfTwo_39 ?_
  refine mv_ldcS (pc := 41) B (hNs.2.1 47 (by decide)).1 d_Shipped_writeOfTwo_41 ?_
  refine mv_ldcS (pc := 43) B (hNs.2.1 94 (by decide)).1 d_Shipped_writeOfTwo_43 ?_
  refine mv_callVv (pc := 45) (n := 4) (ci := 10) (C := R_Shipped) B (mK_ok sk sv) hNs rfl rfl (c_Shipped_ofTwo_k l hi _ 93 77 47 94 _ (by decide) (by decide) (by decide) (by decide) hQ) rfl (ma_goodc kc_Shipped_ofTwo) (B.2.2.2.1 _ k_723) (B.2.2.2.1 _ k_725) (B.2.2.2.1 _ ks_14) (B.2.2.2.1 _ k_35) ⟨by decide +kernel, by decide +kernel, by decide +kernel⟩ rfl d_Shipped_writeOfTwo_45 rfl (Nat.le_of_ble_eq_true rfl) ⟨by decide, by decide⟩ ⟨by decide, by decide⟩ ⟨by decide, by decide⟩ (mv_noH hno _) (fun σ45 h45 => ?_)
  obtain ⟨f45, hQ⟩ := h45
  have hF := hF.tr f45
  refine mv_aload_n (pc := 48) B d_Shipped_writeOfTwo_48 rfl 0 rfl ?_
  refine mv_ldcS (pc := 49) B (hNs.2.1 95 (by decide)).1 d_Shipped_writeOfTwo_49 ?_
  refine mv_ldcS (pc := 51) B (hNs.2.1 77 (by decide)).1 d_Shipped_writeOfTwo_51 ?_
  refine mv_ldcS (pc := 53) B (hNs.2.1 68 (by decide)).1 d_Shipped_writeOfTwo_53 ?_
  refine mv_ldcS (pc := 55) B (hNs.2.1 96 (by decide)).1 d_Shipped_writeOfTwo_55 ?_
  refine mv_callVv (pc := 57) (n := 4) (ci := 10) (C := R_Shipped) B (mK_ok sk sv) hNs rfl rfl (c_Shipped_ofTwo_k l hi _ 95 77 68 96 _ (by decide) (by decide) (by decide) (by decide) hQ) rfl (ma_goodc kc_Shipped_ofTwo) (B.2.2.2.1 _ k_723) (B.2.2.2.1 _ k_725) (B.2.2.2.1 _ ks_14) (B.2.2.2.1 _ k_35) ⟨by decide +kernel, by decide +kernel, by decide +kernel⟩ rfl d_Shipped_writeOfTwo_57 rfl (Nat.le_of_ble_eq_true rfl) ⟨by decide, by decide⟩ ⟨by decide, by decide⟩ ⟨by decide, by decide⟩ (mv_noH hno _) (fun σ57 h57 => ?_)
  obtain ⟨f57, hQ⟩ := h57
  have hF := hF.tr f57
  refine mv_aload_n (pc := 60) B d_Shipped_writeOfTwo_60 rfl 0 rfl ?_
  refine mv_ldcS (pc := 61) B (hNs.2.1 97 (by decide)).1 d_Shipped_writeOfTwo_61 ?_
  refine mv_ldcS (pc := 63) B (hNs.2.1 77 (by decide)).1 d_Shipped_writeOfTwo_63 ?_
  refine mv_ldcS (pc := 65) B (hNs.2.1 27 (by decide)).1 d_Shipped_writeOfTwo_65 ?_
  refine mv_ldcS (pc := 67) B (hNs.2.1 98 (by decide)).1 d_Shipped_writeOfTwo_67 ?_
  refine mv_callVv (pc := 69) (n := 4) (ci := 10) (C := R_Shipped) B (mK_ok sk sv) hNs rfl rfl (c_Shipped_ofTwo_k l hi _ 97 77 27 98 _ (by decide) (by decide) (by decide) (by decide) hQ) rfl (ma_goodc kc_Shipped_ofTwo) (B.2.2.2.1 _ k_723) (B.2.2.2.1 _ k_725) (B.2.2.2.1 _ ks_14) (B.2.2.2.1 _ k_35) ⟨by decide +kernel, by decide +kernel, by decide +kernel⟩ rfl d_Shipped_writeOfTwo_69 rfl (Nat.le_of_ble_eq_true rfl) ⟨by decide, by decide⟩ ⟨by decide, by decide⟩ ⟨by decide, by decide⟩ (mv_noH hno _) (fun σ69 h69 => ?_)
  obtain ⟨f69, hQ⟩ := h69
  have hF := hF.tr f69
  refine mv_aload_n (pc := 72) B d_Shipped_writeOfTwo_72 rfl 0 rfl ?_
  refine mv_ldcS (pc := 73) B (hNs.2.1 99 (by decide)).1 d_Shipped_writeOfTwo_73 ?_
  refine mv_ldcS (pc := 75) B (hNs.2.1 77 (by decide)).1 d_Shipped_writeOfTwo_75 ?_
  refine mv_ldcS (pc := 77) B (hNs.2.1 30 (by decide)).1 d_Shipped_writeOfTwo_77 ?_
  refine mv_ldcS (pc := 79) B (hNs.2.1 100 (by decide)).1 d_Shipped_writeOfTwo_79 ?_
  refine mv_callVv (pc := 81) (n := 4) (ci := 10) (C := R_Shipped) B (mK_ok sk sv) hNs rfl rfl (c_Shipped_ofTwo_k l hi _ 99 77 30 100 _ (by decide) (by decide) (by decide) (by decide) hQ) rfl (ma_goodc kc_Shipped_ofTwo) (B.2.2.2.1 _ k_723) (B.2.2.2.1 _ k_725) (B.2.2.2.1 _ ks_14) (B.2.2.2.1 _ k_35) ⟨by decide +kernel, by decide +kernel, by decide +kernel⟩ rfl d_Shipped_writeOfTwo_81 rfl (Nat.le_of_ble_eq_true rfl) ⟨by decide, by decide⟩ ⟨by decide, by decide⟩ ⟨by decide, by decide⟩ (mv_noH hno _) (fun σ81 h81 => ?_)
  obtain ⟨f81, hQ⟩ := h81
  have hF := hF.tr f81
  refine mv_aload_n (pc := 84) B d_Shipped_writeOfTwo_84 rfl 0 rfl ?_
  refine mv_ldcS (pc := 85) B (hNs.2.1 101 (by decide)).1 d_Shipped_writeOfTwo_85 ?_
  refine mv_ldcS (pc := 87) B (hNs.2.1 84 (by decide)).1 d_Shipped_writeOfTwo_87 ?_
  refine mv_ldcS (pc := 89) B (hNs.2.1 30 (by decide)).1 d_Shipped_writeOfTwo_89 ?_
  refine mv_ldcS (pc := 91) B (hNs.2.1 102 (by decide)).1 d_Shipped_writeOfTwo_91 ?_
  refine mv_callVv (pc := 93) (n := 4) (ci := 10) (C := R_Shipped) B (mK_ok sk sv) hNs rfl rfl (c_Shipped_ofTwo_k l hi _ 101 84 30 102 _ (by decide) (by decide) (by decide) (by decide) hQ) rfl (ma_goodc kc_Shipped_ofTwo) (B.2.2.2.1 _ k_723) (B.2.2.2.1 _ k_725) (B.2.2.2.1 _ ks_14) (B.2.2.2.1 _ k_35) ⟨by decide +kernel, by decide +kernel, by decide +kernel⟩ rfl d_Shipped_writeOfTwo_93 rfl (Nat.le_of_ble_eq_true rfl) ⟨by decide, by decide⟩ ⟨by decide, by decide⟩ ⟨by decide, by decide⟩ (mv_noH hno _) (fun σ93 h93 => ?_)
  obtain ⟨f93, hQ⟩ := h93
  have hF := hF.tr f93
  refine mv_aload_n (pc := 96) B d_Shipped_writeOfTwo_96 rfl 0 rfl ?_
  refine mv_ldcS (pc := 97) B (hNs.2.1 103 (by decide)).1 d_Shipped_writeOfTwo_97 ?_
  refine mv_ldcS (pc := 99) B (hNs.2.1 77 (by decide)).1 d_Shipped_writeOfTwo_99 ?_
  refine mv_ldcS (pc := 101) B (hNs.2.1 33 (by decide)).1 d_Shipped_writeOfTwo_101 ?_
  refine mv_ldcS (pc := 103) B (hNs.2.1 104 (by decide)).1 d_Shipped_writeOfTwo_103 ?_
  refine mv_callVv (pc := 105) (n := 4) (ci := 10) (C := R_Shipped) B (mK_ok sk sv) hNs rfl rfl (c_Shipped_ofTwo_k l hi _ 103 77 33 104 _ (by decide) (by decide) (by decide) (by decide) hQ) rfl (ma_goodc kc_Shipped_ofTwo) (B.2.2.2.1 _ k_723) (B.2.2.2.1 _ k_725) (B.2.2.2.1 _ ks_14) (B.2.2.2.1 _ k_35) ⟨by decide +kernel, by decide +kernel, by decide +kernel⟩ rfl d_Shipped_writeOfTwo_105 rfl (Nat.le_of_ble_eq_true rfl) ⟨by decide, by decide⟩ ⟨by decide, by decide⟩ ⟨by decide, by decide⟩ (mv_noH hno _) (fun σ105 h105 => ?_)
  obtain ⟨f105, hQ⟩ := h105
  have hF := hF.tr f105
  refine mv_aload_n (pc := 108) B d_Shipped_writeOfTwo_108 rfl 0 rfl ?_
  refine mv_ldcS (pc := 109) B (hNs.2.1 105 (by decide)).1 d_Shipped_writeOfTwo_109 ?_
  refine mv_ldcS (pc := 111) B (hNs.2.1 77 (by decide)).1 d_Shipped_writeOfTwo_111 ?_
  refine mv_ldcS (pc := 113) B (hNs.2.1 36 (by decide)).1 d_Shipped_writeOfTwo_113 ?_
  refine mv_ldcS (pc := 115) B (hNs.2.1 106 (by decide)).1 d_Shipped_writeOfTwo_115 ?_
  refine mv_callVv (pc := 117) (n := 4) (ci := 10) (C := R_Shipped) B (mK_ok sk sv) hNs rfl rfl (c_Shipped_ofTwo_k l hi _ 105 77 36 106 _ (by decide) (by decide) (by decide) (by decide) hQ) rfl (ma_goodc kc_Shipped_ofTwo) (B.2.2.2.1 _ k_723) (B.2.2.2.1 _ k_725) (B.2.2.2.1 _ ks_14) (B.2.2.2.1 _ k_35) ⟨by decide +kernel, by decide +kernel, by decide +kernel⟩ rfl d_Shipped_writeOfTwo_117 rfl (Nat.le_of_ble_eq_true rfl) ⟨by decide, by decide⟩ ⟨by decide, by decide⟩ ⟨by decide, by decide⟩ (mv_noH hno _) (fun σ117 h117 => ?_)
  obtain ⟨f117, hQ⟩ := h117
  have hF := hF.tr f117
  exact mv_vret (pc := 120) B hr d_Shipped_writeOfTwo_120 (Nat.le_refl _) (Nat.le_refl _) ⟨rfl, hF, hQ⟩

set_option maxHeartbeats 4000000 in
set_option maxRecDepth 100000 in
theorem c_Shipped_writeProducts_k (l : Launch) {dA : FieldType → ClassId} {D : va_G} {al : Nat → Nat} {sk sv : Nat → Nat} (hi : mv_inj (mg dA D al me2)) (σ : mv_H)  (q9 : Nat)  (hQ : ShQ σ q9) : mv_C l y_Shipped_writeProducts (Cond.code y_Shipped_writeProducts b_Shipped_writeProducts 1 (Option.none : Option Jvm.ClassFile.FieldType) :: ma) ({ frames := 7, cells := 0, slots := 0, locals := 152 }) (mg dA D al me2) (mK sk sv) [.ref (al 143)] σ (mv_Rv (fun σ1 => ShF σ σ1 ∧ ShQ σ1 (q9 + qs 79 + qs 115 + qs 157 + qs 116 + qs 88 + qs 17 + qs 160 + qs 64 + qs 117 + qs 43 + qs 79 + qs 118 + qs 157 + qs 116 + qs 88 + qs 24 + qs 160 + qs 64 + qs 119 + qs 43 + qs 79 + qs 120 + qs 157 + qs 116 + qs 88 + qs 47 + qs 160 + qs 64 + qs 121 + qs 43 + qs 79 + qs 122 + qs 157 + qs 116 + qs 88 + qs 68 + qs 160 + qs 64 + qs 123 + qs 43 + qs 79 + qs 124 + qs 157 + qs 116 + qs 88 + qs 27 + qs 160 + qs 64 + qs 125 + qs 43 + qs 79 + qs 126 + qs 157 + qs 116 + qs 88 + qs 30 + qs 160 + qs 64 + qs 127 + qs 43 + qs 79 + qs 128 + qs 157 + qs 116 + qs 88 + qs 33 + qs 160 + qs 64 + qs 129 + qs 43 + qs 79 + qs 130 + qs 157 + qs 116 + qs 88 + qs 36 + qs 160 + qs 64 + qs 131 + qs 43))) := by
  refine mv_C.ofV (cc := b_Shipped_writeProducts) (nL := 1) (ret := (Option.none : Option Jvm.ClassFile.FieldType)) (by decide +kernel) rfl hi (Nat.le_of_ble_eq_true rfl) ?_
  intro p e s m below meth c B hNs hr hnm hno
  have hF : ShF σ σ := Fr.rf
  refine mv_aload_n (pc := 0) B d_Shipped_writeProducts_0 rfl 0 rfl ?_
  refine mv_ldcS (pc := 1) B (hNs.2.1 115 (by decide)).1 d_Shipped_writeProducts_1 ?_
  refine mv_ldcS (pc := 3) B (hNs.2.1 116 (by decide)).1 d_Shipped_writeProducts_3 ?_
  refine mv_ldcS (pc := 5) B (hNs.2.1 17 (by decide)).1 d_Shipped_writeProducts_5 ?_
  refine mv_ldcS (pc := 7) B (hNs.2.1 117 (by decide)).1 d_Shipped_writeProducts_7 ?_
  refine mv_callVv (pc := 9) (n := 4) (ci := 10) (C := R_Shipped) B (mK_ok sk sv) hNs rfl rfl (c_Shipped_ofTwo_k l hi _ 115 116 17 117 _ (by decide) (by decide) (by decide) (by decide) hQ) rfl (ma_goodc kc_Shipped_ofTwo) (B.2.2.2.1 _ k_723) (B.2.2.2.1 _ k_725) (B.2.2.2.1 _ ks_14) (B.2.2.2.1 _ k_35) ⟨by decide +kernel, by decide +kernel, by decide +kernel⟩ rfl d_Shipped_writeProducts_9 rfl (Nat.le_of_ble_eq_true rfl) ⟨by decide, by decide⟩ ⟨by decide, by decide⟩ ⟨by decide, by decide⟩ (mv_noH hno _) (fun σ9 h9 => ?_)
  obtain ⟨f9, hQ⟩ := h9
  have hF := hF.tr f9
  refine mv_aload_n (pc := 12) B d_Shipped_writeProducts_12 rfl 0 rfl ?_
  refine mv_ldcS (pc := 13) B (hNs.2.1 118 (by decide)).1 d_Shipped_writeProducts_13 ?_
  refine mv_ldcS (pc := 15) B (hNs.2.1 116 (by decide)).1 d_Shipped_writeProducts_15 ?_
  refine mv_ldcS (pc := 17) B (hNs.2.1 24 (by decide)).1 d_Shipped_writeProducts_17 ?_
  refine mv_ldcS (pc := 19) B (hNs.2.1 119 (by decide)).1 d_Shipped_writeProducts_19 ?_
  refine mv_callVv (pc := 21) (n := 4) (ci := 10) (C := R_Shipped) B (mK_ok sk sv) hNs rfl rfl (c_Shipped_ofTwo_k l hi _ 118 116 24 119 _ (by decide) (by decide) (by decide) (by decide) hQ) rfl (ma_goodc kc_Shipped_ofTwo) (B.2.2.2.1 _ k_723) (B.2.2.2.1 _ k_725) (B.2.2.2.1 _ ks_14) (B.2.2.2.1 _ k_35) ⟨by decide +kernel, by decide +kernel, by decide +kernel⟩ rfl d_Shipped_writeProducts_21 rfl (Nat.le_of_ble_eq_true rfl) ⟨by decide, by decide⟩ ⟨by decide, by decide⟩ ⟨by decide, by decide⟩ (mv_noH hno _) (fun σ21 h21 => ?_)
  obtain ⟨f21, hQ⟩ := h21
  have hF := hF.tr f21
  refine mv_aload_n (pc := 24) B d_Shipped_writeProducts_24 rfl 0 rfl ?_
  refine mv_ldcS (pc := 25) B (hNs.2.1 120 (by decide)).1 d_Shipped_writeProducts_25 ?_
  refine mv_ldcS (pc := 27) B (hNs.2.1 116 (by decide)).1 d_Shipped_writeProducts_27 ?_
  refine mv_ldcS (pc := 29) B (hNs.2.1 47 (by decide)).1 d_Shipped_writeProducts_29 ?_
  refine mv_ldcwS (pc := 31) B (hNs.2.1 121 (by decide)).1 d_Shipped_writeProducts_31 ?_
  refine mv_callVv (pc := 34) (n := 4) (ci := 10) (C := R_Shipped) B (mK_ok sk sv) hNs rfl rfl (c_Shipped_ofTwo_k l hi _ 120 116 47 121 _ (by decide) (by decide) (by decide) (by decide) hQ) rfl (ma_goodc kc_Shipped_ofTwo) (B.2.2.2.1 _ k_723) (B.2.2.2.1 _ k_725) (B.2.2.2.1 _ ks_14) (B.2.2.2.1 _ k_35) ⟨by decide +kernel, by decide +kernel, by decide +kernel⟩ rfl d_Shipped_writeProducts_34 rfl (Nat.le_of_ble_eq_true rfl) ⟨by decide, by decide⟩ ⟨by decide, by decide⟩ ⟨by decide, by decide⟩ (mv_noH hno _) (fun σ34 h34 => ?_)
  obtain ⟨f34, hQ⟩ := h34
  have hF := hF.tr f34
  refine mv_aload_n (pc := 37) B d_Shipped_writeProducts_37 rfl 0 rfl ?_
  refine mv_ldcwS (pc := 38) B (hNs.2.1 122 (by decide)).1 d_Shipped_writeProducts_38 ?_
  refine mv_ldcS (pc := 41) B (hNs.2.1 116 (by decide)).1 d_Shipped_writeProducts_41 ?_
  refine mv_ldcS (pc := 43) B (hNs.2.1 68 (by decide)).1 d_Shipped_writeProducts_43 ?_
  refine mv_ldcwS (pc := 45) B (hNs.2.1 123 (by decide)).1 d_Shipped_writeProducts_45 ?_
  refine mv_callVv (pc := 48) (n := 4) (ci := 10) (C := R_Shipped) B (mK_ok sk sv) hNs rfl rfl (c_Shipped_ofTwo_k l hi _ 122 116 68 123 _ (by decide) (by decide) (by decide) (by decide) hQ) rfl (ma_goodc kc_Shipped_ofTwo) (B.2.2.2.1 _ k_723) (B.2.2.2.1 _ k_725) (B.2.2.2.1 _ ks_14) (B.2.2.2.1 _ k_35) ⟨by decide +kernel, by decide +kernel, by decide +kernel⟩ rfl d_Shipped_writeProducts_48 rfl (Nat.le_of_ble_eq_true rfl) ⟨by decide, by decide⟩ ⟨by decide, by decide⟩ ⟨by decide, by decide⟩ (mv_noH hno _) (fun σ48 h48 => ?_)
  obtain ⟨f48, hQ⟩ := h48
  have hF := hF.tr f48
  refine mv_aload_n (pc := 51) B d_Shipped_writeProducts_51 rfl 0 rfl ?_
  refine mv_ldcwS (pc := 52) B (hNs.2.1 124 (by decide)).1 d_Shipped_writeProducts_52 ?_
  refine mv_ldcS (pc := 55) B (hNs.2.1 116 (by decide)).1 d_Shipped_writeProducts_55 ?_
  refine mv_ldcS (pc := 57) B (hNs.2.1 27 (by decide)).1 d_Shipped_writeProducts_57 ?_
  refine mv_ldcwS (pc := 59) B (hNs.2.1 125 (by decide)).1 d_Shipped_writeProducts_59 ?_
  refine mv_callVv (pc := 62) (n := 4) (ci := 10) (C := R_Shipped) B (mK_ok sk sv) hNs rfl rfl (c_Shipped_ofTwo_k l hi _ 124 116 27 125 _ (by decide) (by decide) (by decide) (by decide) hQ) rfl (ma_goodc kc_Shipped_ofTwo) (B.2.2.2.1 _ k_723) (B.2.2.2.1 _ k_725) (B.2.2.2.1 _ ks_14) (B.2.2.2.1 _ k_35) ⟨by decide +kernel, by decide +kernel, by decide +kernel⟩ rfl d_Shipped_writeProducts_62 rfl (Nat.le_of_ble_eq_true rfl) ⟨by decide, by decide⟩ ⟨by decide, by decide⟩ ⟨by decide, by decide⟩ (mv_noH hno _) (fun σ62 h62 => ?_)
  obtain ⟨f62, hQ⟩ := h62
  have hF := hF.tr f62
  refine mv_aload_n (pc := 65) B d_Shipped_writeProducts_65 rfl 0 rfl ?_
  refine mv_ldcwS (pc := 66) B (hNs.2.1 126 (by decide)).1 d_Shipped_writeProducts_66 ?_
  refine mv_ldcS (pc := 69) B (hNs.2.1 116 (by decide)).1 d_Shipped_writeProducts_69 ?_
  refine mv_ldcS (pc := 71) B (hNs.2.1 30 (by decide)).1 d_Shipped_writeProducts_71 ?_
  refine mv_ldcwS (pc := 73) B (hNs.2.1 127 (by decide)).1 d_Shipped_writeProducts_73 ?_
  refine mv_callVv (pc := 76) (n := 4) (ci := 10) (C := R_Shipped) B (mK_ok sk sv) hNs rfl rfl (c_Shipped_ofTwo_k l hi _ 126 116 30 127 _ (by decide) (by decide) (by decide) (by decide) hQ) rfl (ma_goodc kc_Shipped_ofTwo) (B.2.2.2.1 _ k_723) (B.2.2.2.1 _ k_725) (B.2.2.2.1 _ ks_14) (B.2.2.2.1 _ k_35) ⟨by decide +kernel, by decide +kernel, by decide +kernel⟩ rfl d_Shipped_writeProducts_76 rfl (Nat.le_of_ble_eq_true rfl) ⟨by decide, by decide⟩ ⟨by decide, by decide⟩ ⟨by decide, by decide⟩ (mv_noH hno _) (fun σ76 h76 => ?_)
  obtain ⟨f76, hQ⟩ := h76
  have hF := hF.tr f76
  refine mv_aload_n (pc := 79) B d_Shipped_writeProducts_79 rfl 0 rfl ?_
  refine mv_ldcwS (pc := 80) B (hNs.2.1 128 (by decide)).1 d_Shipped_writeProducts_80 ?_
  refine mv_ldcS (pc := 83) B (hNs.2.1 116 (by decide)).1 d_Shipped_writeProducts_83 ?_
  refine mv_ldcS (pc := 85) B (hNs.2.1 33 (by decide)).1 d_Shipped_writeProducts_85 ?_
  refine mv_ldcwS (pc := 87) B (hNs.2.1 129 (by decide)).1 d_Shipped_writeProducts_87 ?_
  refine mv_callVv (pc := 90) (n := 4) (ci := 10) (C := R_Shipped) B (mK_ok sk sv) hNs rfl rfl (c_Shipped_ofTwo_k l hi _ 128 116 33 129 _ (by decide) (by decide) (by decide) (by decide) hQ) rfl (ma_goodc kc_Shipped_ofTwo) (B.2.2.2.1 _ k_723) (B.2.2.2.1 _ k_725) (B.2.2.2.1 _ ks_14) (B.2.2.2.1 _ k_35) ⟨by decide +kernel, by decide +kernel, by decide +kernel⟩ rfl d_Shipped_writeProducts_90 rfl (Nat.le_of_ble_eq_true rfl) ⟨by decide, by decide⟩ ⟨by decide, by decide⟩ ⟨by decide, by decide⟩ (mv_noH hno _) (fun σ90 h90 => ?_)
  obtain ⟨f90, hQ⟩ := h90
  have hF := hF.tr f90
  refine mv_aload_n (pc := 93) B d_Shipped_writeProducts_93 rfl 0 rfl ?_
  refine mv_ldcwS (pc := 94) B (hNs.2.1 130 (by decide)).1 d_Shipped_writeProducts_94 ?_
  refine mv_ldcS (pc := 97) B (hNs.2.1 116 (by decide)).1 d_Shipped_writeProducts_97 ?_
  refine mv_ldcS (pc := 99) B (hNs.2.1 36 (by decide)).1 d_Shipped_writeProducts_99 ?_
  refine mv_ldcwS (pc := 101) B (hNs.2.1 131 (by decide)).1 d_Shipped_writeProducts_101 ?_
  refine mv_callVv (pc := 104) (n := 4) (ci := 10) (C := R_Shipped) B (mK_ok sk sv) hNs rfl rfl (c_Shipped_ofTwo_k l hi _ 130 116 36 131 _ (by decide) (by decide) (by decide) (by decide) hQ) rfl (ma_goodc kc_Shipped_ofTwo) (B.2.2.2.1 _ k_723) (B.2.2.2.1 _ k_725) (B.2.2.2.1 _ ks_14) (B.2.2.2.1 _ k_35) ⟨by decide +kernel, by decide +kernel, by decide +kernel⟩ rfl d_Shipped_writeProducts_104 rfl (Nat.le_of_ble_eq_true rfl) ⟨by decide, by decide⟩ ⟨by decide, by decide⟩ ⟨by decide, by decide⟩ (mv_noH hno _) (fun σ104 h104 => ?_)
  obtain ⟨f104, hQ⟩ := h104
  have hF := hF.tr f104
  exact mv_vret (pc := 107) B hr d_Shipped_writeProducts_107 (Nat.le_refl _) (Nat.le_refl _) ⟨rfl, hF, hQ⟩

set_option maxHeartbeats 4000000 in
set_option maxRecDepth 100000 in
theorem c_Shipped_write_k (l : Launch) {dA : FieldType → ClassId} {D : va_G} {al : Nat → Nat} {sk sv : Nat → Nat} (hi : mv_inj (mg dA D al me2)) (σ : mv_H)   (hQ : ShQ σ 0) : mv_C l y_Shipped_write (Cond.code y_Shipped_write b_Shipped_write 1 (Option.none : Option Jvm.ClassFile.FieldType) :: ma) ({ frames := 8, cells := 0, slots := 0, locals := 174 }) (mg dA D al me2) (mK sk sv) [.ref (al 143)] σ (mv_Rv (fun σ1 => ShF σ σ1 ∧ ShQ σ1 (96))) := by
  refine mv_C.ofV (cc := b_Shipped_write) (nL := 1) (ret := (Option.none : Option Jvm.ClassFile.FieldType)) (by decide +kernel) rfl hi (Nat.le_of_ble_eq_true rfl) ?_
  intro p e s m below meth c B hNs hr hnm hno
  have hF : ShF σ σ := Fr.rf
  refine mv_aload_n (pc := 0) B d_Shipped_write_0 rfl 0 rfl ?_
  refine mv_ldcS (pc := 1) B (hNs.2.1 0 (by decide)).1 d_Shipped_write_1 ?_
  refine mv_callVv (pc := 3) (n := 1) (ci := 10) (C := R_Shipped) B (mK_ok sk sv) hNs rfl rfl (c_Shipped_put_k l hi _ 0 _ (by decide) hQ) rfl (ma_goodc kc_Shipped_put) (B.2.2.2.1 _ k_541) (B.2.2.2.1 _ k_543) (B.2.2.2.1 _ ks_3) (B.2.2.2.1 _ k_35) ⟨by decide +kernel, by decide +kernel, by decide +kernel⟩ rfl d_Shipped_write_3 rfl (Nat.le_of_ble_eq_true rfl) ⟨by decide, by decide⟩ ⟨by decide, by decide⟩ ⟨by decide, by decide⟩ (mv_noH hno _) (fun σ3 h3 => ?_)
  obtain ⟨f3, hQ⟩ := h3
  have hF := hF.tr f3
  refine mv_aload_n (pc := 6) B d_Shipped_write_6 rfl 0 rfl ?_
  refine mv_ldcS (pc := 7) B (hNs.2.1 1 (by decide)).1 d_Shipped_write_7 ?_
  refine mv_ldcS (pc := 9) B (hNs.2.1 2 (by decide)).1 d_Shipped_write_9 ?_
  refine mv_ldcS (pc := 11) B (hNs.2.1 3 (by decide)).1 d_Shipped_write_11 ?_
  refine mv_callVv (pc := 13) (n := 3) (ci := 10) (C := R_Shipped) B (mK_ok sk sv) hNs rfl rfl (c_Shipped_op_k l hi _ 1 2 3 _ (by decide) (by decide) (by decide) hQ) rfl (ma_goodc kc_Shipped_op) (B.2.2.2.1 _ k_596) (B.2.2.2.1 _ k_598) (B.2.2.2.1 _ ks_4) (B.2.2.2.1 _ k_35) ⟨by decide +kernel, by decide +kernel, by decide +kernel⟩ rfl d_Shipped_write_13 rfl (Nat.le_of_ble_eq_true rfl) ⟨by decide, by decide⟩ ⟨by decide, by decide⟩ ⟨by decide, by decide⟩ (mv_noH hno _) (fun σ13 h13 => ?_)
  obtain ⟨f13, hQ⟩ := h13
  have hF := hF.tr f13
  refine mv_aload_n (pc := 16) B d_Shipped_write_16 rfl 0 rfl ?_
  refine mv_ldcS (pc := 17) B (hNs.2.1 7 (by decide)).1 d_Shipped_write_17 ?_
  refine mv_ldcS (pc := 19) B (hNs.2.1 8 (by decide)).1 d_Shipped_write_19 ?_
  refine mv_ldcS (pc := 21) B (hNs.2.1 9 (by decide)).1 d_Shipped_write_21 ?_
  refine mv_callVv (pc := 23) (n := 3) (ci := 10) (C := R_Shipped) B (mK_ok sk sv) hNs rfl rfl (c_Shipped_op_k l hi _ 7 8 9 _ (by decide) (by decide) (by decide) hQ) rfl (ma_goodc kc_Shipped_op) (B.2.2.2.1 _ k_596) (B.2.2.2.1 _ k_598) (B.2.2.2.1 _ ks_4) (B.2.2.2.1 _ k_35) ⟨by decide +kernel, by decide +kernel, by decide +kernel⟩ rfl d_Shipped_write_23 rfl (Nat.le_of_ble_eq_true rfl) ⟨by decide, by decide⟩ ⟨by decide, by decide⟩ ⟨by decide, by decide⟩ (mv_noH hno _) (fun σ23 h23 => ?_)
  obtain ⟨f23, hQ⟩ := h23
  have hF := hF.tr f23
  refine mv_aload_n (pc := 26) B d_Shipped_write_26 rfl 0 rfl ?_
  refine mv_ldcS (pc := 27) B (hNs.2.1 10 (by decide)).1 d_Shipped_write_27 ?_
  refine mv_ldcS (pc := 29) B (hNs.2.1 11 (by decide)).1 d_Shipped_write_29 ?_
  refine mv_ldcS (pc := 31) B (hNs.2.1 12 (by decide)).1 d_Shipped_write_31 ?_
  refine mv_callVv (pc := 33) (n := 3) (ci := 10) (C := R_Shipped) B (mK_ok sk sv) hNs rfl rfl (c_Shipped_op_k l hi _ 10 11 12 _ (by decide) (by decide) (by decide) hQ) rfl (ma_goodc kc_Shipped_op) (B.2.2.2.1 _ k_596) (B.2.2.2.1 _ k_598) (B.2.2.2.1 _ ks_4) (B.2.2.2.1 _ k_35) ⟨by decide +kernel, by decide +kernel, by decide +kernel⟩ rfl d_Shipped_write_33 rfl (Nat.le_of_ble_eq_true rfl) ⟨by decide, by decide⟩ ⟨by decide, by decide⟩ ⟨by decide, by decide⟩ (mv_noH hno _) (fun σ33 h33 => ?_)
  obtain ⟨f33, hQ⟩ := h33
  have hF := hF.tr f33
  refine mv_aload_n (pc := 36) B d_Shipped_write_36 rfl 0 rfl ?_
  refine mv_ldcS (pc := 37) B (hNs.2.1 13 (by decide)).1 d_Shipped_write_37 ?_
  refine mv_ldcS (pc := 39) B (hNs.2.1 14 (by decide)).1 d_Shipped_write_39 ?_
  refine mv_ldcS (pc := 41) B (hNs.2.1 15 (by decide)).1 d_Shipped_write_41 ?_
  refine mv_callVv (pc := 43) (n := 3) (ci := 10) (C := R_Shipped) B (mK_ok sk sv) hNs rfl rfl (c_Shipped_op_k l hi _ 13 14 15 _ (by decide) (by decide) (by decide) hQ) rfl (ma_goodc kc_Shipped_op) (B.2.2.2.1 _ k_596) (B.2.2.2.1 _ k_598) (B.2.2.2.1 _ ks_4) (B.2.2.2.1 _ k_35) ⟨by decide +kernel, by decide +kernel, by decide +kernel⟩ rfl d_Shipped_write_43 rfl (Nat.le_of_ble_eq_true rfl) ⟨by decide, by decide⟩ ⟨by decide, by decide⟩ ⟨by decide, by decide⟩ (mv_noH hno _) (fun σ43 h43 => ?_)
  obtain ⟨f43, hQ⟩ := h43
  have hF := hF.tr f43
  refine mv_aload_n (pc := 46) B d_Shipped_write_46 rfl 0 rfl ?_
  refine mv_ldcS (pc := 47) B (hNs.2.1 16 (by decide)).1 d_Shipped_write_47 ?_
  refine mv_ldcS (pc := 49) B (hNs.2.1 17 (by decide)).1 d_Shipped_write_49 ?_
  refine mv_ldcS (pc := 51) B (hNs.2.1 18 (by decide)).1 d_Shipped_write_51 ?_
  refine mv_callVv (pc := 53) (n := 3) (ci := 10) (C := R_Shipped) B (mK_ok sk sv) hNs rfl rfl (c_Shipped_branch_k l hi _ 16 17 18 _ (by decide) (by decide) (by decide) hQ) rfl (ma_goodc kc_Shipped_branch) (B.2.2.2.1 _ k_621) (B.2.2.2.1 _ k_623) (B.2.2.2.1 _ ks_6) (B.2.2.2.1 _ k_35) ⟨by decide +kernel, by decide +kernel, by decide +kernel⟩ rfl d_Shipped_write_53 rfl (Nat.le_of_ble_eq_true rfl) ⟨by decide, by decide⟩ ⟨by decide, by decide⟩ ⟨by decide, by decide⟩ (mv_noH hno _) (fun σ53 h53 => ?_)
  obtain ⟨f53, hQ⟩ := h53
  have hF := hF.tr f53
  refine mv_aload_n (pc := 56) B d_Shipped_write_56 rfl 0 rfl ?_
  refine mv_ldcS (pc := 57) B (hNs.2.1 23 (by decide)).1 d_Shipped_write_57 ?_
  refine mv_ldcS (pc := 59) B (hNs.2.1 24 (by decide)).1 d_Shipped_write_59 ?_
  refine mv_ldcS (pc := 61) B (hNs.2.1 25 (by decide)).1 d_Shipped_write_61 ?_
  refine mv_callVv (pc := 63) (n := 3) (ci := 10) (C := R_Shipped) B (mK_ok sk sv) hNs rfl rfl (c_Shipped_branch_k l hi _ 23 24 25 _ (by decide) (by decide) (by decide) hQ) rfl (ma_goodc kc_Shipped_branch) (B.2.2.2.1 _ k_621) (B.2.2.2.1 _ k_623) (B.2.2.2.1 _ ks_6) (B.2.2.2.1 _ k_35) ⟨by decide +kernel, by decide +kernel, by decide +kernel⟩ rfl d_Shipped_write_63 rfl (Nat.le_of_ble_eq_true rfl) ⟨by decide, by decide⟩ ⟨by decide, by decide⟩ ⟨by decide, by decide⟩ (mv_noH hno _) (fun σ63 h63 => ?_)
  obtain ⟨f63, hQ⟩ := h63
  have hF := hF.tr f63
  refine mv_aload_n (pc := 66) B d_Shipped_write_66 rfl 0 rfl ?_
  refine mv_ldcS (pc := 67) B (hNs.2.1 26 (by decide)).1 d_Shipped_write_67 ?_
  refine mv_ldcS (pc := 69) B (hNs.2.1 27 (by decide)).1 d_Shipped_write_69 ?_
  refine mv_ldcS (pc := 71) B (hNs.2.1 28 (by decide)).1 d_Shipped_write_71 ?_
  refine mv_callVv (pc := 73) (n := 3) (ci := 10) (C := R_Shipped) B (mK_ok sk sv) hNs rfl rfl (c_Shipped_branch_k l hi _ 26 27 28 _ (by decide) (by decide) (by decide) hQ) rfl (ma_goodc kc_Shipped_branch) (B.2.2.2.1 _ k_621) (B.2.2.2.1 _ k_623) (B.2.2.2.1 _ ks_6) (B.2.2.2.1 _ k_35) ⟨by decide +kernel, by decide +kernel, by decide +kernel⟩ rfl d_Shipped_write_73 rfl (Nat.le_of_ble_eq_true rfl) ⟨by decide, by decide⟩ ⟨by decide, by decide⟩ ⟨by decide, by decide⟩ (mv_noH hno _) (fun σ73 h73 => ?_)
  obtain ⟨f73, hQ⟩ := h73
  have hF := hF.tr f73
  refine mv_aload_n (pc := 76) B d_Shipped_write_76 rfl 0 rfl ?_
  refine mv_ldcS (pc := 77) B (hNs.2.1 29 (by decide)).1 d_Shipped_write_77 ?_
  refine mv_ldcS (pc := 79) B (hNs.2.1 30 (by decide)).1 d_Shipped_write_79 ?_
  refine mv_ldcS (pc := 81) B (hNs.2.1 31 (by decide)).1 d_Shipped_write_81 ?_
  refine mv_callVv (pc := 83) (n := 3) (ci := 10) (C := R_Shipped) B (mK_ok sk sv) hNs rfl rfl (c_Shipped_branch_k l hi _ 29 30 31 _ (by decide) (by decide) (by decide) hQ) rfl (ma_goodc kc_Shipped_branch) (B.2.2.2.1 _ k_621) (B.2.2.2.1 _ k_623) (B.2.2.2.1 _ ks_6) (B.2.2.2.1 _ k_35) ⟨by decide +kernel, by decide +kernel, by decide +kernel⟩ rfl d_Shipped_write_83 rfl (Nat.le_of_ble_eq_true rfl) ⟨by decide, by decide⟩ ⟨by decide, by decide⟩ ⟨by decide, by decide⟩ (mv_noH hno _) (fun σ83 h83 => ?_)
  obtain ⟨f83, hQ⟩ := h83
  have hF := hF.tr f83
  refine mv_aload_n (pc := 86) B d_Shipped_write_86 rfl 0 rfl ?_
  refine mv_ldcS (pc := 87) B (hNs.2.1 32 (by decide)).1 d_Shipped_write_87 ?_
  refine mv_ldcS (pc := 89) B (hNs.2.1 33 (by decide)).1 d_Shipped_write_89 ?_
  refine mv_ldcS (pc := 91) B (hNs.2.1 34 (by decide)).1 d_Shipped_write_91 ?_
  refine mv_callVv (pc := 93) (n := 3) (ci := 10) (C := R_Shipped) B (mK_ok sk sv) hNs rfl rfl (c_Shipped_branch_k l hi _ 32 33 34 _ (by decide) (by decide) (by decide) hQ) rfl (ma_goodc kc_Shipped_branch) (B.2.2.2.1 _ k_621) (B.2.2.2.1 _ k_623) (B.2.2.2.1 _ ks_6) (B.2.2.2.1 _ k_35) ⟨by decide +kernel, by decide +kernel, by decide +kernel⟩ rfl d_Shipped_write_93 rfl (Nat.le_of_ble_eq_true rfl) ⟨by decide, by decide⟩ ⟨by decide, by decide⟩ ⟨by decide, by decide⟩ (mv_noH hno _) (fun σ93 h93 => ?_)
  obtain ⟨f93, hQ⟩ := h93
  have hF := hF.tr f93
  refine mv_aload_n (pc := 96) B d_Shipped_write_96 rfl 0 rfl ?_
  refine mv_ldcS (pc := 97) B (hNs.2.1 35 (by decide)).1 d_Shipped_write_97 ?_
  refine mv_ldcS (pc := 99) B (hNs.2.1 36 (by decide)).1 d_Shipped_write_99 ?_
  refine mv_ldcS (pc := 101) B (hNs.2.1 37 (by decide)).1 d_Shipped_write_101 ?_
  refine mv_callVv (pc := 103) (n := 3) (ci := 10) (C := R_Shipped) B (mK_ok sk sv) hNs rfl rfl (c_Shipped_branch_k l hi _ 35 36 37 _ (by decide) (by decide) (by decide) hQ) rfl (ma_goodc kc_Shipped_branch) (B.2.2.2.1 _ k_621) (B.2.2.2.1 _ k_623) (B.2.2.2.1 _ ks_6) (B.2.2.2.1 _ k_35) ⟨by decide +kernel, by decide +kernel, by decide +kernel⟩ rfl d_Shipped_write_103 rfl (Nat.le_of_ble_eq_true rfl) ⟨by decide, by decide⟩ ⟨by decide, by decide⟩ ⟨by decide, by decide⟩ (mv_noH hno _) (fun σ103 h103 => ?_)
  obtain ⟨f103, hQ⟩ := h103
  have hF := hF.tr f103
  refine mv_aload_n (pc := 106) B d_Shipped_write_106 rfl 0 rfl ?_
  refine mv_ldcS (pc := 107) B (hNs.2.1 38 (by decide)).1 d_Shipped_write_107 ?_
  refine mv_ldcS (pc := 109) B (hNs.2.1 17 (by decide)).1 d_Shipped_write_109 ?_
  refine mv_ldcS (pc := 111) B (hNs.2.1 39 (by decide)).1 d_Shipped_write_111 ?_
  refine mv_callVv (pc := 113) (n := 3) (ci := 10) (C := R_Shipped) B (mK_ok sk sv) hNs rfl rfl (c_Shipped_load_k l hi _ 38 17 39 _ (by decide) (by decide) (by decide) hQ) rfl (ma_goodc kc_Shipped_load) (B.2.2.2.1 _ k_646) (B.2.2.2.1 _ k_648) (B.2.2.2.1 _ ks_7) (B.2.2.2.1 _ k_35) ⟨by decide +kernel, by decide +kernel, by decide +kernel⟩ rfl d_Shipped_write_113 rfl (Nat.le_of_ble_eq_true rfl) ⟨by decide, by decide⟩ ⟨by decide, by decide⟩ ⟨by decide, by decide⟩ (mv_noH hno _) (fun σ113 h113 => ?_)
  obtain ⟨f113, hQ⟩ := h113
  have hF := hF.tr f113
  refine mv_aload_n (pc := 116) B d_Shipped_write_116 rfl 0 rfl ?_
  refine mv_ldcS (pc := 117) B (hNs.2.1 44 (by decide)).1 d_Shipped_write_117 ?_
  refine mv_ldcS (pc := 119) B (hNs.2.1 24 (by decide)).1 d_Shipped_write_119 ?_
  refine mv_ldcS (pc := 121) B (hNs.2.1 45 (by decide)).1 d_Shipped_write_121 ?_
  refine mv_callVv (pc := 123) (n := 3) (ci := 10) (C := R_Shipped) B (mK_ok sk sv) hNs rfl rfl (c_Shipped_load_k l hi _ 44 24 45 _ (by decide) (by decide) (by decide) hQ) rfl (ma_goodc kc_Shipped_load) (B.2.2.2.1 _ k_646) (B.2.2.2.1 _ k_648) (B.2.2.2.1 _ ks_7) (B.2.2.2.1 _ k_35) ⟨by decide +kernel, by decide +kernel, by decide +kernel⟩ rfl d_Shipped_write_123 rfl (Nat.le_of_ble_eq_true rfl) ⟨by decide, by decide⟩ ⟨by decide, by decide⟩ ⟨by decide, by decide⟩ (mv_noH hno _) (fun σ123 h123 => ?_)
  obtain ⟨f123, hQ⟩ := h123
  have hF := hF.tr f123
  refine mv_aload_n (pc := 126) B d_Shipped_write_126 rfl 0 rfl ?_
  refine mv_ldcS (pc := 127) B (hNs.2.1 46 (by decide)).1 d_Shipped_write_127 ?_
  refine mv_ldcS (pc := 129) B (hNs.2.1 47 (by decide)).1 d_Shipped_write_129 ?_
  refine mv_ldcS (pc := 131) B (hNs.2.1 48 (by decide)).1 d_Shipped_write_131 ?_
  refine mv_callVv (pc := 133) (n := 3) (ci := 10) (C := R_Shipped) B (mK_ok sk sv) hNs rfl rfl (c_Shipped_load_k l hi _ 46 47 48 _ (by decide) (by decide) (by decide) hQ) rfl (ma_goodc kc_Shipped_load) (B.2.2.2.1 _ k_646) (B.2.2.2.1 _ k_648) (B.2.2.2.1 _ ks_7) (B.2.2.2.1 _ k_35) ⟨by decide +kernel, by decide +kernel, by decide +kernel⟩ rfl d_Shipped_write_133 rfl (Nat.le_of_ble_eq_true rfl) ⟨by decide, by decide⟩ ⟨by decide, by decide⟩ ⟨by decide, by decide⟩ (mv_noH hno _) (fun σ133 h133 => ?_)
  obtain ⟨f133, hQ⟩ := h133
  have hF := hF.tr f133
  refine mv_aload_n (pc := 136) B d_Shipped_write_136 rfl 0 rfl ?_
  refine mv_ldcS (pc := 137) B (hNs.2.1 49 (by decide)).1 d_Shipped_write_137 ?_
  refine mv_ldcS (pc := 139) B (hNs.2.1 27 (by decide)).1 d_Shipped_write_139 ?_
  refine mv_ldcS (pc := 141) B (hNs.2.1 50 (by decide)).1 d_Shipped_write_141 ?_
  refine mv_callVv (pc := 143) (n := 3) (ci := 10) (C := R_Shipped) B (mK_ok sk sv) hNs rfl rfl (c_Shipped_load_k l hi _ 49 27 50 _ (by decide) (by decide) (by decide) hQ) rfl (ma_goodc kc_Shipped_load) (B.2.2.2.1 _ k_646) (B.2.2.2.1 _ k_648) (B.2.2.2.1 _ ks_7) (B.2.2.2.1 _ k_35) ⟨by decide +kernel, by decide +kernel, by decide +kernel⟩ rfl d_Shipped_write_143 rfl (Nat.le_of_ble_eq_true rfl) ⟨by decide, by decide⟩ ⟨by decide, by decide⟩ ⟨by decide, by decide⟩ (mv_noH hno _) (fun σ143 h143 => ?_)
  obtain ⟨f143, hQ⟩ := h143
  have hF := hF.tr f143
  refine mv_aload_n (pc := 146) B d_Shipped_write_146 rfl 0 rfl ?_
  refine mv_ldcS (pc := 147) B (hNs.2.1 51 (by decide)).1 d_Shipped_write_147 ?_
  refine mv_ldcS (pc := 149) B (hNs.2.1 30 (by decide)).1 d_Shipped_write_149 ?_
  refine mv_ldcS (pc := 151) B (hNs.2.1 52 (by decide)).1 d_Shipped_write_151 ?_
  refine mv_callVv (pc := 153) (n := 3) (ci := 10) (C := R_Shipped) B (mK_ok sk sv) hNs rfl rfl (c_Shipped_load_k l hi _ 51 30 52 _ (by decide) (by decide) (by decide) hQ) rfl (ma_goodc kc_Shipped_load) (B.2.2.2.1 _ k_646) (B.2.2.2.1 _ k_648) (B.2.2.2.1 _ ks_7) (B.2.2.2.1 _ k_35) ⟨by decide +kernel, by decide +kernel, by decide +kernel⟩ rfl d_Shipped_write_153 rfl (Nat.le_of_ble_eq_true rfl) ⟨by decide, by decide⟩ ⟨by decide, by decide⟩ ⟨by decide, by decide⟩ (mv_noH hno _) (fun σ153 h153 => ?_)
  obtain ⟨f153, hQ⟩ := h153
  have hF := hF.tr f153
  refine mv_aload_n (pc := 156) B d_Shipped_write_156 rfl 0 rfl ?_
  refine mv_ldcS (pc := 157) B (hNs.2.1 53 (by decide)).1 d_Shipped_write_157 ?_
  refine mv_ldcS (pc := 159) B (hNs.2.1 17 (by decide)).1 d_Shipped_write_159 ?_
  refine mv_ldcS (pc := 161) B (hNs.2.1 4 (by decide)).1 d_Shipped_write_161 ?_
  refine mv_callVv (pc := 163) (n := 3) (ci := 10) (C := R_Shipped) B (mK_ok sk sv) hNs rfl rfl (c_Shipped_store_k l hi _ 53 17 4 _ (by decide) (by decide) (by decide) hQ) rfl (ma_goodc kc_Shipped_store) (B.2.2.2.1 _ k_664) (B.2.2.2.1 _ k_666) (B.2.2.2.1 _ ks_8) (B.2.2.2.1 _ k_35) ⟨by decide +kernel, by decide +kernel, by decide +kernel⟩ rfl d_Shipped_write_163 rfl (Nat.le_of_ble_eq_true rfl) ⟨by decide, by decide⟩ ⟨by decide, by decide⟩ ⟨by decide, by decide⟩ (mv_noH hno _) (fun σ163 h163 => ?_)
  obtain ⟨f163, hQ⟩ := h163
  have hF := hF.tr f163
  refine mv_aload_n (pc := 166) B d_Shipped_write_166 rfl 0 rfl ?_
  refine mv_ldcS (pc := 167) B (hNs.2.1 57 (by decide)).1 d_Shipped_write_167 ?_
  refine mv_ldcS (pc := 169) B (hNs.2.1 24 (by decide)).1 d_Shipped_write_169 ?_
  refine mv_ldcS (pc := 171) B (hNs.2.1 58 (by decide)).1 d_Shipped_write_171 ?_
  refine mv_callVv (pc := 173) (n := 3) (ci := 10) (C := R_Shipped) B (mK_ok sk sv) hNs rfl rfl (c_Shipped_store_k l hi _ 57 24 58 _ (by decide) (by decide) (by decide) hQ) rfl (ma_goodc kc_Shipped_store) (B.2.2.2.1 _ k_664) (B.2.2.2.1 _ k_666) (B.2.2.2.1 _ ks_8) (B.2.2.2.1 _ k_35) ⟨by decide +kernel, by decide +kernel, by decide +kernel⟩ rfl d_Shipped_write_173 rfl (Nat.le_of_ble_eq_true rfl) ⟨by decide, by decide⟩ ⟨by decide, by decide⟩ ⟨by decide, by decide⟩ (mv_noH hno _) (fun σ173 h173 => ?_)
  obtain ⟨f173, hQ⟩ := h173
  have hF := hF.tr f173
  refine mv_aload_n (pc := 176) B d_Shipped_write_176 rfl 0 rfl ?_
  refine mv_ldcS (pc := 177) B (hNs.2.1 59 (by decide)).1 d_Shipped_write_177 ?_
  refine mv_ldcS (pc := 179) B (hNs.2.1 47 (by decide)).1 d_Shipped_write_179 ?_
  refine mv_ldcS (pc := 181) B (hNs.2.1 60 (by decide)).1 d_Shipped_write_181 ?_
  refine mv_callVv (pc := 183) (n := 3) (ci := 10) (C := R_Shipped) B (mK_ok sk sv) hNs rfl rfl (c_Shipped_store_k l hi _ 59 47 60 _ (by decide) (by decide) (by decide) hQ) rfl (ma_goodc kc_Shipped_store) (B.2.2.2.1 _ k_664) (B.2.2.2.1 _ k_666) (B.2.2.2.1 _ ks_8) (B.2.2.2.1 _ k_35) ⟨by decide +kernel, by decide +kernel, by decide +kernel⟩ rfl d_Shipped_write_183 rfl (Nat.le_of_ble_eq_true rfl) ⟨by decide, by decide⟩ ⟨by decide, by decide⟩ ⟨by decide, by decide⟩ (mv_noH hno _) (fun σ183 h183 => ?_)
  obtain ⟨f183, hQ⟩ := h183
  have hF := hF.tr f183
  refine mv_aload_n (pc := 186) B d_Shipped_write_186 rfl 0 rfl ?_
  refine mv_callVv (pc := 187) (n := 0) (ci := 10) (C := R_Shipped) B (mK_ok sk sv) hNs rfl rfl (c_Shipped_writeOfConstants_k l hi _  _  hQ) rfl (ma_goodc kc_Shipped_writeOfConstants) (B.2.2.2.1 _ k_675) (B.2.2.2.1 _ k_677) (B.2.2.2.1 _ ks_9) (B.2.2.2.1 _ k_35) ⟨by decide +kernel, by decide +kernel, by decide +kernel⟩ rfl d_Shipped_write_187 rfl (Nat.le_of_ble_eq_true rfl) ⟨by decide, by decide⟩ ⟨by decide, by decide⟩ ⟨by decide, by decide⟩ (mv_noH hno _) (fun σ187 h187 => ?_)
  obtain ⟨f187, hQ⟩ := h187
  have hF := hF.tr f187
  refine mv_aload_n (pc := 190) B d_Shipped_write_190 rfl 0 rfl ?_
  refine mv_callVv (pc := 191) (n := 0) (ci := 10) (C := R_Shipped) B (mK_ok sk sv) hNs rfl rfl (c_Shipped_writeOfTwo_k l hi _  _  hQ) rfl (ma_goodc kc_Shipped_writeOfTwo) (B.2.2.2.1 _ k_717) (B.2.2.2.1 _ k_719) (B.2.2.2.1 _ ks_13) (B.2.2.2.1 _ k_35) ⟨by decide +kernel, by decide +kernel, by decide +kernel⟩ rfl d_Shipped_write_191 rfl (Nat.le_of_ble_eq_true rfl) ⟨by decide, by decide⟩ ⟨by decide, by decide⟩ ⟨by decide, by decide⟩ (mv_noH hno _) (fun σ191 h191 => ?_)
  obtain ⟨f191, hQ⟩ := h191
  have hF := hF.tr f191
  refine mv_aload_n (pc := 194) B d_Shipped_write_194 rfl 0 rfl ?_
  refine mv_ldcS (pc := 195) B (hNs.2.1 107 (by decide)).1 d_Shipped_write_195 ?_
  refine mv_ldcS (pc := 197) B (hNs.2.1 108 (by decide)).1 d_Shipped_write_197 ?_
  refine mv_ldcS (pc := 199) B (hNs.2.1 4 (by decide)).1 d_Shipped_write_199 ?_
  refine mv_callVv (pc := 201) (n := 3) (ci := 10) (C := R_Shipped) B (mK_ok sk sv) hNs rfl rfl (c_Shipped_op_k l hi _ 107 108 4 _ (by decide) (by decide) (by decide) hQ) rfl (ma_goodc kc_Shipped_op) (B.2.2.2.1 _ k_596) (B.2.2.2.1 _ k_598) (B.2.2.2.1 _ ks_4) (B.2.2.2.1 _ k_35) ⟨by decide +kernel, by decide +kernel, by decide +kernel⟩ rfl d_Shipped_write_201 rfl (Nat.le_of_ble_eq_true rfl) ⟨by decide, by decide⟩ ⟨by decide, by decide⟩ ⟨by decide, by decide⟩ (mv_noH hno _) (fun σ201 h201 => ?_)
  obtain ⟨f201, hQ⟩ := h201
  have hF := hF.tr f201
  refine mv_aload_n (pc := 204) B d_Shipped_write_204 rfl 0 rfl ?_
  refine mv_ldcS (pc := 205) B (hNs.2.1 109 (by decide)).1 d_Shipped_write_205 ?_
  refine mv_ldcS (pc := 207) B (hNs.2.1 110 (by decide)).1 d_Shipped_write_207 ?_
  refine mv_ldcS (pc := 209) B (hNs.2.1 111 (by decide)).1 d_Shipped_write_209 ?_
  refine mv_callVv (pc := 211) (n := 3) (ci := 10) (C := R_Shipped) B (mK_ok sk sv) hNs rfl rfl (c_Shipped_op_k l hi _ 109 110 111 _ (by decide) (by decide) (by decide) hQ) rfl (ma_goodc kc_Shipped_op) (B.2.2.2.1 _ k_596) (B.2.2.2.1 _ k_598) (B.2.2.2.1 _ ks_4) (B.2.2.2.1 _ k_35) ⟨by decide +kernel, by decide +kernel, by decide +kernel⟩ rfl d_Shipped_write_211 rfl (Nat.le_of_ble_eq_true rfl) ⟨by decide, by decide⟩ ⟨by decide, by decide⟩ ⟨by decide, by decide⟩ (mv_noH hno _) (fun σ211 h211 => ?_)
  obtain ⟨f211, hQ⟩ := h211
  have hF := hF.tr f211
  refine mv_aload_n (pc := 214) B d_Shipped_write_214 rfl 0 rfl ?_
  refine mv_ldcS (pc := 215) B (hNs.2.1 112 (by decide)).1 d_Shipped_write_215 ?_
  refine mv_ldcS (pc := 217) B (hNs.2.1 113 (by decide)).1 d_Shipped_write_217 ?_
  refine mv_ldcS (pc := 219) B (hNs.2.1 114 (by decide)).1 d_Shipped_write_219 ?_
  refine mv_callVv (pc := 221) (n := 3) (ci := 10) (C := R_Shipped) B (mK_ok sk sv) hNs rfl rfl (c_Shipped_op_k l hi _ 112 113 114 _ (by decide) (by decide) (by decide) hQ) rfl (ma_goodc kc_Shipped_op) (B.2.2.2.1 _ k_596) (B.2.2.2.1 _ k_598) (B.2.2.2.1 _ ks_4) (B.2.2.2.1 _ k_35) ⟨by decide +kernel, by decide +kernel, by decide +kernel⟩ rfl d_Shipped_write_221 rfl (Nat.le_of_ble_eq_true rfl) ⟨by decide, by decide⟩ ⟨by decide, by decide⟩ ⟨by decide, by decide⟩ (mv_noH hno _) (fun σ221 h221 => ?_)
  obtain ⟨f221, hQ⟩ := h221
  have hF := hF.tr f221
  refine mv_aload_n (pc := 224) B d_Shipped_write_224 rfl 0 rfl ?_
  refine mv_callVv (pc := 225) (n := 0) (ci := 10) (C := R_Shipped) B (mK_ok sk sv) hNs rfl rfl (c_Shipped_writeProducts_k l hi _  _  hQ) rfl (ma_goodc kc_Shipped_writeProducts) (B.2.2.2.1 _ k_755) (B.2.2.2.1 _ k_757) (B.2.2.2.1 _ ks_15) (B.2.2.2.1 _ k_35) ⟨by decide +kernel, by decide +kernel, by decide +kernel⟩ rfl d_Shipped_write_225 rfl (Nat.le_of_ble_eq_true rfl) ⟨by decide, by decide⟩ ⟨by decide, by decide⟩ ⟨by decide, by decide⟩ (mv_noH hno _) (fun σ225 h225 => ?_)
  obtain ⟨f225, hQ⟩ := h225
  have hF := hF.tr f225
  exact mv_vret (pc := 228) B hr d_Shipped_write_228 (Nat.le_refl _) (Nat.le_refl _) ⟨rfl, hF, hQ.up (by decide +kernel)⟩

set_option maxRecDepth 100000 in
theorem mq_145 {dA : FieldType → ClassId} {D : va_G} {al : Nat → Nat} : mq dA D al 145 = mg dA D al me2 := rfl
set_option maxRecDepth 100000 in
theorem mq_161 {dA : FieldType → ClassId} {D : va_G} {al : Nat → Nat} : mq dA D al 161 = mg dA D al me := rfl
set_option maxRecDepth 100000 in
theorem mq_143 {dA : FieldType → ClassId} {D : va_G} {al : Nat → Nat} : mq dA D al 143 = mg dA D al [] := rfl
