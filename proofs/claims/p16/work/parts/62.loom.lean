/-! MachineLoom: what throws nothing -/
theorem nar_byte (x : Int32) : -128 ≤ (vp_nar .byte x).toInt ∧ (vp_nar .byte x).toInt ≤ 127 := by
  have e : vp_nar .byte x = x.toInt8.toInt32 := rfl
  rw [e, Int8.toInt_toInt32]
  have h1 := Int8.le_toInt x.toInt8
  have h2 := Int8.toInt_lt x.toInt8
  omega
/-- INPUT: k bytes of it -/
def In (σ : mv_H) (k : Nat) : Prop := (mv_i σ 0 1).toInt = k ∧ k ≤ 32768 ∧ ∀ i, i < 32768 → -128 ≤ (mv_a σ 1 i).toInt ∧ (mv_a σ 1 i).toInt ≤ 127
abbrev InF : mv_H → mv_H → Prop := Fr (fun o k => o = 0 ∧ k = 1) (fun o => o = 1) (fun _ => False)
def in_add (σ : mv_H) (v : Int32) : mv_H := mv_si (mv_sa σ 1 (mv_i σ 0 1).toNatClampNeg v) 0 1 (mv_i σ 0 1 + 1)
theorem In.add {σ : mv_H} {k : Nat} (h : In σ k) (hk : k < 32768) {v : Int32} (hv : -128 ≤ v.toInt ∧ v.toInt ≤ 127) : In (in_add σ v) (k + 1) := by
  obtain ⟨h1, h2, h3⟩ := h
  refine ⟨by show (mv_i σ 0 1 + 1).toInt = _; rw [i32_inc (by omega)]; omega, by omega, fun i hi => ?_⟩
  have e : mv_a (in_add σ v) 1 i = if i = (mv_i σ 0 1).toNatClampNeg then v else mv_a σ 1 i := row1 σ 1 _ v i
  rw [e]
  split
  · exact hv
  · exact h3 i hi
/-- the byte that a number gives at a shift -/
def pb (x j : Int32) : Int32 := vp_nar .byte (x >>> (j &&& 31)).toInt8.toInt32
/-- n bytes of a number are put behind k -/
def PN (σ τ : mv_H) (x : Int32) (k n : Nat) : Prop := (∀ i, (i < k ∨ k + n ≤ i) → mv_a τ 1 i = mv_a σ 1 i) ∧ ∀ j, j < n → mv_a τ 1 (k + j) = pb x (Int32.ofInt (24 - 8 * (j : Int)))
theorem PN.rf {σ : mv_H} {x : Int32} {k : Nat} : PN σ σ x k 0 := ⟨fun _ _ => rfl, fun j h => absurd h (Nat.not_lt_zero _)⟩
theorem PN.add {σ τ : mv_H} {x y : Int32} {k n q : Nat} (h : PN σ τ x k n) (hz : (mv_i τ 0 1).toInt = q) (hq : q = k + n) (hy : y.toInt = 24 - 8 * (n : Int)) : PN σ (in_add τ (pb x y)) x k (n + 1) := by
  have e : ∀ i, mv_a (in_add τ (pb x y)) 1 i = if i = (mv_i τ 0 1).toNatClampNeg then pb x y else mv_a τ 1 i := fun i => row1 τ 1 _ (pb x y) i
  have hc : (mv_i τ 0 1).toNatClampNeg = k + n := by
    have := i32_cl (x := mv_i τ 0 1) (by omega)
    omega
  refine ⟨fun i hi => ?_, fun j hj => ?_⟩
  · rw [e, if_neg (by omega)]
    exact h.1 i (by omega)
  · rw [e]
    by_cases z : j = n
    · subst z
      rw [if_pos (by omega), ← hy, Int32.ofInt_toInt]
    · rw [if_neg (by omega)]
      exact h.2 j (by omega)
def y_Loom_putNumber : MethodName := ⟨"MachineLoom", "putNumber", "(I)V"⟩
abbrev b_Loom_putNumber : ByteArray := prog_1_method_3_code
theorem kc_Loom_putNumber : Cond.code y_Loom_putNumber b_Loom_putNumber 3 (Option.none : Option Jvm.ClassFile.FieldType) ∈ ma := ma_of (tb_8 _ (List.mem_of_getElem? (i := 15) rfl)) rfl
theorem k_486 : (Jvm.Cond.fieldLink "MachineLoom" (10 : Nat) "MachineLoom" "input" "[B") ∈ ma := ma_of (tb_3 _ (List.mem_of_getElem? (i := 6) rfl)) rfl
theorem k_487 : (Jvm.Cond.fieldLink "MachineLoom" (61 : Nat) "MachineLoom" "inputLength" "I") ∈ ma := ma_of (tb_3 _ (List.mem_of_getElem? (i := 7) rfl)) rfl
theorem d_Loom_putNumber_0 : decode b_Loom_putNumber 0 = .ok (.bipush 24, 2) := by decide +kernel
theorem d_Loom_putNumber_2 : decode b_Loom_putNumber 2 = .ok (.istore_n 2, 1) := by decide +kernel
theorem d_Loom_putNumber_3 : decode b_Loom_putNumber 3 = .ok (.iload_n 2, 1) := by decide +kernel
theorem d_Loom_putNumber_4 : decode b_Loom_putNumber 4 = .ok (.ifCond .lt (32), 3) := by decide +kernel
theorem d_Loom_putNumber_7 : decode b_Loom_putNumber 7 = .ok (.aload_n 0, 1) := by decide +kernel
theorem d_Loom_putNumber_8 : decode b_Loom_putNumber 8 = .ok (.getfield 10, 3) := by decide +kernel
theorem d_Loom_putNumber_11 : decode b_Loom_putNumber 11 = .ok (.aload_n 0, 1) := by decide +kernel
theorem d_Loom_putNumber_12 : decode b_Loom_putNumber 12 = .ok (.getfield 61, 3) := by decide +kernel
theorem d_Loom_putNumber_15 : decode b_Loom_putNumber 15 = .ok (.iload_n 1, 1) := by decide +kernel
theorem d_Loom_putNumber_16 : decode b_Loom_putNumber 16 = .ok (.iload_n 2, 1) := by decide +kernel
theorem d_Loom_putNumber_17 : decode b_Loom_putNumber 17 = .ok (.ishr, 1) := by decide +kernel
theorem d_Loom_putNumber_18 : decode b_Loom_putNumber 18 = .ok (.i2b, 1) := by decide +kernel
theorem d_Loom_putNumber_19 : decode b_Loom_putNumber 19 = .ok (.bastore, 1) := by decide +kernel
theorem d_Loom_putNumber_20 : decode b_Loom_putNumber 20 = .ok (.aload_n 0, 1) := by decide +kernel
theorem d_Loom_putNumber_21 : decode b_Loom_putNumber 21 = .ok (.dup, 1) := by decide +kernel
theorem d_Loom_putNumber_22 : decode b_Loom_putNumber 22 = .ok (.getfield 61, 3) := by decide +kernel
theorem d_Loom_putNumber_25 : decode b_Loom_putNumber 25 = .ok (.iconst 1, 1) := by decide +kernel
theorem d_Loom_putNumber_26 : decode b_Loom_putNumber 26 = .ok (.iadd, 1) := by decide +kernel
theorem d_Loom_putNumber_27 : decode b_Loom_putNumber 27 = .ok (.putfield 61, 3) := by decide +kernel
theorem d_Loom_putNumber_30 : decode b_Loom_putNumber 30 = .ok (.iinc 2 (-8), 3) := by decide +kernel
theorem d_Loom_putNumber_33 : decode b_Loom_putNumber 33 = .ok (.goto (-30), 3) := by decide +kernel
theorem d_Loom_putNumber_36 : decode b_Loom_putNumber 36 = .ok (.return_, 1) := by decide +kernel
set_option maxHeartbeats 4000000 in
set_option maxRecDepth 100000 in
theorem c_Loom_putNumber (l : Launch) {dA : FieldType → ClassId} {D : va_G} {al : Nat → Nat} {ext : mv_Sh} {sk sv : Nat → Nat} (hi : mv_inj (mg dA D al ext)) (σ : mv_H) (x9 : Int32) (k9 : Nat) (hsh : mh (mv_r σ)) (hI : In σ k9) (hk : k9 + 4 ≤ 32768) : mv_C l y_Loom_putNumber (Cond.code y_Loom_putNumber b_Loom_putNumber 3 (Option.none : Option Jvm.ClassFile.FieldType) :: ma) ({ frames := 0, cells := 0, slots := 0, locals := 0 }) (mg dA D al ext) (mK sk sv) [.ref (al 0), .int x9] σ (mv_Rv (fun σ1 => InF σ σ1 ∧ In σ1 (k9 + 4) ∧ PN σ σ1 x9 k9 4)) := by
  refine mv_C.ofV (cc := b_Loom_putNumber) (nL := 3) (ret := (Option.none : Option Jvm.ClassFile.FieldType)) (by decide +kernel) rfl hi (Nat.le_of_ble_eq_true rfl) ?_
  intro p e s m below meth c B hNs hr hnm hno
  have lp : ∀ (nn : Nat) (τ : mv_H) (jj : Int32) (kk : Nat) (q0 : -8 ≤ jj.toInt) (q1 : jj.toInt = 24 - 8 * ((kk : Int) - k9) ∧ k9 ≤ kk) (qI : In τ kk) (qF : InF σ τ) (qh : mh (mv_r τ)) (qP : PN σ τ x9 k9 (kk - k9)), (jj.toInt + 8).toNat < nn → mv_V p l e ({ frames := 0, cells := 0, slots := 0, locals := 0 }) s m ([.ref (al 0), .int x9] : List Value).toArray below meth c (mg dA D al ext) 3 0 0 (mv_Q (mg dA D al ext) below s 0 0 (mv_Rv (fun σ1 => InF σ σ1 ∧ In σ1 (k9 + 4) ∧ PN σ σ1 x9 k9 4))) τ 3 [(2, .int jj), (0, .ref (al 0)), (1, .int x9)] [] := by
    intro nn
    induction nn with
    | zero => intro τ jj kk q0 q1 qI qF qh qP hm; exact absurd hm (Nat.not_lt_zero _)
    | succ nn ih =>
      intro τ jj kk q0 q1 qI qF qh qP hm
      refine mv_iload_n (pc := 3) B d_Loom_putNumber_3 rfl 0 rfl ?_
      refine mv_if_lt (pc := 4) (tgt := 36) B d_Loom_putNumber_4 rfl (fun h4 => ?_) (fun h4 => ?_)
      · skip
        rw [Int32.lt_iff_toInt_lt] at h4
        simp only [Int32.reduceToInt] at h4
        have e4 : kk = k9 + 4 := by omega
        subst e4
        exact mv_vret (pc := 36) B hr d_Loom_putNumber_36 (Nat.le_refl _) (Nat.le_refl _) ⟨rfl, qF, qI, by rw [show k9 + 4 - k9 = 4 by omega] at qP; exact qP⟩
      · skip
        rw [Int32.lt_iff_toInt_lt] at h4
        simp only [Int32.reduceToInt] at h4
        have w2 : (jj + -8).toInt = jj.toInt - 8 := by exact i32_add (x := jj) (y := -8) (by show -2147483648 ≤ jj.toInt + -8; omega) (by show jj.toInt + -8 < 2147483648; omega)
        have hq1 := qI.1
        refine mv_aload_n (pc := 7) B d_Loom_putNumber_7 rfl 1 rfl ?_
        refine mv_getR (pc := 8) (ci := 0) (C := R_Loom) (T := F_Loom) (N := 10) B 0 rfl rfl (by decide) i_Loom (B.2.2.2.1 _ k_486) rfl (qh _ 0 _ rfl) d_Loom_putNumber_8 ?_
        refine mv_aload_n (pc := 11) B d_Loom_putNumber_11 rfl 1 rfl ?_
        refine mv_getI (pc := 12) (ci := 0) (C := R_Loom) (T := F_Loom) (N := 10) B 1 rfl rfl (by decide) i_Loom (B.2.2.2.1 _ k_487) rfl d_Loom_putNumber_12 ?_
        refine mv_iload_n (pc := 15) B d_Loom_putNumber_15 rfl 2 rfl ?_
        refine mv_iload_n (pc := 16) B d_Loom_putNumber_16 rfl 0 rfl ?_
        refine mv_ishr (pc := 17) B d_Loom_putNumber_17 ?_
        refine mv_i2b (pc := 18) B d_Loom_putNumber_18 ?_
        refine mv_bast (pc := 19) B rfl (i32_in (show 0 ≤ (mv_i τ 0 1).toInt by omega) (show (mv_i τ 0 1).toInt < 32768 by omega)) d_Loom_putNumber_19 ?_
        refine mv_aload_n (pc := 20) B d_Loom_putNumber_20 rfl 1 rfl ?_
        refine mv_dup (pc := 21) B d_Loom_putNumber_21 rfl ?_
        refine mv_getI (pc := 22) (ci := 0) (C := R_Loom) (T := F_Loom) (N := 10) B 1 rfl rfl (by decide) i_Loom (B.2.2.2.1 _ k_487) rfl d_Loom_putNumber_22 ?_
        refine mv_iconst (pc := 25) (v := 1) B d_Loom_putNumber_25 (by decide) ?_
        refine mv_iadd (pc := 26) B d_Loom_putNumber_26 ?_
        refine mv_putI (pc := 27) (ci := 0) (C := R_Loom) (T := F_Loom) (N := 10) B 1 rfl rfl (by decide) i_Loom t_Loom_ok n_Loom (B.2.2.2.1 _ k_487) rfl rfl rfl rfl d_Loom_putNumber_27 ?_
        refine mv_gen (fun S30 eS30 => ?_)
        have gI : In S30 (kk + 1) := by rw [eS30]; exact qI.add (by omega) (nar_byte _)
        have gF : InF σ S30 := by rw [eS30]; exact (qF.sa rfl).si ⟨rfl, rfl⟩
        have gh : mh (mv_r S30) := by rw [eS30]; exact qh
        have gP : PN σ S30 x9 k9 (kk + 1 - k9) := by rw [eS30, show kk + 1 - k9 = (kk - k9) + 1 by omega]; exact PN.add qP hq1 (by omega) (by omega)
        have go := ih S30 (jj + -8) (kk + 1) (by omega) (by omega) gI gF gh gP (by omega)
        clear eS30
        refine mv_iinc (pc := 30) (j := 0) (v := -8) B d_Loom_putNumber_30 rfl (by decide) (by decide) rfl ?_
        refine mv_goto (pc := 33) (tgt := 3) B d_Loom_putNumber_33 rfl ?_
        refine mv_lpick [0, 1, 2] rfl ?_
        exact go
  refine mv_bipush (pc := 0) (v := 24) B d_Loom_putNumber_0 (by decide) ?_
  refine mv_istore_n (pc := 2) B d_Loom_putNumber_2 rfl (by decide) rfl ?_
  refine mv_lpick [0, 1, 2] rfl ?_
  exact lp _ _ _ k9 (by decide) ⟨by show (24 : Int) = _; omega, Nat.le_refl _⟩ hI Fr.rf hsh (by rw [Nat.sub_self]; exact PN.rf) (Nat.lt_succ_self _)
def y_Loom_decode : MethodName := ⟨"MachineLoom", "decode", "(J)I"⟩
abbrev b_Loom_decode : ByteArray := prog_1_method_8_code
theorem kc_Loom_decode : Cond.code y_Loom_decode b_Loom_decode 3 (Option.some Jvm.ClassFile.FieldType.int) ∈ ma := ma_of (tb_7 _ (List.mem_of_getElem? (i := 119) rfl)) rfl
theorem k_495 : (Jvm.Cond.fieldLink "MachineLoom" (57 : Nat) "MachineLoom" "machine" "LMachineLoom$Machine;") ∈ ma := ma_of (tb_3 _ (List.mem_of_getElem? (i := 15) rfl)) rfl
theorem k_1560 : (Jvm.Cond.methodLink "MachineLoom" (123 : Nat) ({ cls := "MachineLoom$Machine", name := "opOf", desc := "(J)I" } : Jvm.MethodName)) ∈ ma := ma_of (tb_7 _ (List.mem_of_getElem? (i := 120) rfl)) rfl
theorem d_Loom_decode_0 : decode b_Loom_decode 0 = .ok (.aload_n 0, 1) := by decide +kernel
theorem d_Loom_decode_1 : decode b_Loom_decode 1 = .ok (.getfield 57, 3) := by decide +kernel
theorem d_Loom_decode_4 : decode b_Loom_decode 4 = .ok (.lload_n 1, 1) := by decide +kernel
theorem d_Loom_decode_5 : decode b_Loom_decode 5 = .ok (.invokevirtual 123, 3) := by decide +kernel
theorem d_Loom_decode_8 : decode b_Loom_decode 8 = .ok (.ireturn, 1) := by decide +kernel
set_option maxHeartbeats 4000000 in
set_option maxRecDepth 100000 in
theorem c_Loom_decode_a (l : Launch) {dA : FieldType → ClassId} {D : va_G} {al : Nat → Nat} {ext : mv_Sh} {sk sv : Nat → Nat} (hi : mv_inj (mg dA D al ext)) (σ : mv_H) (w9 : Int64) (hR : Rf 32 (mv_r σ)) (hT : TreeOK 32 512 σ ∨ TreeZ 32 σ) : mv_C l y_Loom_decode (Cond.code y_Loom_decode b_Loom_decode 3 (Option.some Jvm.ClassFile.FieldType.int) :: ma) ({ frames := 2, cells := 0, slots := 0, locals := 51 }) (mg dA D al ext) (mK sk sv) [.ref (al 0), .long w9] σ (mv_Ri (fun _ σ1 => FM σ σ1)) := by
  refine mv_C.ofV (cc := b_Loom_decode) (nL := 3) (ret := (Option.some Jvm.ClassFile.FieldType.int)) (by decide +kernel) rfl hi (Nat.le_of_ble_eq_true rfl) ?_
  intro p e s m below meth c B hNs hr hnm hno
  refine mv_aload_n (pc := 0) B d_Loom_decode_0 rfl 0 rfl ?_
  refine mv_getR (pc := 1) (ci := 0) (C := R_Loom) (T := F_Loom) (N := 10) B 9 rfl rfl (by decide) i_Loom (B.2.2.2.1 _ k_495) rfl (hR.1 _ 9 _ rfl) d_Loom_decode_1 ?_
  refine mv_lload_n (pc := 4) B d_Loom_decode_4 rfl 1 rfl ?_
  refine mv_callVi (pc := 5) (n := 1) (ci := 9) (C := R_Machine) B (mK_ok sk sv) hNs rfl rfl (c_Machine_opOf_a l hi _ _ hR hT) rfl (ma_goodc kc_Machine_opOf) (B.2.2.2.1 _ k_1560) (B.2.2.2.1 _ k_1561) (B.2.2.2.1 _ k_1562) (B.2.2.2.1 _ k_11) ⟨by decide +kernel, by decide +kernel, by decide +kernel⟩ rfl d_Loom_decode_5 rfl (Nat.le_of_ble_eq_true rfl) ⟨by decide, by decide⟩ ⟨by decide, by decide⟩ ⟨by decide, by decide⟩ (mv_noH hno _) (fun v5 σ5 h5 => ?_)
  exact mv_iret (pc := 8) B hr rfl d_Loom_decode_8 (Nat.le_refl _) (Nat.le_refl _) ⟨_, rfl, h5.1.fm⟩
set_option maxHeartbeats 4000000 in
set_option maxRecDepth 100000 in
theorem c_Loom_decode_b (l : Launch) {dA : FieldType → ClassId} {D : va_G} {al : Nat → Nat} {ext : mv_Sh} {sk sv : Nat → Nat} (hi : mv_inj (mg dA D al ext)) (σ : mv_H) (w9 : Int64) (hR : Rf 48 (mv_r σ)) (hT : TreeOK 48 512 σ ∨ TreeZ 48 σ) : mv_C l y_Loom_decode (Cond.code y_Loom_decode b_Loom_decode 3 (Option.some Jvm.ClassFile.FieldType.int) :: ma) ({ frames := 2, cells := 0, slots := 0, locals := 51 }) (mg dA D al ext) (mK sk sv) [.ref (al 0), .long w9] σ (mv_Ri (fun _ σ1 => FM σ σ1)) := by
  refine mv_C.ofV (cc := b_Loom_decode) (nL := 3) (ret := (Option.some Jvm.ClassFile.FieldType.int)) (by decide +kernel) rfl hi (Nat.le_of_ble_eq_true rfl) ?_
  intro p e s m below meth c B hNs hr hnm hno
  refine mv_aload_n (pc := 0) B d_Loom_decode_0 rfl 0 rfl ?_
  refine mv_getR (pc := 1) (ci := 0) (C := R_Loom) (T := F_Loom) (N := 10) B 9 rfl rfl (by decide) i_Loom (B.2.2.2.1 _ k_495) rfl (hR.1 _ 9 _ rfl) d_Loom_decode_1 ?_
  refine mv_lload_n (pc := 4) B d_Loom_decode_4 rfl 1 rfl ?_
  refine mv_callVi (pc := 5) (n := 1) (ci := 9) (C := R_Machine) B (mK_ok sk sv) hNs rfl rfl (c_Machine_opOf_b l hi _ _ hR hT) rfl (ma_goodc kc_Machine_opOf) (B.2.2.2.1 _ k_1560) (B.2.2.2.1 _ k_1561) (B.2.2.2.1 _ k_1562) (B.2.2.2.1 _ k_11) ⟨by decide +kernel, by decide +kernel, by decide +kernel⟩ rfl d_Loom_decode_5 rfl (Nat.le_of_ble_eq_true rfl) ⟨by decide, by decide⟩ ⟨by decide, by decide⟩ ⟨by decide, by decide⟩ (mv_noH hno _) (fun v5 σ5 h5 => ?_)
  exact mv_iret (pc := 8) B hr rfl d_Loom_decode_8 (Nat.le_refl _) (Nat.le_refl _) ⟨_, rfl, h5.1.fm⟩
set_option maxHeartbeats 4000000 in
set_option maxRecDepth 100000 in
theorem c_Loom_decode_c (l : Launch) {dA : FieldType → ClassId} {D : va_G} {al : Nat → Nat} {sk sv : Nat → Nat} (hi : mv_inj (mg dA D al me)) (σ : mv_H) (w9 : Int64) (hR : Rf 145 (mv_r σ)) (hT : TreeOK 145 48 σ ∨ TreeZ 145 σ) : mv_C l y_Loom_decode (Cond.code y_Loom_decode b_Loom_decode 3 (Option.some Jvm.ClassFile.FieldType.int) :: ma) ({ frames := 2, cells := 0, slots := 0, locals := 51 }) (mg dA D al me) (mK sk sv) [.ref (al 0), .long w9] σ (mv_Ri (fun _ σ1 => FM σ σ1)) := by
  refine mv_C.ofV (cc := b_Loom_decode) (nL := 3) (ret := (Option.some Jvm.ClassFile.FieldType.int)) (by decide +kernel) rfl hi (Nat.le_of_ble_eq_true rfl) ?_
  intro p e s m below meth c B hNs hr hnm hno
  refine mv_aload_n (pc := 0) B d_Loom_decode_0 rfl 0 rfl ?_
  refine mv_getR (pc := 1) (ci := 0) (C := R_Loom) (T := F_Loom) (N := 10) B 9 rfl rfl (by decide) i_Loom (B.2.2.2.1 _ k_495) rfl (hR.1 _ 9 _ rfl) d_Loom_decode_1 ?_
  refine mv_lload_n (pc := 4) B d_Loom_decode_4 rfl 1 rfl ?_
  refine mv_callVi (pc := 5) (n := 1) (ci := 9) (C := R_Machine) B (mK_ok sk sv) hNs rfl rfl (c_Machine_opOf_c l hi _ _ hR hT) rfl (ma_goodc kc_Machine_opOf) (B.2.2.2.1 _ k_1560) (B.2.2.2.1 _ k_1561) (B.2.2.2.1 _ k_1562) (B.2.2.2.1 _ k_11) ⟨by decide +kernel, by decide +kernel, by decide +kernel⟩ rfl d_Loom_decode_5 rfl (Nat.le_of_ble_eq_true rfl) ⟨by decide, by decide⟩ ⟨by decide, by decide⟩ ⟨by decide, by decide⟩ (mv_noH hno _) (fun v5 σ5 h5 => ?_)
  exact mv_iret (pc := 8) B hr rfl d_Loom_decode_8 (Nat.le_refl _) (Nat.le_refl _) ⟨_, rfl, h5.1.fm⟩
def y_Loom_step : MethodName := ⟨"MachineLoom", "step", "(J)I"⟩
abbrev b_Loom_step : ByteArray := prog_1_method_12_code
theorem kc_Loom_step : Cond.code y_Loom_step b_Loom_step 3 (Option.some Jvm.ClassFile.FieldType.int) ∈ ma := ma_of (tb_7 _ (List.mem_of_getElem? (i := 131) rfl)) rfl
theorem k_1572 : (Jvm.Cond.methodLink "MachineLoom" (156 : Nat) ({ cls := "MachineLoom$Machine", name := "oneWith", desc := "(J)V" } : Jvm.MethodName)) ∈ ma := ma_of (tb_7 _ (List.mem_of_getElem? (i := 132) rfl)) rfl
theorem k_452 : (Jvm.Cond.fieldLink "MachineLoom" (160 : Nat) "MachineLoom$Machine" "latest" "I") ∈ ma := ma_of (tb_2 _ (List.mem_of_getElem? (i := 212) rfl)) rfl
theorem d_Loom_step_0 : decode b_Loom_step 0 = .ok (.aload_n 0, 1) := by decide +kernel
theorem d_Loom_step_1 : decode b_Loom_step 1 = .ok (.getfield 57, 3) := by decide +kernel
theorem d_Loom_step_4 : decode b_Loom_step 4 = .ok (.lload_n 1, 1) := by decide +kernel
theorem d_Loom_step_5 : decode b_Loom_step 5 = .ok (.invokevirtual 156, 3) := by decide +kernel
theorem d_Loom_step_8 : decode b_Loom_step 8 = .ok (.aload_n 0, 1) := by decide +kernel
theorem d_Loom_step_9 : decode b_Loom_step 9 = .ok (.getfield 57, 3) := by decide +kernel
theorem d_Loom_step_12 : decode b_Loom_step 12 = .ok (.getfield 160, 3) := by decide +kernel
theorem d_Loom_step_15 : decode b_Loom_step 15 = .ok (.ireturn, 1) := by decide +kernel
set_option maxHeartbeats 4000000 in
set_option maxRecDepth 100000 in
theorem c_Loom_step_a (l : Launch) {dA : FieldType → ClassId} {D : va_G} {al : Nat → Nat} {ext : mv_Sh} {sk sv : Nat → Nat} (hi : mv_inj (mg dA D al ext)) (σ : mv_H) (w9 : Int64) (hR : Rf 32 (mv_r σ)) (th sl : Nat) (hO : ProgOK 32 32768 512 σ th sl) : mv_C l y_Loom_step (Cond.code y_Loom_step b_Loom_step 3 (Option.some Jvm.ClassFile.FieldType.int) :: ma) ({ frames := 6, cells := 0, slots := 0, locals := 152 }) (mg dA D al ext) (mK sk sv) [.ref (al 0), .long w9] σ (mv_Ri (fun _ σ1 => FM σ σ1)) := by
  refine mv_C.ofV (cc := b_Loom_step) (nL := 3) (ret := (Option.some Jvm.ClassFile.FieldType.int)) (by decide +kernel) rfl hi (Nat.le_of_ble_eq_true rfl) ?_
  intro p e s m below meth c B hNs hr hnm hno
  refine mv_aload_n (pc := 0) B d_Loom_step_0 rfl 0 rfl ?_
  refine mv_getR (pc := 1) (ci := 0) (C := R_Loom) (T := F_Loom) (N := 10) B 9 rfl rfl (by decide) i_Loom (B.2.2.2.1 _ k_495) rfl (hR.1 _ 9 _ rfl) d_Loom_step_1 ?_
  refine mv_lload_n (pc := 4) B d_Loom_step_4 rfl 1 rfl ?_
  refine mv_callVv (pc := 5) (n := 1) (ci := 9) (C := R_Machine) B (mK_ok sk sv) hNs rfl rfl (c_Machine_oneWith_a l hi _ _ hR th sl hO) rfl (ma_goodc kc_Machine_oneWith) (B.2.2.2.1 _ k_1572) (B.2.2.2.1 _ k_1573) (B.2.2.2.1 _ k_1574) (B.2.2.2.1 _ k_11) ⟨by decide +kernel, by decide +kernel, by decide +kernel⟩ rfl d_Loom_step_5 rfl (Nat.le_of_ble_eq_true rfl) ⟨by decide, by decide⟩ ⟨by decide, by decide⟩ ⟨by decide, by decide⟩ (mv_noH hno _) (fun σ5 h5 => ?_)
  have hR : Rf 32 (mv_r σ5) := by rw [h5.2.2.2.2]; exact hR
  refine mv_aload_n (pc := 8) B d_Loom_step_8 rfl 0 rfl ?_
  refine mv_getR (pc := 9) (ci := 0) (C := R_Loom) (T := F_Loom) (N := 10) B 9 rfl rfl (by decide) i_Loom (B.2.2.2.1 _ k_495) rfl (hR.1 _ 9 _ rfl) d_Loom_step_9 ?_
  refine mv_getI (pc := 12) (ci := 9) (C := R_Machine) (T := F_Machine) (N := 13) B 9 rfl rfl (by decide) i_Machine (B.2.2.2.1 _ k_452) rfl d_Loom_step_12 ?_
  exact mv_iret (pc := 15) B hr rfl d_Loom_step_15 (Nat.le_refl _) (Nat.le_refl _) ⟨_, rfl, h5⟩
set_option maxHeartbeats 4000000 in
set_option maxRecDepth 100000 in
theorem c_Loom_step_b (l : Launch) {dA : FieldType → ClassId} {D : va_G} {al : Nat → Nat} {ext : mv_Sh} {sk sv : Nat → Nat} (hi : mv_inj (mg dA D al ext)) (σ : mv_H) (w9 : Int64) (hR : Rf 48 (mv_r σ)) (th sl : Nat) (hO : ProgOK 48 32768 512 σ th sl) : mv_C l y_Loom_step (Cond.code y_Loom_step b_Loom_step 3 (Option.some Jvm.ClassFile.FieldType.int) :: ma) ({ frames := 6, cells := 0, slots := 0, locals := 152 }) (mg dA D al ext) (mK sk sv) [.ref (al 0), .long w9] σ (mv_Ri (fun _ σ1 => FM σ σ1)) := by
  refine mv_C.ofV (cc := b_Loom_step) (nL := 3) (ret := (Option.some Jvm.ClassFile.FieldType.int)) (by decide +kernel) rfl hi (Nat.le_of_ble_eq_true rfl) ?_
  intro p e s m below meth c B hNs hr hnm hno
  refine mv_aload_n (pc := 0) B d_Loom_step_0 rfl 0 rfl ?_
  refine mv_getR (pc := 1) (ci := 0) (C := R_Loom) (T := F_Loom) (N := 10) B 9 rfl rfl (by decide) i_Loom (B.2.2.2.1 _ k_495) rfl (hR.1 _ 9 _ rfl) d_Loom_step_1 ?_
  refine mv_lload_n (pc := 4) B d_Loom_step_4 rfl 1 rfl ?_
  refine mv_callVv (pc := 5) (n := 1) (ci := 9) (C := R_Machine) B (mK_ok sk sv) hNs rfl rfl (c_Machine_oneWith_b l hi _ _ hR th sl hO) rfl (ma_goodc kc_Machine_oneWith) (B.2.2.2.1 _ k_1572) (B.2.2.2.1 _ k_1573) (B.2.2.2.1 _ k_1574) (B.2.2.2.1 _ k_11) ⟨by decide +kernel, by decide +kernel, by decide +kernel⟩ rfl d_Loom_step_5 rfl (Nat.le_of_ble_eq_true rfl) ⟨by decide, by decide⟩ ⟨by decide, by decide⟩ ⟨by decide, by decide⟩ (mv_noH hno _) (fun σ5 h5 => ?_)
  have hR : Rf 48 (mv_r σ5) := by rw [h5.2.2.2.2]; exact hR
  refine mv_aload_n (pc := 8) B d_Loom_step_8 rfl 0 rfl ?_
  refine mv_getR (pc := 9) (ci := 0) (C := R_Loom) (T := F_Loom) (N := 10) B 9 rfl rfl (by decide) i_Loom (B.2.2.2.1 _ k_495) rfl (hR.1 _ 9 _ rfl) d_Loom_step_9 ?_
  refine mv_getI (pc := 12) (ci := 9) (C := R_Machine) (T := F_Machine) (N := 13) B 9 rfl rfl (by decide) i_Machine (B.2.2.2.1 _ k_452) rfl d_Loom_step_12 ?_
  exact mv_iret (pc := 15) B hr rfl d_Loom_step_15 (Nat.le_refl _) (Nat.le_refl _) ⟨_, rfl, h5⟩
set_option maxHeartbeats 4000000 in
set_option maxRecDepth 100000 in
theorem c_Loom_step_c (l : Launch) {dA : FieldType → ClassId} {D : va_G} {al : Nat → Nat} {sk sv : Nat → Nat} (hi : mv_inj (mg dA D al me)) (σ : mv_H) (w9 : Int64) (hR : Rf 145 (mv_r σ)) (th sl : Nat) (hO : ProgOK 145 8192 48 σ th sl) : mv_C l y_Loom_step (Cond.code y_Loom_step b_Loom_step 3 (Option.some Jvm.ClassFile.FieldType.int) :: ma) ({ frames := 6, cells := 0, slots := 0, locals := 152 }) (mg dA D al me) (mK sk sv) [.ref (al 0), .long w9] σ (mv_Ri (fun _ σ1 => FM σ σ1)) := by
  refine mv_C.ofV (cc := b_Loom_step) (nL := 3) (ret := (Option.some Jvm.ClassFile.FieldType.int)) (by decide +kernel) rfl hi (Nat.le_of_ble_eq_true rfl) ?_
  intro p e s m below meth c B hNs hr hnm hno
  refine mv_aload_n (pc := 0) B d_Loom_step_0 rfl 0 rfl ?_
  refine mv_getR (pc := 1) (ci := 0) (C := R_Loom) (T := F_Loom) (N := 10) B 9 rfl rfl (by decide) i_Loom (B.2.2.2.1 _ k_495) rfl (hR.1 _ 9 _ rfl) d_Loom_step_1 ?_
  refine mv_lload_n (pc := 4) B d_Loom_step_4 rfl 1 rfl ?_
  refine mv_callVv (pc := 5) (n := 1) (ci := 9) (C := R_Machine) B (mK_ok sk sv) hNs rfl rfl (c_Machine_oneWith_c l hi _ _ hR th sl hO) rfl (ma_goodc kc_Machine_oneWith) (B.2.2.2.1 _ k_1572) (B.2.2.2.1 _ k_1573) (B.2.2.2.1 _ k_1574) (B.2.2.2.1 _ k_11) ⟨by decide +kernel, by decide +kernel, by decide +kernel⟩ rfl d_Loom_step_5 rfl (Nat.le_of_ble_eq_true rfl) ⟨by decide, by decide⟩ ⟨by decide, by decide⟩ ⟨by decide, by decide⟩ (mv_noH hno _) (fun σ5 h5 => ?_)
  have hR : Rf 145 (mv_r σ5) := by rw [h5.2.2.2.2]; exact hR
  refine mv_aload_n (pc := 8) B d_Loom_step_8 rfl 0 rfl ?_
  refine mv_getR (pc := 9) (ci := 0) (C := R_Loom) (T := F_Loom) (N := 10) B 9 rfl rfl (by decide) i_Loom (B.2.2.2.1 _ k_495) rfl (hR.1 _ 9 _ rfl) d_Loom_step_9 ?_
  refine mv_getI (pc := 12) (ci := 9) (C := R_Machine) (T := F_Machine) (N := 13) B 9 rfl rfl (by decide) i_Machine (B.2.2.2.1 _ k_452) rfl d_Loom_step_12 ?_
  exact mv_iret (pc := 15) B hr rfl d_Loom_step_15 (Nat.le_refl _) (Nat.le_refl _) ⟨_, rfl, h5⟩
def y_Loom_trap : MethodName := ⟨"MachineLoom", "trap", "()I"⟩
abbrev b_Loom_trap : ByteArray := prog_1_method_14_code
theorem kc_Loom_trap : Cond.code y_Loom_trap b_Loom_trap 1 (Option.some Jvm.ClassFile.FieldType.int) ∈ ma := ma_of (tb_7 _ (List.mem_of_getElem? (i := 206) rfl)) rfl
theorem d_Loom_trap_0 : decode b_Loom_trap 0 = .ok (.aload_n 0, 1) := by decide +kernel
theorem d_Loom_trap_1 : decode b_Loom_trap 1 = .ok (.getfield 57, 3) := by decide +kernel
theorem d_Loom_trap_4 : decode b_Loom_trap 4 = .ok (.getfield 160, 3) := by decide +kernel
theorem d_Loom_trap_7 : decode b_Loom_trap 7 = .ok (.ireturn, 1) := by decide +kernel
set_option maxHeartbeats 4000000 in
set_option maxRecDepth 100000 in
theorem c_Loom_trap (l : Launch) {dA : FieldType → ClassId} {D : va_G} {al : Nat → Nat} {ext : mv_Sh} {sk sv : Nat → Nat} (hi : mv_inj (mg dA D al ext)) (σ : mv_H) (hsh : mh (mv_r σ)) : mv_C l y_Loom_trap (Cond.code y_Loom_trap b_Loom_trap 1 (Option.some Jvm.ClassFile.FieldType.int) :: ma) ({ frames := 0, cells := 0, slots := 0, locals := 0 }) (mg dA D al ext) (mK sk sv) [.ref (al 0)] σ (mv_Ri (fun _ σ1 => σ1 = σ)) := by
  refine mv_C.ofV (cc := b_Loom_trap) (nL := 1) (ret := (Option.some Jvm.ClassFile.FieldType.int)) (by decide +kernel) rfl hi (Nat.le_of_ble_eq_true rfl) ?_
  intro p e s m below meth c B hNs hr hnm hno
  refine mv_aload_n (pc := 0) B d_Loom_trap_0 rfl 0 rfl ?_
  refine mv_getR (pc := 1) (ci := 0) (C := R_Loom) (T := F_Loom) (N := 10) B 9 rfl rfl (by decide) i_Loom (B.2.2.2.1 _ k_495) rfl (hsh _ 9 _ rfl) d_Loom_trap_1 ?_
  refine mv_getI (pc := 4) (ci := 9) (C := R_Machine) (T := F_Machine) (N := 13) B 9 rfl rfl (by decide) i_Machine (B.2.2.2.1 _ k_452) rfl d_Loom_trap_4 ?_
  exact mv_iret (pc := 7) B hr rfl d_Loom_trap_7 (Nat.le_refl _) (Nat.le_refl _) ⟨_, rfl, rfl⟩
def y_Loom_free : MethodName := ⟨"MachineLoom", "free", "()J"⟩
abbrev b_Loom_free : ByteArray := prog_1_method_16_code
theorem kc_Loom_free : Cond.code y_Loom_free b_Loom_free 1 (Option.some Jvm.ClassFile.FieldType.long) ∈ ma := ma_of (tb_7 _ (List.mem_of_getElem? (i := 210) rfl)) rfl
theorem k_441 : (Jvm.Cond.fieldLink "MachineLoom" (74 : Nat) "MachineLoom$Machine" "program" "LMachineLoom$Program;") ∈ ma := ma_of (tb_2 _ (List.mem_of_getElem? (i := 201) rfl)) rfl
theorem k_1651 : (Jvm.Cond.methodLink "MachineLoom" (179 : Nat) ({ cls := "MachineLoom$Program", name := "unused", desc := "()J" } : Jvm.MethodName)) ∈ ma := ma_of (tb_7 _ (List.mem_of_getElem? (i := 211) rfl)) rfl
theorem k_1652 : (Jvm.Cond.instanceMethod ({ cls := "MachineLoom$Program", name := "unused", desc := "()J" } : Jvm.MethodName)) ∈ ma := ma_of (tb_7 _ (List.mem_of_getElem? (i := 212) rfl)) rfl
theorem k_1653 : (Jvm.Cond.selects "MachineLoom$Program" ({ cls := "MachineLoom$Program", name := "unused", desc := "()J" } : Jvm.MethodName) ({ cls := "MachineLoom$Program", name := "unused", desc := "()J" } : Jvm.MethodName)) ∈ ma := ma_of (tb_7 _ (List.mem_of_getElem? (i := 213) rfl)) rfl
theorem d_Loom_free_0 : decode b_Loom_free 0 = .ok (.aload_n 0, 1) := by decide +kernel
theorem d_Loom_free_1 : decode b_Loom_free 1 = .ok (.getfield 57, 3) := by decide +kernel
theorem d_Loom_free_4 : decode b_Loom_free 4 = .ok (.getfield 74, 3) := by decide +kernel
theorem d_Loom_free_7 : decode b_Loom_free 7 = .ok (.invokevirtual 179, 3) := by decide +kernel
theorem d_Loom_free_10 : decode b_Loom_free 10 = .ok (.lreturn, 1) := by decide +kernel
set_option maxHeartbeats 4000000 in
set_option maxRecDepth 100000 in
theorem c_Loom_free_a (l : Launch) {dA : FieldType → ClassId} {D : va_G} {al : Nat → Nat} {ext : mv_Sh} {sk sv : Nat → Nat} (hi : mv_inj (mg dA D al ext)) (σ : mv_H) (hR : Rf 32 (mv_r σ)) (g3 : (mv_i σ 32 10).toInt ≤ 512) : mv_C l y_Loom_free (Cond.code y_Loom_free b_Loom_free 1 (Option.some Jvm.ClassFile.FieldType.long) :: ma) ({ frames := 2, cells := 0, slots := 0, locals := 44 }) (mg dA D al ext) (mK sk sv) [.ref (al 0)] σ (mv_Rl (fun _ σ1 => σ1 = σ)) := by
  refine mv_C.ofV (cc := b_Loom_free) (nL := 1) (ret := (Option.some Jvm.ClassFile.FieldType.long)) (by decide +kernel) rfl hi (Nat.le_of_ble_eq_true rfl) ?_
  intro p e s m below meth c B hNs hr hnm hno
  refine mv_aload_n (pc := 0) B d_Loom_free_0 rfl 0 rfl ?_
  refine mv_getR (pc := 1) (ci := 0) (C := R_Loom) (T := F_Loom) (N := 10) B 9 rfl rfl (by decide) i_Loom (B.2.2.2.1 _ k_495) rfl (hR.1 _ 9 _ rfl) d_Loom_free_1 ?_
  refine mv_getR (pc := 4) (ci := 9) (C := R_Machine) (T := F_Machine) (N := 13) B 0 rfl rfl (by decide) i_Machine (B.2.2.2.1 _ k_441) rfl hR.2.2 d_Loom_free_4 ?_
  refine mv_callVl (pc := 7) (n := 0) (ci := 7) (C := R_Program) B (mK_ok sk sv) hNs rfl rfl (c_Program_unused_a l hi _ hR.2.1 g3) rfl (ma_goodc kc_Program_unused) (B.2.2.2.1 _ k_1651) (B.2.2.2.1 _ k_1652) (B.2.2.2.1 _ k_1653) (B.2.2.2.1 _ k_8) ⟨by decide +kernel, by decide +kernel, by decide +kernel⟩ rfl d_Loom_free_7 rfl (Nat.le_of_ble_eq_true rfl) ⟨by decide, by decide⟩ ⟨by decide, by decide⟩ ⟨by decide, by decide⟩ (mv_noH hno _) (fun v7 σ7 h7 => ?_)
  exact mv_lret (pc := 10) B hr d_Loom_free_10 (Nat.le_refl _) (Nat.le_refl _) ⟨_, rfl, h7⟩
set_option maxHeartbeats 4000000 in
set_option maxRecDepth 100000 in
theorem c_Loom_free_b (l : Launch) {dA : FieldType → ClassId} {D : va_G} {al : Nat → Nat} {ext : mv_Sh} {sk sv : Nat → Nat} (hi : mv_inj (mg dA D al ext)) (σ : mv_H) (hR : Rf 48 (mv_r σ)) (g3 : (mv_i σ 48 10).toInt ≤ 512) : mv_C l y_Loom_free (Cond.code y_Loom_free b_Loom_free 1 (Option.some Jvm.ClassFile.FieldType.long) :: ma) ({ frames := 2, cells := 0, slots := 0, locals := 44 }) (mg dA D al ext) (mK sk sv) [.ref (al 0)] σ (mv_Rl (fun _ σ1 => σ1 = σ)) := by
  refine mv_C.ofV (cc := b_Loom_free) (nL := 1) (ret := (Option.some Jvm.ClassFile.FieldType.long)) (by decide +kernel) rfl hi (Nat.le_of_ble_eq_true rfl) ?_
  intro p e s m below meth c B hNs hr hnm hno
  refine mv_aload_n (pc := 0) B d_Loom_free_0 rfl 0 rfl ?_
  refine mv_getR (pc := 1) (ci := 0) (C := R_Loom) (T := F_Loom) (N := 10) B 9 rfl rfl (by decide) i_Loom (B.2.2.2.1 _ k_495) rfl (hR.1 _ 9 _ rfl) d_Loom_free_1 ?_
  refine mv_getR (pc := 4) (ci := 9) (C := R_Machine) (T := F_Machine) (N := 13) B 0 rfl rfl (by decide) i_Machine (B.2.2.2.1 _ k_441) rfl hR.2.2 d_Loom_free_4 ?_
  refine mv_callVl (pc := 7) (n := 0) (ci := 7) (C := R_Program) B (mK_ok sk sv) hNs rfl rfl (c_Program_unused_b l hi _ hR.2.1 g3) rfl (ma_goodc kc_Program_unused) (B.2.2.2.1 _ k_1651) (B.2.2.2.1 _ k_1652) (B.2.2.2.1 _ k_1653) (B.2.2.2.1 _ k_8) ⟨by decide +kernel, by decide +kernel, by decide +kernel⟩ rfl d_Loom_free_7 rfl (Nat.le_of_ble_eq_true rfl) ⟨by decide, by decide⟩ ⟨by decide, by decide⟩ ⟨by decide, by decide⟩ (mv_noH hno _) (fun v7 σ7 h7 => ?_)
  exact mv_lret (pc := 10) B hr d_Loom_free_10 (Nat.le_refl _) (Nat.le_refl _) ⟨_, rfl, h7⟩
set_option maxHeartbeats 4000000 in
set_option maxRecDepth 100000 in
theorem c_Loom_free_c (l : Launch) {dA : FieldType → ClassId} {D : va_G} {al : Nat → Nat} {sk sv : Nat → Nat} (hi : mv_inj (mg dA D al me)) (σ : mv_H) (hR : Rf 145 (mv_r σ)) (g3 : (mv_i σ 145 10).toInt ≤ 48) : mv_C l y_Loom_free (Cond.code y_Loom_free b_Loom_free 1 (Option.some Jvm.ClassFile.FieldType.long) :: ma) ({ frames := 2, cells := 0, slots := 0, locals := 44 }) (mg dA D al me) (mK sk sv) [.ref (al 0)] σ (mv_Rl (fun _ σ1 => σ1 = σ)) := by
  refine mv_C.ofV (cc := b_Loom_free) (nL := 1) (ret := (Option.some Jvm.ClassFile.FieldType.long)) (by decide +kernel) rfl hi (Nat.le_of_ble_eq_true rfl) ?_
  intro p e s m below meth c B hNs hr hnm hno
  refine mv_aload_n (pc := 0) B d_Loom_free_0 rfl 0 rfl ?_
  refine mv_getR (pc := 1) (ci := 0) (C := R_Loom) (T := F_Loom) (N := 10) B 9 rfl rfl (by decide) i_Loom (B.2.2.2.1 _ k_495) rfl (hR.1 _ 9 _ rfl) d_Loom_free_1 ?_
  refine mv_getR (pc := 4) (ci := 9) (C := R_Machine) (T := F_Machine) (N := 13) B 0 rfl rfl (by decide) i_Machine (B.2.2.2.1 _ k_441) rfl hR.2.2 d_Loom_free_4 ?_
  refine mv_callVl (pc := 7) (n := 0) (ci := 7) (C := R_Program) B (mK_ok sk sv) hNs rfl rfl (c_Program_unused_c l hi _ hR.2.1 g3) rfl (ma_goodc kc_Program_unused) (B.2.2.2.1 _ k_1651) (B.2.2.2.1 _ k_1652) (B.2.2.2.1 _ k_1653) (B.2.2.2.1 _ k_8) ⟨by decide +kernel, by decide +kernel, by decide +kernel⟩ rfl d_Loom_free_7 rfl (Nat.le_of_ble_eq_true rfl) ⟨by decide, by decide⟩ ⟨by decide, by decide⟩ ⟨by decide, by decide⟩ (mv_noH hno _) (fun v7 σ7 h7 => ?_)
  exact mv_lret (pc := 10) B hr d_Loom_free_10 (Nat.le_refl _) (Nat.le_refl _) ⟨_, rfl, h7⟩
def y_Loom_count : MethodName := ⟨"MachineLoom", "count", "(I)I"⟩
abbrev b_Loom_count : ByteArray := prog_1_method_17_code
theorem kc_Loom_count : Cond.code y_Loom_count b_Loom_count 2 (Option.some Jvm.ClassFile.FieldType.int) ∈ ma := ma_of (tb_7 _ (List.mem_of_getElem? (i := 222) rfl)) rfl
theorem k_314 : (Jvm.Cond.fieldLink "MachineLoom" (183 : Nat) "MachineLoom$Program" "length" "I") ∈ ma := ma_of (tb_2 _ (List.mem_of_getElem? (i := 74) rfl)) rfl
theorem k_317 : (Jvm.Cond.fieldLink "MachineLoom" (170 : Nat) "MachineLoom$Program" "things" "I") ∈ ma := ma_of (tb_2 _ (List.mem_of_getElem? (i := 77) rfl)) rfl
theorem k_336 : (Jvm.Cond.fieldLink "MachineLoom" (186 : Nat) "MachineLoom$Program" "allCells" "I") ∈ ma := ma_of (tb_2 _ (List.mem_of_getElem? (i := 96) rfl)) rfl
theorem k_346 : (Jvm.Cond.fieldLink "MachineLoom" (105 : Nat) "MachineLoom$Program" "ops" "I") ∈ ma := ma_of (tb_2 _ (List.mem_of_getElem? (i := 106) rfl)) rfl
theorem k_454 : (Jvm.Cond.fieldLink "MachineLoom" (189 : Nat) "MachineLoom$Machine" "done" "I") ∈ ma := ma_of (tb_2 _ (List.mem_of_getElem? (i := 214) rfl)) rfl
theorem k_456 : (Jvm.Cond.fieldLink "MachineLoom" (192 : Nat) "MachineLoom$Machine" "trapped" "I") ∈ ma := ma_of (tb_2 _ (List.mem_of_getElem? (i := 216) rfl)) rfl
theorem k_458 : (Jvm.Cond.fieldLink "MachineLoom" (195 : Nat) "MachineLoom$Machine" "beyond" "I") ∈ ma := ma_of (tb_2 _ (List.mem_of_getElem? (i := 218) rfl)) rfl
theorem d_Loom_count_0 : decode b_Loom_count 0 = .ok (.iload_n 1, 1) := by decide +kernel
theorem d_Loom_count_1 : decode b_Loom_count 1 = .ok (.tableswitch (120) (0) (7) #[47, 52, 63, 74, 85, 96, 104, 112], 47) := by decide +kernel
theorem d_Loom_count_48 : decode b_Loom_count 48 = .ok (.aload_n 0, 1) := by decide +kernel
theorem d_Loom_count_49 : decode b_Loom_count 49 = .ok (.getfield 61, 3) := by decide +kernel
theorem d_Loom_count_52 : decode b_Loom_count 52 = .ok (.ireturn, 1) := by decide +kernel
theorem d_Loom_count_53 : decode b_Loom_count 53 = .ok (.aload_n 0, 1) := by decide +kernel
theorem d_Loom_count_54 : decode b_Loom_count 54 = .ok (.getfield 57, 3) := by decide +kernel
theorem d_Loom_count_57 : decode b_Loom_count 57 = .ok (.getfield 74, 3) := by decide +kernel
theorem d_Loom_count_60 : decode b_Loom_count 60 = .ok (.getfield 183, 3) := by decide +kernel
theorem d_Loom_count_63 : decode b_Loom_count 63 = .ok (.ireturn, 1) := by decide +kernel
theorem d_Loom_count_64 : decode b_Loom_count 64 = .ok (.aload_n 0, 1) := by decide +kernel
theorem d_Loom_count_65 : decode b_Loom_count 65 = .ok (.getfield 57, 3) := by decide +kernel
theorem d_Loom_count_68 : decode b_Loom_count 68 = .ok (.getfield 74, 3) := by decide +kernel
theorem d_Loom_count_71 : decode b_Loom_count 71 = .ok (.getfield 170, 3) := by decide +kernel
theorem d_Loom_count_74 : decode b_Loom_count 74 = .ok (.ireturn, 1) := by decide +kernel
theorem d_Loom_count_75 : decode b_Loom_count 75 = .ok (.aload_n 0, 1) := by decide +kernel
theorem d_Loom_count_76 : decode b_Loom_count 76 = .ok (.getfield 57, 3) := by decide +kernel
theorem d_Loom_count_79 : decode b_Loom_count 79 = .ok (.getfield 74, 3) := by decide +kernel
theorem d_Loom_count_82 : decode b_Loom_count 82 = .ok (.getfield 186, 3) := by decide +kernel
theorem d_Loom_count_85 : decode b_Loom_count 85 = .ok (.ireturn, 1) := by decide +kernel
theorem d_Loom_count_86 : decode b_Loom_count 86 = .ok (.aload_n 0, 1) := by decide +kernel
theorem d_Loom_count_87 : decode b_Loom_count 87 = .ok (.getfield 57, 3) := by decide +kernel
theorem d_Loom_count_90 : decode b_Loom_count 90 = .ok (.getfield 74, 3) := by decide +kernel
theorem d_Loom_count_93 : decode b_Loom_count 93 = .ok (.getfield 105, 3) := by decide +kernel
theorem d_Loom_count_96 : decode b_Loom_count 96 = .ok (.ireturn, 1) := by decide +kernel
theorem d_Loom_count_97 : decode b_Loom_count 97 = .ok (.aload_n 0, 1) := by decide +kernel
theorem d_Loom_count_98 : decode b_Loom_count 98 = .ok (.getfield 57, 3) := by decide +kernel
theorem d_Loom_count_101 : decode b_Loom_count 101 = .ok (.getfield 189, 3) := by decide +kernel
theorem d_Loom_count_104 : decode b_Loom_count 104 = .ok (.ireturn, 1) := by decide +kernel
theorem d_Loom_count_105 : decode b_Loom_count 105 = .ok (.aload_n 0, 1) := by decide +kernel
theorem d_Loom_count_106 : decode b_Loom_count 106 = .ok (.getfield 57, 3) := by decide +kernel
theorem d_Loom_count_109 : decode b_Loom_count 109 = .ok (.getfield 192, 3) := by decide +kernel
theorem d_Loom_count_112 : decode b_Loom_count 112 = .ok (.ireturn, 1) := by decide +kernel
theorem d_Loom_count_113 : decode b_Loom_count 113 = .ok (.aload_n 0, 1) := by decide +kernel
theorem d_Loom_count_114 : decode b_Loom_count 114 = .ok (.getfield 57, 3) := by decide +kernel
theorem d_Loom_count_117 : decode b_Loom_count 117 = .ok (.getfield 195, 3) := by decide +kernel
theorem d_Loom_count_120 : decode b_Loom_count 120 = .ok (.ireturn, 1) := by decide +kernel
theorem d_Loom_count_121 : decode b_Loom_count 121 = .ok (.iconst (-1), 1) := by decide +kernel
theorem d_Loom_count_122 : decode b_Loom_count 122 = .ok (.ireturn, 1) := by decide +kernel
set_option maxHeartbeats 4000000 in
set_option maxRecDepth 100000 in
theorem c_Loom_count_a (l : Launch) {dA : FieldType → ClassId} {D : va_G} {al : Nat → Nat} {ext : mv_Sh} {sk sv : Nat → Nat} (hi : mv_inj (mg dA D al ext)) (σ : mv_H) (k9 : Int32) (hR : Rf 32 (mv_r σ)) : mv_C l y_Loom_count (Cond.code y_Loom_count b_Loom_count 2 (Option.some Jvm.ClassFile.FieldType.int) :: ma) ({ frames := 0, cells := 0, slots := 0, locals := 0 }) (mg dA D al ext) (mK sk sv) [.ref (al 0), .int k9] σ (mv_Ri (fun _ σ1 => σ1 = σ)) := by
  refine mv_C.ofV (cc := b_Loom_count) (nL := 2) (ret := (Option.some Jvm.ClassFile.FieldType.int)) (by decide +kernel) rfl hi (Nat.le_of_ble_eq_true rfl) ?_
  intro p e s m below meth c B hNs hr hnm hno
  refine mv_iload_n (pc := 0) B d_Loom_count_0 rfl 1 rfl ?_
  refine mv_tsw (pc := 1) B d_Loom_count_1 (by decide) (by decide) ?_
  refine ⟨fun h1 => ?_, fun h1n0 => ?_⟩
  · skip
    refine mv_aload_n (pc := 48) B d_Loom_count_48 rfl 0 rfl ?_
    refine mv_getI (pc := 49) (ci := 0) (C := R_Loom) (T := F_Loom) (N := 10) B 1 rfl rfl (by decide) i_Loom (B.2.2.2.1 _ k_487) rfl d_Loom_count_49 ?_
    exact mv_iret (pc := 52) B hr rfl d_Loom_count_52 (Nat.le_refl _) (Nat.le_refl _) ⟨_, rfl, rfl⟩
  refine ⟨fun h1 => ?_, fun h1n1 => ?_⟩
  · skip
    refine mv_aload_n (pc := 53) B d_Loom_count_53 rfl 0 rfl ?_
    refine mv_getR (pc := 54) (ci := 0) (C := R_Loom) (T := F_Loom) (N := 10) B 9 rfl rfl (by decide) i_Loom (B.2.2.2.1 _ k_495) rfl (hR.1 _ 9 _ rfl) d_Loom_count_54 ?_
    refine mv_getR (pc := 57) (ci := 9) (C := R_Machine) (T := F_Machine) (N := 13) B 0 rfl rfl (by decide) i_Machine (B.2.2.2.1 _ k_441) rfl hR.2.2 d_Loom_count_57 ?_
    refine mv_getI (pc := 60) (ci := 7) (C := R_Program) (T := F_Program) (N := 19) B 0 rfl rfl (by decide) i_Program (B.2.2.2.1 _ k_314) rfl d_Loom_count_60 ?_
    exact mv_iret (pc := 63) B hr rfl d_Loom_count_63 (Nat.le_refl _) (Nat.le_refl _) ⟨_, rfl, rfl⟩
  refine ⟨fun h1 => ?_, fun h1n2 => ?_⟩
  · skip
    refine mv_aload_n (pc := 64) B d_Loom_count_64 rfl 0 rfl ?_
    refine mv_getR (pc := 65) (ci := 0) (C := R_Loom) (T := F_Loom) (N := 10) B 9 rfl rfl (by decide) i_Loom (B.2.2.2.1 _ k_495) rfl (hR.1 _ 9 _ rfl) d_Loom_count_65 ?_
    refine mv_getR (pc := 68) (ci := 9) (C := R_Machine) (T := F_Machine) (N := 13) B 0 rfl rfl (by decide) i_Machine (B.2.2.2.1 _ k_441) rfl hR.2.2 d_Loom_count_68 ?_
    refine mv_getI (pc := 71) (ci := 7) (C := R_Program) (T := F_Program) (N := 19) B 1 rfl rfl (by decide) i_Program (B.2.2.2.1 _ k_317) rfl d_Loom_count_71 ?_
    exact mv_iret (pc := 74) B hr rfl d_Loom_count_74 (Nat.le_refl _) (Nat.le_refl _) ⟨_, rfl, rfl⟩
  refine ⟨fun h1 => ?_, fun h1n3 => ?_⟩
  · skip
    refine mv_aload_n (pc := 75) B d_Loom_count_75 rfl 0 rfl ?_
    refine mv_getR (pc := 76) (ci := 0) (C := R_Loom) (T := F_Loom) (N := 10) B 9 rfl rfl (by decide) i_Loom (B.2.2.2.1 _ k_495) rfl (hR.1 _ 9 _ rfl) d_Loom_count_76 ?_
    refine mv_getR (pc := 79) (ci := 9) (C := R_Machine) (T := F_Machine) (N := 13) B 0 rfl rfl (by decide) i_Machine (B.2.2.2.1 _ k_441) rfl hR.2.2 d_Loom_count_79 ?_
    refine mv_getI (pc := 82) (ci := 7) (C := R_Program) (T := F_Program) (N := 19) B 7 rfl rfl (by decide) i_Program (B.2.2.2.1 _ k_336) rfl d_Loom_count_82 ?_
    exact mv_iret (pc := 85) B hr rfl d_Loom_count_85 (Nat.le_refl _) (Nat.le_refl _) ⟨_, rfl, rfl⟩
  refine ⟨fun h1 => ?_, fun h1n4 => ?_⟩
  · skip
    refine mv_aload_n (pc := 86) B d_Loom_count_86 rfl 0 rfl ?_
    refine mv_getR (pc := 87) (ci := 0) (C := R_Loom) (T := F_Loom) (N := 10) B 9 rfl rfl (by decide) i_Loom (B.2.2.2.1 _ k_495) rfl (hR.1 _ 9 _ rfl) d_Loom_count_87 ?_
    refine mv_getR (pc := 90) (ci := 9) (C := R_Machine) (T := F_Machine) (N := 13) B 0 rfl rfl (by decide) i_Machine (B.2.2.2.1 _ k_441) rfl hR.2.2 d_Loom_count_90 ?_
    refine mv_getI (pc := 93) (ci := 7) (C := R_Program) (T := F_Program) (N := 19) B 10 rfl rfl (by decide) i_Program (B.2.2.2.1 _ k_346) rfl d_Loom_count_93 ?_
    exact mv_iret (pc := 96) B hr rfl d_Loom_count_96 (Nat.le_refl _) (Nat.le_refl _) ⟨_, rfl, rfl⟩
  refine ⟨fun h1 => ?_, fun h1n5 => ?_⟩
  · skip
    refine mv_aload_n (pc := 97) B d_Loom_count_97 rfl 0 rfl ?_
    refine mv_getR (pc := 98) (ci := 0) (C := R_Loom) (T := F_Loom) (N := 10) B 9 rfl rfl (by decide) i_Loom (B.2.2.2.1 _ k_495) rfl (hR.1 _ 9 _ rfl) d_Loom_count_98 ?_
    refine mv_getI (pc := 101) (ci := 9) (C := R_Machine) (T := F_Machine) (N := 13) B 10 rfl rfl (by decide) i_Machine (B.2.2.2.1 _ k_454) rfl d_Loom_count_101 ?_
    exact mv_iret (pc := 104) B hr rfl d_Loom_count_104 (Nat.le_refl _) (Nat.le_refl _) ⟨_, rfl, rfl⟩
  refine ⟨fun h1 => ?_, fun h1n6 => ?_⟩
  · skip
    refine mv_aload_n (pc := 105) B d_Loom_count_105 rfl 0 rfl ?_
    refine mv_getR (pc := 106) (ci := 0) (C := R_Loom) (T := F_Loom) (N := 10) B 9 rfl rfl (by decide) i_Loom (B.2.2.2.1 _ k_495) rfl (hR.1 _ 9 _ rfl) d_Loom_count_106 ?_
    refine mv_getI (pc := 109) (ci := 9) (C := R_Machine) (T := F_Machine) (N := 13) B 11 rfl rfl (by decide) i_Machine (B.2.2.2.1 _ k_456) rfl d_Loom_count_109 ?_
    exact mv_iret (pc := 112) B hr rfl d_Loom_count_112 (Nat.le_refl _) (Nat.le_refl _) ⟨_, rfl, rfl⟩
  refine ⟨fun h1 => ?_, fun h1n7 => ?_⟩
  · skip
    refine mv_aload_n (pc := 113) B d_Loom_count_113 rfl 0 rfl ?_
    refine mv_getR (pc := 114) (ci := 0) (C := R_Loom) (T := F_Loom) (N := 10) B 9 rfl rfl (by decide) i_Loom (B.2.2.2.1 _ k_495) rfl (hR.1 _ 9 _ rfl) d_Loom_count_114 ?_
    refine mv_getI (pc := 117) (ci := 9) (C := R_Machine) (T := F_Machine) (N := 13) B 12 rfl rfl (by decide) i_Machine (B.2.2.2.1 _ k_458) rfl d_Loom_count_117 ?_
    exact mv_iret (pc := 120) B hr rfl d_Loom_count_120 (Nat.le_refl _) (Nat.le_refl _) ⟨_, rfl, rfl⟩
  show mv_V _ _ _ _ _ _ _ _ _ _ _ _ _ _ _ _ 121 _ _
  refine mv_iconst (pc := 121) (v := -1) B d_Loom_count_121 (by decide) ?_
  exact mv_iret (pc := 122) B hr rfl d_Loom_count_122 (Nat.le_refl _) (Nat.le_refl _) ⟨_, rfl, rfl⟩
set_option maxHeartbeats 4000000 in
set_option maxRecDepth 100000 in
theorem c_Loom_count_b (l : Launch) {dA : FieldType → ClassId} {D : va_G} {al : Nat → Nat} {ext : mv_Sh} {sk sv : Nat → Nat} (hi : mv_inj (mg dA D al ext)) (σ : mv_H) (k9 : Int32) (hR : Rf 48 (mv_r σ)) : mv_C l y_Loom_count (Cond.code y_Loom_count b_Loom_count 2 (Option.some Jvm.ClassFile.FieldType.int) :: ma) ({ frames := 0, cells := 0, slots := 0, locals := 0 }) (mg dA D al ext) (mK sk sv) [.ref (al 0), .int k9] σ (mv_Ri (fun _ σ1 => σ1 = σ)) := by
  refine mv_C.ofV (cc := b_Loom_count) (nL := 2) (ret := (Option.some Jvm.ClassFile.FieldType.int)) (by decide +kernel) rfl hi (Nat.le_of_ble_eq_true rfl) ?_
  intro p e s m below meth c B hNs hr hnm hno
  refine mv_iload_n (pc := 0) B d_Loom_count_0 rfl 1 rfl ?_
  refine mv_tsw (pc := 1) B d_Loom_count_1 (by decide) (by decide) ?_
  refine ⟨fun h1 => ?_, fun h1n0 => ?_⟩
  · skip
    refine mv_aload_n (pc := 48) B d_Loom_count_48 rfl 0 rfl ?_
    refine mv_getI (pc := 49) (ci := 0) (C := R_Loom) (T := F_Loom) (N := 10) B 1 rfl rfl (by decide) i_Loom (B.2.2.2.1 _ k_487) rfl d_Loom_count_49 ?_
    exact mv_iret (pc := 52) B hr rfl d_Loom_count_52 (Nat.le_refl _) (Nat.le_refl _) ⟨_, rfl, rfl⟩
  refine ⟨fun h1 => ?_, fun h1n1 => ?_⟩
  · skip
    refine mv_aload_n (pc := 53) B d_Loom_count_53 rfl 0 rfl ?_
    refine mv_getR (pc := 54) (ci := 0) (C := R_Loom) (T := F_Loom) (N := 10) B 9 rfl rfl (by decide) i_Loom (B.2.2.2.1 _ k_495) rfl (hR.1 _ 9 _ rfl) d_Loom_count_54 ?_
    refine mv_getR (pc := 57) (ci := 9) (C := R_Machine) (T := F_Machine) (N := 13) B 0 rfl rfl (by decide) i_Machine (B.2.2.2.1 _ k_441) rfl hR.2.2 d_Loom_count_57 ?_
    refine mv_getI (pc := 60) (ci := 7) (C := R_Program) (T := F_Program) (N := 19) B 0 rfl rfl (by decide) i_Program (B.2.2.2.1 _ k_314) rfl d_Loom_count_60 ?_
    exact mv_iret (pc := 63) B hr rfl d_Loom_count_63 (Nat.le_refl _) (Nat.le_refl _) ⟨_, rfl, rfl⟩
  refine ⟨fun h1 => ?_, fun h1n2 => ?_⟩
  · skip
    refine mv_aload_n (pc := 64) B d_Loom_count_64 rfl 0 rfl ?_
    refine mv_getR (pc := 65) (ci := 0) (C := R_Loom) (T := F_Loom) (N := 10) B 9 rfl rfl (by decide) i_Loom (B.2.2.2.1 _ k_495) rfl (hR.1 _ 9 _ rfl) d_Loom_count_65 ?_
    refine mv_getR (pc := 68) (ci := 9) (C := R_Machine) (T := F_Machine) (N := 13) B 0 rfl rfl (by decide) i_Machine (B.2.2.2.1 _ k_441) rfl hR.2.2 d_Loom_count_68 ?_
    refine mv_getI (pc := 71) (ci := 7) (C := R_Program) (T := F_Program) (N := 19) B 1 rfl rfl (by decide) i_Program (B.2.2.2.1 _ k_317) rfl d_Loom_count_71 ?_
    exact mv_iret (pc := 74) B hr rfl d_Loom_count_74 (Nat.le_refl _) (Nat.le_refl _) ⟨_, rfl, rfl⟩
  refine ⟨fun h1 => ?_, fun h1n3 => ?_⟩
  · skip
    refine mv_aload_n (pc := 75) B d_Loom_count_75 rfl 0 rfl ?_
    refine mv_getR (pc := 76) (ci := 0) (C := R_Loom) (T := F_Loom) (N := 10) B 9 rfl rfl (by decide) i_Loom (B.2.2.2.1 _ k_495) rfl (hR.1 _ 9 _ rfl) d_Loom_count_76 ?_
    refine mv_getR (pc := 79) (ci := 9) (C := R_Machine) (T := F_Machine) (N := 13) B 0 rfl rfl (by decide) i_Machine (B.2.2.2.1 _ k_441) rfl hR.2.2 d_Loom_count_79 ?_
    refine mv_getI (pc := 82) (ci := 7) (C := R_Program) (T := F_Program) (N := 19) B 7 rfl rfl (by decide) i_Program (B.2.2.2.1 _ k_336) rfl d_Loom_count_82 ?_
    exact mv_iret (pc := 85) B hr rfl d_Loom_count_85 (Nat.le_refl _) (Nat.le_refl _) ⟨_, rfl, rfl⟩
  refine ⟨fun h1 => ?_, fun h1n4 => ?_⟩
  · skip
    refine mv_aload_n (pc := 86) B d_Loom_count_86 rfl 0 rfl ?_
    refine mv_getR (pc := 87) (ci := 0) (C := R_Loom) (T := F_Loom) (N := 10) B 9 rfl rfl (by decide) i_Loom (B.2.2.2.1 _ k_495) rfl (hR.1 _ 9 _ rfl) d_Loom_count_87 ?_
    refine mv_getR (pc := 90) (ci := 9) (C := R_Machine) (T := F_Machine) (N := 13) B 0 rfl rfl (by decide) i_Machine (B.2.2.2.1 _ k_441) rfl hR.2.2 d_Loom_count_90 ?_
    refine mv_getI (pc := 93) (ci := 7) (C := R_Program) (T := F_Program) (N := 19) B 10 rfl rfl (by decide) i_Program (B.2.2.2.1 _ k_346) rfl d_Loom_count_93 ?_
    exact mv_iret (pc := 96) B hr rfl d_Loom_count_96 (Nat.le_refl _) (Nat.le_refl _) ⟨_, rfl, rfl⟩
  refine ⟨fun h1 => ?_, fun h1n5 => ?_⟩
  · skip
    refine mv_aload_n (pc := 97) B d_Loom_count_97 rfl 0 rfl ?_
    refine mv_getR (pc := 98) (ci := 0) (C := R_Loom) (T := F_Loom) (N := 10) B 9 rfl rfl (by decide) i_Loom (B.2.2.2.1 _ k_495) rfl (hR.1 _ 9 _ rfl) d_Loom_count_98 ?_
    refine mv_getI (pc := 101) (ci := 9) (C := R_Machine) (T := F_Machine) (N := 13) B 10 rfl rfl (by decide) i_Machine (B.2.2.2.1 _ k_454) rfl d_Loom_count_101 ?_
    exact mv_iret (pc := 104) B hr rfl d_Loom_count_104 (Nat.le_refl _) (Nat.le_refl _) ⟨_, rfl, rfl⟩
  refine ⟨fun h1 => ?_, fun h1n6 => ?_⟩
  · skip
    refine mv_aload_n (pc := 105) B d_Loom_count_105 rfl 0 rfl ?_
    refine mv_getR (pc := 106) (ci := 0) (C := R_Loom) (T := F_Loom) (N := 10) B 9 rfl rfl (by decide) i_Loom (B.2.2.2.1 _ k_495) rfl (hR.1 _ 9 _ rfl) d_Loom_count_106 ?_
    refine mv_getI (pc := 109) (ci := 9) (C := R_Machine) (T := F_Machine) (N := 13) B 11 rfl rfl (by decide) i_Machine (B.2.2.2.1 _ k_456) rfl d_Loom_count_109 ?_
    exact mv_iret (pc := 112) B hr rfl d_Loom_count_112 (Nat.le_refl _) (Nat.le_refl _) ⟨_, rfl, rfl⟩
  refine ⟨fun h1 => ?_, fun h1n7 => ?_⟩
  · skip
    refine mv_aload_n (pc := 113) B d_Loom_count_113 rfl 0 rfl ?_
    refine mv_getR (pc := 114) (ci := 0) (C := R_Loom) (T := F_Loom) (N := 10) B 9 rfl rfl (by decide) i_Loom (B.2.2.2.1 _ k_495) rfl (hR.1 _ 9 _ rfl) d_Loom_count_114 ?_
    refine mv_getI (pc := 117) (ci := 9) (C := R_Machine) (T := F_Machine) (N := 13) B 12 rfl rfl (by decide) i_Machine (B.2.2.2.1 _ k_458) rfl d_Loom_count_117 ?_
    exact mv_iret (pc := 120) B hr rfl d_Loom_count_120 (Nat.le_refl _) (Nat.le_refl _) ⟨_, rfl, rfl⟩
  show mv_V _ _ _ _ _ _ _ _ _ _ _ _ _ _ _ _ 121 _ _
  refine mv_iconst (pc := 121) (v := -1) B d_Loom_count_121 (by decide) ?_
  exact mv_iret (pc := 122) B hr rfl d_Loom_count_122 (Nat.le_refl _) (Nat.le_refl _) ⟨_, rfl, rfl⟩
set_option maxHeartbeats 4000000 in
set_option maxRecDepth 100000 in
theorem c_Loom_count_c (l : Launch) {dA : FieldType → ClassId} {D : va_G} {al : Nat → Nat} {sk sv : Nat → Nat} (hi : mv_inj (mg dA D al me)) (σ : mv_H) (k9 : Int32) (hR : Rf 145 (mv_r σ)) : mv_C l y_Loom_count (Cond.code y_Loom_count b_Loom_count 2 (Option.some Jvm.ClassFile.FieldType.int) :: ma) ({ frames := 0, cells := 0, slots := 0, locals := 0 }) (mg dA D al me) (mK sk sv) [.ref (al 0), .int k9] σ (mv_Ri (fun _ σ1 => σ1 = σ)) := by
  refine mv_C.ofV (cc := b_Loom_count) (nL := 2) (ret := (Option.some Jvm.ClassFile.FieldType.int)) (by decide +kernel) rfl hi (Nat.le_of_ble_eq_true rfl) ?_
  intro p e s m below meth c B hNs hr hnm hno
  refine mv_iload_n (pc := 0) B d_Loom_count_0 rfl 1 rfl ?_
  refine mv_tsw (pc := 1) B d_Loom_count_1 (by decide) (by decide) ?_
  refine ⟨fun h1 => ?_, fun h1n0 => ?_⟩
  · skip
    refine mv_aload_n (pc := 48) B d_Loom_count_48 rfl 0 rfl ?_
    refine mv_getI (pc := 49) (ci := 0) (C := R_Loom) (T := F_Loom) (N := 10) B 1 rfl rfl (by decide) i_Loom (B.2.2.2.1 _ k_487) rfl d_Loom_count_49 ?_
    exact mv_iret (pc := 52) B hr rfl d_Loom_count_52 (Nat.le_refl _) (Nat.le_refl _) ⟨_, rfl, rfl⟩
  refine ⟨fun h1 => ?_, fun h1n1 => ?_⟩
  · skip
    refine mv_aload_n (pc := 53) B d_Loom_count_53 rfl 0 rfl ?_
    refine mv_getR (pc := 54) (ci := 0) (C := R_Loom) (T := F_Loom) (N := 10) B 9 rfl rfl (by decide) i_Loom (B.2.2.2.1 _ k_495) rfl (hR.1 _ 9 _ rfl) d_Loom_count_54 ?_
    refine mv_getR (pc := 57) (ci := 9) (C := R_Machine) (T := F_Machine) (N := 13) B 0 rfl rfl (by decide) i_Machine (B.2.2.2.1 _ k_441) rfl hR.2.2 d_Loom_count_57 ?_
    refine mv_getI (pc := 60) (ci := 7) (C := R_Program) (T := F_Program) (N := 19) B 0 rfl rfl (by decide) i_Program (B.2.2.2.1 _ k_314) rfl d_Loom_count_60 ?_
    exact mv_iret (pc := 63) B hr rfl d_Loom_count_63 (Nat.le_refl _) (Nat.le_refl _) ⟨_, rfl, rfl⟩
  refine ⟨fun h1 => ?_, fun h1n2 => ?_⟩
  · skip
    refine mv_aload_n (pc := 64) B d_Loom_count_64 rfl 0 rfl ?_
    refine mv_getR (pc := 65) (ci := 0) (C := R_Loom) (T := F_Loom) (N := 10) B 9 rfl rfl (by decide) i_Loom (B.2.2.2.1 _ k_495) rfl (hR.1 _ 9 _ rfl) d_Loom_count_65 ?_
    refine mv_getR (pc := 68) (ci := 9) (C := R_Machine) (T := F_Machine) (N := 13) B 0 rfl rfl (by decide) i_Machine (B.2.2.2.1 _ k_441) rfl hR.2.2 d_Loom_count_68 ?_
    refine mv_getI (pc := 71) (ci := 7) (C := R_Program) (T := F_Program) (N := 19) B 1 rfl rfl (by decide) i_Program (B.2.2.2.1 _ k_317) rfl d_Loom_count_71 ?_
    exact mv_iret (pc := 74) B hr rfl d_Loom_count_74 (Nat.le_refl _) (Nat.le_refl _) ⟨_, rfl, rfl⟩
  refine ⟨fun h1 => ?_, fun h1n3 => ?_⟩
  · skip
    refine mv_aload_n (pc := 75) B d_Loom_count_75 rfl 0 rfl ?_
    refine mv_getR (pc := 76) (ci := 0) (C := R_Loom) (T := F_Loom) (N := 10) B 9 rfl rfl (by decide) i_Loom (B.2.2.2.1 _ k_495) rfl (hR.1 _ 9 _ rfl) d_Loom_count_76 ?_
    refine mv_getR (pc := 79) (ci := 9) (C := R_Machine) (T := F_Machine) (N := 13) B 0 rfl rfl (by decide) i_Machine (B.2.2.2.1 _ k_441) rfl hR.2.2 d_Loom_count_79 ?_
    refine mv_getI (pc := 82) (ci := 7) (C := R_Program) (T := F_Program) (N := 19) B 7 rfl rfl (by decide) i_Program (B.2.2.2.1 _ k_336) rfl d_Loom_count_82 ?_
    exact mv_iret (pc := 85) B hr rfl d_Loom_count_85 (Nat.le_refl _) (Nat.le_refl _) ⟨_, rfl, rfl⟩
  refine ⟨fun h1 => ?_, fun h1n4 => ?_⟩
  · skip
    refine mv_aload_n (pc := 86) B d_Loom_count_86 rfl 0 rfl ?_
    refine mv_getR (pc := 87) (ci := 0) (C := R_Loom) (T := F_Loom) (N := 10) B 9 rfl rfl (by decide) i_Loom (B.2.2.2.1 _ k_495) rfl (hR.1 _ 9 _ rfl) d_Loom_count_87 ?_
    refine mv_getR (pc := 90) (ci := 9) (C := R_Machine) (T := F_Machine) (N := 13) B 0 rfl rfl (by decide) i_Machine (B.2.2.2.1 _ k_441) rfl hR.2.2 d_Loom_count_90 ?_
    refine mv_getI (pc := 93) (ci := 7) (C := R_Program) (T := F_Program) (N := 19) B 10 rfl rfl (by decide) i_Program (B.2.2.2.1 _ k_346) rfl d_Loom_count_93 ?_
    exact mv_iret (pc := 96) B hr rfl d_Loom_count_96 (Nat.le_refl _) (Nat.le_refl _) ⟨_, rfl, rfl⟩
  refine ⟨fun h1 => ?_, fun h1n5 => ?_⟩
  · skip
    refine mv_aload_n (pc := 97) B d_Loom_count_97 rfl 0 rfl ?_
    refine mv_getR (pc := 98) (ci := 0) (C := R_Loom) (T := F_Loom) (N := 10) B 9 rfl rfl (by decide) i_Loom (B.2.2.2.1 _ k_495) rfl (hR.1 _ 9 _ rfl) d_Loom_count_98 ?_
    refine mv_getI (pc := 101) (ci := 9) (C := R_Machine) (T := F_Machine) (N := 13) B 10 rfl rfl (by decide) i_Machine (B.2.2.2.1 _ k_454) rfl d_Loom_count_101 ?_
    exact mv_iret (pc := 104) B hr rfl d_Loom_count_104 (Nat.le_refl _) (Nat.le_refl _) ⟨_, rfl, rfl⟩
  refine ⟨fun h1 => ?_, fun h1n6 => ?_⟩
  · skip
    refine mv_aload_n (pc := 105) B d_Loom_count_105 rfl 0 rfl ?_
    refine mv_getR (pc := 106) (ci := 0) (C := R_Loom) (T := F_Loom) (N := 10) B 9 rfl rfl (by decide) i_Loom (B.2.2.2.1 _ k_495) rfl (hR.1 _ 9 _ rfl) d_Loom_count_106 ?_
    refine mv_getI (pc := 109) (ci := 9) (C := R_Machine) (T := F_Machine) (N := 13) B 11 rfl rfl (by decide) i_Machine (B.2.2.2.1 _ k_456) rfl d_Loom_count_109 ?_
    exact mv_iret (pc := 112) B hr rfl d_Loom_count_112 (Nat.le_refl _) (Nat.le_refl _) ⟨_, rfl, rfl⟩
  refine ⟨fun h1 => ?_, fun h1n7 => ?_⟩
  · skip
    refine mv_aload_n (pc := 113) B d_Loom_count_113 rfl 0 rfl ?_
    refine mv_getR (pc := 114) (ci := 0) (C := R_Loom) (T := F_Loom) (N := 10) B 9 rfl rfl (by decide) i_Loom (B.2.2.2.1 _ k_495) rfl (hR.1 _ 9 _ rfl) d_Loom_count_114 ?_
    refine mv_getI (pc := 117) (ci := 9) (C := R_Machine) (T := F_Machine) (N := 13) B 12 rfl rfl (by decide) i_Machine (B.2.2.2.1 _ k_458) rfl d_Loom_count_117 ?_
    exact mv_iret (pc := 120) B hr rfl d_Loom_count_120 (Nat.le_refl _) (Nat.le_refl _) ⟨_, rfl, rfl⟩
  show mv_V _ _ _ _ _ _ _ _ _ _ _ _ _ _ _ _ 121 _ _
  refine mv_iconst (pc := 121) (v := -1) B d_Loom_count_121 (by decide) ?_
  exact mv_iret (pc := 122) B hr rfl d_Loom_count_122 (Nat.le_refl _) (Nat.le_refl _) ⟨_, rfl, rfl⟩
