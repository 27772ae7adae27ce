/-! Exprs: cell, widen, goOn, after -/
def y_Exprs_cell : MethodName := ⟨"MachineLoom$Exprs", "cell", "()V"⟩
abbrev b_Exprs_cell : ByteArray := prog_3_method_22_code
theorem kc_Exprs_cell : Cond.code y_Exprs_cell b_Exprs_cell 3 (Option.none : Option Jvm.ClassFile.FieldType) ∈ ma := ma_of (tb_7 _ (List.mem_of_getElem? (i := 77) rfl)) rfl
theorem d_Exprs_cell_0 : decode b_Exprs_cell 0 = .ok (.aload_n 0, 1) := by decide +kernel
theorem d_Exprs_cell_1 : decode b_Exprs_cell 1 = .ok (.getfield 27, 3) := by decide +kernel
theorem d_Exprs_cell_4 : decode b_Exprs_cell 4 = .ok (.bipush 93, 2) := by decide +kernel
theorem d_Exprs_cell_6 : decode b_Exprs_cell 6 = .ok (.invokevirtual 161, 3) := by decide +kernel
theorem d_Exprs_cell_9 : decode b_Exprs_cell 9 = .ok (.pop, 1) := by decide +kernel
theorem d_Exprs_cell_10 : decode b_Exprs_cell 10 = .ok (.aload_n 0, 1) := by decide +kernel
theorem d_Exprs_cell_11 : decode b_Exprs_cell 11 = .ok (.dup, 1) := by decide +kernel
theorem d_Exprs_cell_12 : decode b_Exprs_cell 12 = .ok (.getfield 39, 3) := by decide +kernel
theorem d_Exprs_cell_15 : decode b_Exprs_cell 15 = .ok (.iconst 1, 1) := by decide +kernel
theorem d_Exprs_cell_16 : decode b_Exprs_cell 16 = .ok (.isub, 1) := by decide +kernel
theorem d_Exprs_cell_17 : decode b_Exprs_cell 17 = .ok (.putfield 39, 3) := by decide +kernel
theorem d_Exprs_cell_20 : decode b_Exprs_cell 20 = .ok (.aload_n 0, 1) := by decide +kernel
theorem d_Exprs_cell_21 : decode b_Exprs_cell 21 = .ok (.getfield 18, 3) := by decide +kernel
theorem d_Exprs_cell_24 : decode b_Exprs_cell 24 = .ok (.aload_n 0, 1) := by decide +kernel
theorem d_Exprs_cell_25 : decode b_Exprs_cell 25 = .ok (.getfield 39, 3) := by decide +kernel
theorem d_Exprs_cell_28 : decode b_Exprs_cell 28 = .ok (.iaload, 1) := by decide +kernel
theorem d_Exprs_cell_29 : decode b_Exprs_cell 29 = .ok (.istore_n 1, 1) := by decide +kernel
theorem d_Exprs_cell_30 : decode b_Exprs_cell 30 = .ok (.aload_n 0, 1) := by decide +kernel
theorem d_Exprs_cell_31 : decode b_Exprs_cell 31 = .ok (.getfield 89, 3) := by decide +kernel
theorem d_Exprs_cell_34 : decode b_Exprs_cell 34 = .ok (.sipush 304, 3) := by decide +kernel
theorem d_Exprs_cell_37 : decode b_Exprs_cell 37 = .ok (.iload_n 1, 1) := by decide +kernel
theorem d_Exprs_cell_38 : decode b_Exprs_cell 38 = .ok (.i2l, 1) := by decide +kernel
theorem d_Exprs_cell_39 : decode b_Exprs_cell 39 = .ok (.invokevirtual 93, 3) := by decide +kernel
theorem d_Exprs_cell_42 : decode b_Exprs_cell 42 = .ok (.pop, 1) := by decide +kernel
theorem d_Exprs_cell_43 : decode b_Exprs_cell 43 = .ok (.aload_n 0, 1) := by decide +kernel
theorem d_Exprs_cell_44 : decode b_Exprs_cell 44 = .ok (.invokevirtual 164, 3) := by decide +kernel
theorem d_Exprs_cell_47 : decode b_Exprs_cell 47 = .ok (.istore_n 2, 1) := by decide +kernel
theorem d_Exprs_cell_48 : decode b_Exprs_cell 48 = .ok (.aload_n 0, 1) := by decide +kernel
theorem d_Exprs_cell_49 : decode b_Exprs_cell 49 = .ok (.iload_n 2, 1) := by decide +kernel
theorem d_Exprs_cell_50 : decode b_Exprs_cell 50 = .ok (.ifCond .ne (7), 3) := by decide +kernel
theorem d_Exprs_cell_53 : decode b_Exprs_cell 53 = .ok (.iconst 0, 1) := by decide +kernel
theorem d_Exprs_cell_54 : decode b_Exprs_cell 54 = .ok (.goto (12), 3) := by decide +kernel
theorem d_Exprs_cell_57 : decode b_Exprs_cell 57 = .ok (.aload_n 0, 1) := by decide +kernel
theorem d_Exprs_cell_58 : decode b_Exprs_cell 58 = .ok (.getfield 89, 3) := by decide +kernel
theorem d_Exprs_cell_61 : decode b_Exprs_cell 61 = .ok (.getfield 139, 3) := by decide +kernel
theorem d_Exprs_cell_64 : decode b_Exprs_cell 64 = .ok (.iload_n 1, 1) := by decide +kernel
theorem d_Exprs_cell_65 : decode b_Exprs_cell 65 = .ok (.iaload, 1) := by decide +kernel
theorem d_Exprs_cell_66 : decode b_Exprs_cell 66 = .ok (.invokevirtual 102, 3) := by decide +kernel
theorem d_Exprs_cell_69 : decode b_Exprs_cell 69 = .ok (.return_, 1) := by decide +kernel
set_option maxHeartbeats 4000000 in
set_option maxRecDepth 100000 in
theorem c_Exprs_cell_a (l : Launch) {dA : FieldType → ClassId} {D : va_G} {al : Nat → Nat} {ext : mv_Sh} {sk sv : Nat → Nat} (hi : mv_inj (mg dA D al ext)) (σ : mv_H) (w8 : Int32) {t len n z sz th sl e0 bs ns : Nat} {BL : (Nat → Nat) → Prop} {f0 : Nat → Int32} {g0 : Nat → Int64} {ms : List Mk} {s0 bd a : Nat} (hB0 : SB 32 σ t len n z sz th sl) (ht2 : t = 1 ∨ t = 144) (hX : XM 32 th e0 bs BL f0 g0 ns σ (((91, w8) : Mk) :: ms) (sm wt (((91, w8) : Mk) :: ms) + 1) (sm wr (((91, w8) : Mk) :: ms) + 1) (s0)) (hI : TI σ sz bd (((91, w8) : Mk) :: ms) s0 a) (hlen : len ≤ 32768) (hbs : bs ≤ 1) (hk3 : mv_a σ 4 (mv_i σ 3 7).toNatClampNeg = 93) : mv_C l y_Exprs_cell (Cond.code y_Exprs_cell b_Exprs_cell 3 (Option.none : Option Jvm.ClassFile.FieldType) :: ma) ({ frames := 3, cells := 0, slots := 0, locals := 63 }) (mg dA D al ext) (mK sk sv) [.ref (al 22)] σ (mv_Rv (fun σ1 => RF 32 σ σ1 ∧ Mt (mv_a σ1 24) ∧ (0 ≤ (mv_i σ1 3 9).toInt ∨ ∃ ms2 s2 a2, a < a2 ∧ XM 32 th e0 bs BL f0 g0 ns σ1 (ms2) (sm wt ms2 + 1) (sm wr ms2 + 1) (s2) ∧ TI σ1 sz bd ms2 s2 a2))) := by
  refine mv_C.ofV (cc := b_Exprs_cell) (nL := 3) (ret := (Option.none : Option Jvm.ClassFile.FieldType)) (by decide +kernel) rfl hi (Nat.le_of_ble_eq_true rfl) ?_
  intro p e s m below meth c B hNs hr hnm hno
  have hP : PQ 32 := by unfold PQ; omega
  have hR := hB0.1
  have hF : RF 32 σ σ := RF0
  have hT : mv_i σ 3 = mv_i σ 3 := rfl
  have hsz := hB0.2.1.2.2.2.2.2
  have hsz2 := hB0.2.1.2.2.2.1
  have hI5 := hI.2.2.2.2.1
  have ha9 := hI.2.2.2.2.2.1
  have pl := hI.len hX
  have hm8 := hX.1.1
  have t7 := hI.1
  have hw9 := hI.2.1
  have t9 : (mv_i σ 3 9).toInt = (mv_i σ 3 9).toInt := rfl
  have hd8 := hI.2.2.1
  have hd9 := hI.2.2.2.1
  have hWm := hI.2.2.2.2.2.2
  have kp : mv_a σ 4 = mv_a σ 4 := rfl
  have t8 : (mv_i σ 3 8).toInt = (mv_i σ 3 8).toInt := rfl
  have g1 : sm wt (((91, w8) : Mk) :: ms) = wt (91, w8) + sm wt ms := rfl
  have g2 : sm wr (((91, w8) : Mk) :: ms) = wr (91, w8) + sm wr ms := rfl
  have g3 : sm wd (((91, w8) : Mk) :: ms) = wd (91, w8) + sm wd ms := rfl
  have g4 : sm wc (((91, w8) : Mk) :: ms) = wc (91, w8) + sm wc ms := rfl
  have gl : ((((91, w8)) : Mk) :: ms).length = ms.length + 1 := rfl
  have g5 : wt (91, w8) = 0 := rfl
  have g6 : wr (91, w8) = 0 := rfl
  have g7 : wd (91, w8) = 1 := rfl
  have g8 : wc (91, w8) = 0 := rfl
  rw [g1, g2, g5, g6, Nat.zero_add, Nat.zero_add] at hX
  have ht64 := hB0.2.2.2.2.1
  have j66 : ∀ (υ : mv_H) (x9 : Int32) (hR : Rw 32 (mv_r υ)) (hF : RF 32 σ υ) (hX : XM 32 th e0 bs BL f0 g0 ns υ (ms) (sm wt ms) (sm wr ms + 1) (s0 + 1)) (t7 : (mv_i υ 3 7).toInt = a + 1) (t8 : (mv_i υ 3 8).toInt = (mv_i σ 3 8).toInt - 1) (t9 : (mv_i υ 3 9).toInt < 0) (kp : mv_a υ 4 = mv_a σ 4) (t6 : a + 1 < sz), mv_V p l e ({ frames := 3, cells := 0, slots := 0, locals := 63 }) s m ([.ref (al 22)] : List Value).toArray below meth c (mg dA D al ext) 3 0 0 (mv_Q (mg dA D al ext) below s 0 0 (mv_Rv (fun σ1 => RF 32 σ σ1 ∧ Mt (mv_a σ1 24) ∧ (0 ≤ (mv_i σ1 3 9).toInt ∨ ∃ ms2 s2 a2, a < a2 ∧ XM 32 th e0 bs BL f0 g0 ns σ1 (ms2) (sm wt ms2 + 1) (sm wr ms2 + 1) (s2) ∧ TI σ1 sz bd ms2 s2 a2)))) υ 66 [(0, .ref (al 22))] [.int x9, .ref (al 22)] := by
    intro υ x9 hR hF hX t7 t8 t9 kp t6
    have hw8 := t9
    have t9 : (mv_i υ 3 9).toInt = (mv_i υ 3 9).toInt := rfl
    refine mv_callVv (pc := 66) (n := 1) (ci := 6) (C := R_Exprs) B (mK_ok sk sv) hNs rfl rfl (c_Exprs_hold l hi _ _ hR.1 (by have := hX.1.2.2.1; omega) (by have := hX.1.2.2.1; omega)) rfl (ma_goodc kc_Exprs_hold) (B.2.2.2.1 _ k_1432) (B.2.2.2.1 _ k_1434) (B.2.2.2.1 _ ks_51) (B.2.2.2.1 _ k_7) ⟨by decide +kernel, by decide +kernel, by decide +kernel⟩ rfl d_Exprs_cell_66 rfl (Nat.le_of_ble_eq_true rfl) ⟨by decide, by decide⟩ ⟨by decide, by decide⟩ ⟨by decide, by decide⟩ (mv_noH hno _) (fun σ66 h66 => ?_)
    subst h66
    refine mv_gen (fun S69 eS69 => ?_)
    have hR : Rw 32 (mv_r S69) := by rw [eS69]; exact hR
    have hF : RF 32 σ S69 := by rw [eS69]; exact hF.hold _
    have hX : XM 32 th e0 bs BL f0 g0 ns S69 (ms) (sm wt ms + 1) (sm wr ms + 1) (s0 + 1) := by rw [eS69]; exact hX.hold hP (by omega) _
    have t7 := Eq.trans (congrArg Int32.toInt (show mv_i S69 3 7 = mv_i _ 3 7 by rw [eS69]; rfl)) t7
    have t8 := Eq.trans (congrArg Int32.toInt (show mv_i S69 3 8 = mv_i _ 3 8 by rw [eS69]; rfl)) t8
    have t9 := Eq.trans (congrArg Int32.toInt (show mv_i S69 3 9 = mv_i _ 3 9 by rw [eS69]; rfl)) t9
    have kp := Eq.trans (show mv_a S69 4 = mv_a _ 4 by rw [eS69]; rfl) kp
    have hend : 0 ≤ (mv_i S69 3 9).toInt ∨ ∃ ms2 s2 a2, a < a2 ∧ XM 32 th e0 bs BL f0 g0 ns S69 (ms2) (sm wt ms2 + 1) (sm wr ms2 + 1) (s2) ∧ TI S69 sz bd ms2 s2 a2 := Or.inr ⟨ms, s0 + 1, a + 1, by omega, hX, by omega, by omega, by omega, by omega, by omega, by omega, hWm.tail.up (by omega)⟩
    clear eS69
    exact mv_vret (pc := 69) B hr d_Exprs_cell_69 (Nat.le_refl _) (Nat.le_refl _) ⟨rfl, hF, hX.1.2.2.2.1, hend⟩
  refine mv_aload_n (pc := 0) B d_Exprs_cell_0 rfl 0 rfl ?_
  refine mv_getR (pc := 1) (ci := 6) (C := R_Exprs) (T := F_Exprs) (N := 11) B 0 rfl rfl (by decide) i_Exprs (B.2.2.2.1 _ k_193) rfl (hR.1 _ 0 _ rfl) d_Exprs_cell_1 ?_
  refine mv_bipush (pc := 4) (v := 93) B d_Exprs_cell_4 (by decide) ?_
  refine mv_callVi (pc := 6) (n := 1) (ci := 2) (C := R_Tokens) B (mK_ok sk sv) hNs rfl rfl (c_Tokens_closeN l hi _ _ hR.1 (hB0.rf hF hP ht2).2.1 (by omega) (by omega) (by decide)) rfl (ma_goodc kc_Tokens_close) (B.2.2.2.1 _ k_1468) (B.2.2.2.1 _ k_1397) (B.2.2.2.1 _ k_1398) (B.2.2.2.1 _ k_3) ⟨by decide +kernel, by decide +kernel, by decide +kernel⟩ rfl d_Exprs_cell_6 rfl (Nat.le_of_ble_eq_true rfl) ⟨by decide, by decide⟩ ⟨by decide, by decide⟩ ⟨by decide, by decide⟩ (mv_noH hno _) (fun v6 σ6 h6 => ?_)
  obtain ⟨a6, w6, e6, r6⟩ := h6
  have q6 := r6.1
  have z6 := fun q => (r6.2.1 q).1
  have y6 := And.intro r6.2.2.2.1 r6.2.2.2.2.1
  subst e6
  have hw6 := r6.2.2.1 hw9 hk3 trivial
  refine mv_gen (fun S9 eS9 => ?_)
  have hR : Rw 32 (mv_r S9) := by rw [eS9]; exact hR
  have hF : RF 32 σ S9 := by rw [eS9]; exact hF.tk3 _ _ _
  have hX : XM 32 th e0 bs BL f0 g0 ns S9 (((91, w8) : Mk) :: ms) (sm wt ms + 1) (sm wr ms + 1) (s0) := by rw [eS9]; exact hX.tk3 hP _ _ _
  have t7 : (mv_i S9 3 7).toInt = a6.toInt := by rw [eS9]; rfl
  have t8 : (mv_i S9 3 8).toInt = (mv_i σ 3 8).toInt - 1 := by rw [eS9]; first | exact t8 | exact (sub_one (by omega)).trans (by omega) | exact (i32_inc (by omega)).trans (by omega)
  have t9 : (mv_i S9 3 9).toInt = w6.toInt := by rw [eS9]; rfl
  have kS9 : mv_a S9 4 = mv_a σ 4 := by rw [eS9]; first | rfl | exact kp
  have kp := kS9
  obtain ⟨p1, p2, p3, p4⟩ := hX.top
  have hw91 : 0 ≤ w8.toInt ∧ w8.toInt < th := hX.1.2.2.2.2.2.head.2 rfl
  clear eS9
  refine mv_pop (pc := 9) B d_Exprs_cell_9 rfl ?_
  refine mv_aload_n (pc := 10) B d_Exprs_cell_10 rfl 0 rfl ?_
  refine mv_dup (pc := 11) B d_Exprs_cell_11 rfl ?_
  refine mv_getI (pc := 12) (ci := 6) (C := R_Exprs) (T := F_Exprs) (N := 11) B 8 rfl rfl (by decide) i_Exprs (B.2.2.2.1 _ k_202) rfl d_Exprs_cell_12 ?_
  refine mv_iconst (pc := 15) (v := 1) B d_Exprs_cell_15 (by decide) ?_
  refine mv_isub (pc := 16) B d_Exprs_cell_16 ?_
  refine mv_putI (pc := 17) (ci := 6) (C := R_Exprs) (T := F_Exprs) (N := 11) B 8 rfl rfl (by decide) i_Exprs t_Exprs_ok n_Exprs (B.2.2.2.1 _ k_202) rfl rfl rfl rfl d_Exprs_cell_17 ?_
  refine mv_gen (fun S20 eS20 => ?_)
  have p5 : mv_a S20 25 (mv_i S20 22 8).toNatClampNeg = w8 := by rw [eS20]; exact p4
  have p6 : (mv_i S20 22 8).toInt = ms.length := by rw [eS20]; exact p1
  have hR : Rw 32 (mv_r S20) := by rw [eS20]; exact hR
  have hF : RF 32 σ S20 := by rw [eS20]; exact hF.pop
  have hX : XM 32 th e0 bs BL f0 g0 ns S20 (ms) (sm wt ms + 1) (sm wr ms + 1) (s0) := by rw [eS20]; exact hX.pop hP ⟨show ¬ (91 : Int32) = 63 by decide, show ¬ (91 : Int32) = 58 by decide⟩
  have t7 := Eq.trans (congrArg Int32.toInt (show mv_i S20 3 7 = mv_i _ 3 7 by rw [eS20]; rfl)) t7
  have t8 := Eq.trans (congrArg Int32.toInt (show mv_i S20 3 8 = mv_i _ 3 8 by rw [eS20]; rfl)) t8
  have t9 := Eq.trans (congrArg Int32.toInt (show mv_i S20 3 9 = mv_i _ 3 9 by rw [eS20]; rfl)) t9
  have kp := Eq.trans (show mv_a S20 4 = mv_a _ 4 by rw [eS20]; rfl) kp
  clear eS20
  refine mv_aload_n (pc := 20) B d_Exprs_cell_20 rfl 0 rfl ?_
  refine mv_getR (pc := 21) (ci := 6) (C := R_Exprs) (T := F_Exprs) (N := 11) B 6 rfl rfl (by decide) i_Exprs (B.2.2.2.1 _ k_200) rfl (hR.1 _ 6 _ rfl) d_Exprs_cell_21 ?_
  refine mv_aload_n (pc := 24) B d_Exprs_cell_24 rfl 0 rfl ?_
  refine mv_getI (pc := 25) (ci := 6) (C := R_Exprs) (T := F_Exprs) (N := 11) B 8 rfl rfl (by decide) i_Exprs (B.2.2.2.1 _ k_202) rfl d_Exprs_cell_25 ?_
  refine mv_iald (pc := 28) B rfl (i32_in (by omega) (by omega)) d_Exprs_cell_28 ?_
  rw [p5]
  refine mv_istore_n (pc := 29) B d_Exprs_cell_29 rfl (by decide) rfl ?_
  refine mv_aload_n (pc := 30) B d_Exprs_cell_30 rfl 1 rfl ?_
  refine mv_getR (pc := 31) (ci := 6) (C := R_Exprs) (T := F_Exprs) (N := 11) B 3 rfl rfl (by decide) i_Exprs (B.2.2.2.1 _ k_197) rfl hR.2.2.2 d_Exprs_cell_31 ?_
  refine mv_sipush (pc := 34) (v := 304) B d_Exprs_cell_34 (by decide) ?_
  refine mv_iload_n (pc := 37) B d_Exprs_cell_37 rfl 0 rfl ?_
  refine mv_i2l (pc := 38) B d_Exprs_cell_38 ?_
  refine mv_callVi (pc := 39) (n := 2) (ci := 7) (C := R_Program) B (mK_ok sk sv) hNs rfl rfl (c_Program_emit_a l hi _ _ _ hR.2.1 (by have := hX.2.1.1; omega) (by have := hX.2.1.1; omega)) rfl (ma_goodc kc_Program_emit) (B.2.2.2.1 _ k_1425) (B.2.2.2.1 _ k_1385) (B.2.2.2.1 _ k_1386) (B.2.2.2.1 _ k_8) ⟨by decide +kernel, by decide +kernel, by decide +kernel⟩ rfl d_Exprs_cell_39 rfl (Nat.le_of_ble_eq_true rfl) ⟨by decide, by decide⟩ ⟨by decide, by decide⟩ ⟨by decide, by decide⟩ (mv_noH hno _) (fun v39 σ39 h39 => ?_)
  obtain ⟨e39, -⟩ := h39
  subst e39
  refine mv_gen (fun S42 eS42 => ?_)
  have hR : Rw 32 (mv_r S42) := by rw [eS42]; exact hR
  have hF : RF 32 σ S42 := by rw [eS42]; exact hF.emit _ _
  have hX : XM 32 th e0 bs BL f0 g0 ns S42 (ms) (sm wt ms + 1) (sm wr ms + 1) (s0 + 1) := by rw [eS42]; exact hX.emit0 hP (by omega) (sm wr ms + 1) (by decide) (by decide) (Op1_cell th (by rw [lg_toInt]; exact hw91) (bs + sm wr ms)) (by omega)
  have t7 := Eq.trans (congrArg Int32.toInt (show mv_i S42 3 7 = mv_i _ 3 7 by rw [eS42]; rfl)) t7
  have t8 := Eq.trans (congrArg Int32.toInt (show mv_i S42 3 8 = mv_i _ 3 8 by rw [eS42]; rfl)) t8
  have t9 := Eq.trans (congrArg Int32.toInt (show mv_i S42 3 9 = mv_i _ 3 9 by rw [eS42]; rfl)) t9
  have kp := Eq.trans (show mv_a S42 4 = mv_a _ 4 by rw [eS42]; rfl) kp
  clear eS42
  refine mv_pop (pc := 42) B d_Exprs_cell_42 rfl ?_
  refine mv_aload_n (pc := 43) B d_Exprs_cell_43 rfl 1 rfl ?_
  refine mv_callVi (pc := 44) (n := 0) (ci := 6) (C := R_Exprs) B (mK_ok sk sv) hNs rfl rfl (c_Exprs_release l hi _ hR.1 (by have := hX.1.2.2.1; omega) (by have := hX.1.2.2.1; omega)) rfl (ma_goodc kc_Exprs_release) (B.2.2.2.1 _ k_1469) (B.2.2.2.1 _ k_1470) (B.2.2.2.1 _ k_1471) (B.2.2.2.1 _ k_7) ⟨by decide +kernel, by decide +kernel, by decide +kernel⟩ rfl d_Exprs_cell_44 rfl (Nat.le_of_ble_eq_true rfl) ⟨by decide, by decide⟩ ⟨by decide, by decide⟩ ⟨by decide, by decide⟩ (mv_noH hno _) (fun v44 σ44 h44 => ?_)
  subst h44
  refine mv_gen (fun S47 eS47 => ?_)
  have hR : Rw 32 (mv_r S47) := by rw [eS47]; exact hR
  have hF : RF 32 σ S47 := by rw [eS47]; exact hF.rel
  have hX : XM 32 th e0 bs BL f0 g0 ns S47 (ms) (sm wt ms) (sm wr ms + 1) (s0 + 1) := by rw [eS47]; exact hX.rel hP
  have t7 := Eq.trans (congrArg Int32.toInt (show mv_i S47 3 7 = mv_i _ 3 7 by rw [eS47]; rfl)) t7
  have t8 := Eq.trans (congrArg Int32.toInt (show mv_i S47 3 8 = mv_i _ 3 8 by rw [eS47]; rfl)) t8
  have t9 := Eq.trans (congrArg Int32.toInt (show mv_i S47 3 9 = mv_i _ 3 9 by rw [eS47]; rfl)) t9
  have kp := Eq.trans (show mv_a S47 4 = mv_a _ 4 by rw [eS47]; rfl) kp
  clear eS47
  refine mv_istore_n (pc := 47) B d_Exprs_cell_47 rfl (by decide) rfl ?_
  refine mv_aload_n (pc := 48) B d_Exprs_cell_48 rfl 2 rfl ?_
  refine mv_iload_n (pc := 49) B d_Exprs_cell_49 rfl 0 rfl ?_
  refine mv_if_ne (pc := 50) (tgt := 57) B d_Exprs_cell_50 rfl (fun h50 => ?_) (fun h50 => ?_)
  · skip
    refine mv_aload_n (pc := 57) B d_Exprs_cell_57 rfl 2 rfl ?_
    refine mv_getR (pc := 58) (ci := 6) (C := R_Exprs) (T := F_Exprs) (N := 11) B 3 rfl rfl (by decide) i_Exprs (B.2.2.2.1 _ k_197) rfl hR.2.2.2 d_Exprs_cell_58 ?_
    refine mv_getR (pc := 61) (ci := 7) (C := R_Program) (T := F_Program) (N := 19) B 2 rfl rfl (by decide) i_Program (B.2.2.2.1 _ k_320) rfl (hR.2.1 _ 2 33 rfl) d_Exprs_cell_61 ?_
    refine mv_iload_n (pc := 64) B d_Exprs_cell_64 rfl 1 rfl ?_
    refine mv_iald (pc := 65) B rfl (i32_in hw91.1 (by omega)) d_Exprs_cell_65 ?_
    refine mv_lpick [2] rfl ?_
    exact j66 _ _ hR hF hX (by omega) t8 (by omega) kp (by omega)
  · skip
    refine mv_iconst (pc := 53) (v := 0) B d_Exprs_cell_53 (by decide) ?_
    refine mv_goto (pc := 54) (tgt := 66) B d_Exprs_cell_54 rfl ?_
    refine mv_lpick [2] rfl ?_
    exact j66 _ _ hR hF hX (by omega) t8 (by omega) kp (by omega)
set_option maxHeartbeats 4000000 in
set_option maxRecDepth 100000 in
theorem c_Exprs_cell_b (l : Launch) {dA : FieldType → ClassId} {D : va_G} {al : Nat → Nat} {ext : mv_Sh} {sk sv : Nat → Nat} (hi : mv_inj (mg dA D al ext)) (σ : mv_H) (w8 : Int32) {t len n z sz th sl e0 bs ns : Nat} {BL : (Nat → Nat) → Prop} {f0 : Nat → Int32} {g0 : Nat → Int64} {ms : List Mk} {s0 bd a : Nat} (hB0 : SB 48 σ t len n z sz th sl) (ht2 : t = 1 ∨ t = 144) (hX : XM 48 th e0 bs BL f0 g0 ns σ (((91, w8) : Mk) :: ms) (sm wt (((91, w8) : Mk) :: ms) + 1) (sm wr (((91, w8) : Mk) :: ms) + 1) (s0)) (hI : TI σ sz bd (((91, w8) : Mk) :: ms) s0 a) (hlen : len ≤ 32768) (hbs : bs ≤ 1) (hk3 : mv_a σ 4 (mv_i σ 3 7).toNatClampNeg = 93) : mv_C l y_Exprs_cell (Cond.code y_Exprs_cell b_Exprs_cell 3 (Option.none : Option Jvm.ClassFile.FieldType) :: ma) ({ frames := 3, cells := 0, slots := 0, locals := 63 }) (mg dA D al ext) (mK sk sv) [.ref (al 22)] σ (mv_Rv (fun σ1 => RF 48 σ σ1 ∧ Mt (mv_a σ1 24) ∧ (0 ≤ (mv_i σ1 3 9).toInt ∨ ∃ ms2 s2 a2, a < a2 ∧ XM 48 th e0 bs BL f0 g0 ns σ1 (ms2) (sm wt ms2 + 1) (sm wr ms2 + 1) (s2) ∧ TI σ1 sz bd ms2 s2 a2))) := by
  refine mv_C.ofV (cc := b_Exprs_cell) (nL := 3) (ret := (Option.none : Option Jvm.ClassFile.FieldType)) (by decide +kernel) rfl hi (Nat.le_of_ble_eq_true rfl) ?_
  intro p e s m below meth c B hNs hr hnm hno
  have hP : PQ 48 := by unfold PQ; omega
  have hR := hB0.1
  have hF : RF 48 σ σ := RF0
  have hT : mv_i σ 3 = mv_i σ 3 := rfl
  have hsz := hB0.2.1.2.2.2.2.2
  have hsz2 := hB0.2.1.2.2.2.1
  have hI5 := hI.2.2.2.2.1
  have ha9 := hI.2.2.2.2.2.1
  have pl := hI.len hX
  have hm8 := hX.1.1
  have t7 := hI.1
  have hw9 := hI.2.1
  have t9 : (mv_i σ 3 9).toInt = (mv_i σ 3 9).toInt := rfl
  have hd8 := hI.2.2.1
  have hd9 := hI.2.2.2.1
  have hWm := hI.2.2.2.2.2.2
  have kp : mv_a σ 4 = mv_a σ 4 := rfl
  have t8 : (mv_i σ 3 8).toInt = (mv_i σ 3 8).toInt := rfl
  have g1 : sm wt (((91, w8) : Mk) :: ms) = wt (91, w8) + sm wt ms := rfl
  have g2 : sm wr (((91, w8) : Mk) :: ms) = wr (91, w8) + sm wr ms := rfl
  have g3 : sm wd (((91, w8) : Mk) :: ms) = wd (91, w8) + sm wd ms := rfl
  have g4 : sm wc (((91, w8) : Mk) :: ms) = wc (91, w8) + sm wc ms := rfl
  have gl : ((((91, w8)) : Mk) :: ms).length = ms.length + 1 := rfl
  have g5 : wt (91, w8) = 0 := rfl
  have g6 : wr (91, w8) = 0 := rfl
  have g7 : wd (91, w8) = 1 := rfl
  have g8 : wc (91, w8) = 0 := rfl
  rw [g1, g2, g5, g6, Nat.zero_add, Nat.zero_add] at hX
  have ht64 := hB0.2.2.2.2.1
  have j66 : ∀ (υ : mv_H) (x9 : Int32) (hR : Rw 48 (mv_r υ)) (hF : RF 48 σ υ) (hX : XM 48 th e0 bs BL f0 g0 ns υ (ms) (sm wt ms) (sm wr ms + 1) (s0 + 1)) (t7 : (mv_i υ 3 7).toInt = a + 1) (t8 : (mv_i υ 3 8).toInt = (mv_i σ 3 8).toInt - 1) (t9 : (mv_i υ 3 9).toInt < 0) (kp : mv_a υ 4 = mv_a σ 4) (t6 : a + 1 < sz), mv_V p l e ({ frames := 3, cells := 0, slots := 0, locals := 63 }) s m ([.ref (al 22)] : List Value).toArray below meth c (mg dA D al ext) 3 0 0 (mv_Q (mg dA D al ext) below s 0 0 (mv_Rv (fun σ1 => RF 48 σ σ1 ∧ Mt (mv_a σ1 24) ∧ (0 ≤ (mv_i σ1 3 9).toInt ∨ ∃ ms2 s2 a2, a < a2 ∧ XM 48 th e0 bs BL f0 g0 ns σ1 (ms2) (sm wt ms2 + 1) (sm wr ms2 + 1) (s2) ∧ TI σ1 sz bd ms2 s2 a2)))) υ 66 [(0, .ref (al 22))] [.int x9, .ref (al 22)] := by
    intro υ x9 hR hF hX t7 t8 t9 kp t6
    have hw8 := t9
    have t9 : (mv_i υ 3 9).toInt = (mv_i υ 3 9).toInt := rfl
    refine mv_callVv (pc := 66) (n := 1) (ci := 6) (C := R_Exprs) B (mK_ok sk sv) hNs rfl rfl (c_Exprs_hold l hi _ _ hR.1 (by have := hX.1.2.2.1; omega) (by have := hX.1.2.2.1; omega)) rfl (ma_goodc kc_Exprs_hold) (B.2.2.2.1 _ k_1432) (B.2.2.2.1 _ k_1434) (B.2.2.2.1 _ ks_51) (B.2.2.2.1 _ k_7) ⟨by decide +kernel, by decide +kernel, by decide +kernel⟩ rfl d_Exprs_cell_66 rfl (Nat.le_of_ble_eq_true rfl) ⟨by decide, by decide⟩ ⟨by decide, by decide⟩ ⟨by decide, by decide⟩ (mv_noH hno _) (fun σ66 h66 => ?_)
    subst h66
    refine mv_gen (fun S69 eS69 => ?_)
    have hR : Rw 48 (mv_r S69) := by rw [eS69]; exact hR
    have hF : RF 48 σ S69 := by rw [eS69]; exact hF.hold _
    have hX : XM 48 th e0 bs BL f0 g0 ns S69 (ms) (sm wt ms + 1) (sm wr ms + 1) (s0 + 1) := by rw [eS69]; exact hX.hold hP (by omega) _
    have t7 := Eq.trans (congrArg Int32.toInt (show mv_i S69 3 7 = mv_i _ 3 7 by rw [eS69]; rfl)) t7
    have t8 := Eq.trans (congrArg Int32.toInt (show mv_i S69 3 8 = mv_i _ 3 8 by rw [eS69]; rfl)) t8
    have t9 := Eq.trans (congrArg Int32.toInt (show mv_i S69 3 9 = mv_i _ 3 9 by rw [eS69]; rfl)) t9
    have kp := Eq.trans (show mv_a S69 4 = mv_a _ 4 by rw [eS69]; rfl) kp
    have hend : 0 ≤ (mv_i S69 3 9).toInt ∨ ∃ ms2 s2 a2, a < a2 ∧ XM 48 th e0 bs BL f0 g0 ns S69 (ms2) (sm wt ms2 + 1) (sm wr ms2 + 1) (s2) ∧ TI S69 sz bd ms2 s2 a2 := Or.inr ⟨ms, s0 + 1, a + 1, by omega, hX, by omega, by omega, by omega, by omega, by omega, by omega, hWm.tail.up (by omega)⟩
    clear eS69
    exact mv_vret (pc := 69) B hr d_Exprs_cell_69 (Nat.le_refl _) (Nat.le_refl _) ⟨rfl, hF, hX.1.2.2.2.1, hend⟩
  refine mv_aload_n (pc := 0) B d_Exprs_cell_0 rfl 0 rfl ?_
  refine mv_getR (pc := 1) (ci := 6) (C := R_Exprs) (T := F_Exprs) (N := 11) B 0 rfl rfl (by decide) i_Exprs (B.2.2.2.1 _ k_193) rfl (hR.1 _ 0 _ rfl) d_Exprs_cell_1 ?_
  refine mv_bipush (pc := 4) (v := 93) B d_Exprs_cell_4 (by decide) ?_
  refine mv_callVi (pc := 6) (n := 1) (ci := 2) (C := R_Tokens) B (mK_ok sk sv) hNs rfl rfl (c_Tokens_closeN l hi _ _ hR.1 (hB0.rf hF hP ht2).2.1 (by omega) (by omega) (by decide)) rfl (ma_goodc kc_Tokens_close) (B.2.2.2.1 _ k_1468) (B.2.2.2.1 _ k_1397) (B.2.2.2.1 _ k_1398) (B.2.2.2.1 _ k_3) ⟨by decide +kernel, by decide +kernel, by decide +kernel⟩ rfl d_Exprs_cell_6 rfl (Nat.le_of_ble_eq_true rfl) ⟨by decide, by decide⟩ ⟨by decide, by decide⟩ ⟨by decide, by decide⟩ (mv_noH hno _) (fun v6 σ6 h6 => ?_)
  obtain ⟨a6, w6, e6, r6⟩ := h6
  have q6 := r6.1
  have z6 := fun q => (r6.2.1 q).1
  have y6 := And.intro r6.2.2.2.1 r6.2.2.2.2.1
  subst e6
  have hw6 := r6.2.2.1 hw9 hk3 trivial
  refine mv_gen (fun S9 eS9 => ?_)
  have hR : Rw 48 (mv_r S9) := by rw [eS9]; exact hR
  have hF : RF 48 σ S9 := by rw [eS9]; exact hF.tk3 _ _ _
  have hX : XM 48 th e0 bs BL f0 g0 ns S9 (((91, w8) : Mk) :: ms) (sm wt ms + 1) (sm wr ms + 1) (s0) := by rw [eS9]; exact hX.tk3 hP _ _ _
  have t7 : (mv_i S9 3 7).toInt = a6.toInt := by rw [eS9]; rfl
  have t8 : (mv_i S9 3 8).toInt = (mv_i σ 3 8).toInt - 1 := by rw [eS9]; first | exact t8 | exact (sub_one (by omega)).trans (by omega) | exact (i32_inc (by omega)).trans (by omega)
  have t9 : (mv_i S9 3 9).toInt = w6.toInt := by rw [eS9]; rfl
  have kS9 : mv_a S9 4 = mv_a σ 4 := by rw [eS9]; first | rfl | exact kp
  have kp := kS9
  obtain ⟨p1, p2, p3, p4⟩ := hX.top
  have hw91 : 0 ≤ w8.toInt ∧ w8.toInt < th := hX.1.2.2.2.2.2.head.2 rfl
  clear eS9
  refine mv_pop (pc := 9) B d_Exprs_cell_9 rfl ?_
  refine mv_aload_n (pc := 10) B d_Exprs_cell_10 rfl 0 rfl ?_
  refine mv_dup (pc := 11) B d_Exprs_cell_11 rfl ?_
  refine mv_getI (pc := 12) (ci := 6) (C := R_Exprs) (T := F_Exprs) (N := 11) B 8 rfl rfl (by decide) i_Exprs (B.2.2.2.1 _ k_202) rfl d_Exprs_cell_12 ?_
  refine mv_iconst (pc := 15) (v := 1) B d_Exprs_cell_15 (by decide) ?_
  refine mv_isub (pc := 16) B d_Exprs_cell_16 ?_
  refine mv_putI (pc := 17) (ci := 6) (C := R_Exprs) (T := F_Exprs) (N := 11) B 8 rfl rfl (by decide) i_Exprs t_Exprs_ok n_Exprs (B.2.2.2.1 _ k_202) rfl rfl rfl rfl d_Exprs_cell_17 ?_
  refine mv_gen (fun S20 eS20 => ?_)
  have p5 : mv_a S20 25 (mv_i S20 22 8).toNatClampNeg = w8 := by rw [eS20]; exact p4
  have p6 : (mv_i S20 22 8).toInt = ms.length := by rw [eS20]; exact p1
  have hR : Rw 48 (mv_r S20) := by rw [eS20]; exact hR
  have hF : RF 48 σ S20 := by rw [eS20]; exact hF.pop
  have hX : XM 48 th e0 bs BL f0 g0 ns S20 (ms) (sm wt ms + 1) (sm wr ms + 1) (s0) := by rw [eS20]; exact hX.pop hP ⟨show ¬ (91 : Int32) = 63 by decide, show ¬ (91 : Int32) = 58 by decide⟩
  have t7 := Eq.trans (congrArg Int32.toInt (show mv_i S20 3 7 = mv_i _ 3 7 by rw [eS20]; rfl)) t7
  have t8 := Eq.trans (congrArg Int32.toInt (show mv_i S20 3 8 = mv_i _ 3 8 by rw [eS20]; rfl)) t8
  have t9 := Eq.trans (congrArg Int32.toInt (show mv_i S20 3 9 = mv_i _ 3 9 by rw [eS20]; rfl)) t9
  have kp := Eq.trans (show mv_a S20 4 = mv_a _ 4 by rw [eS20]; rfl) kp
  clear eS20
  refine mv_aload_n (pc := 20) B d_Exprs_cell_20 rfl 0 rfl ?_
  refine mv_getR (pc := 21) (ci := 6) (C := R_Exprs) (T := F_Exprs) (N := 11) B 6 rfl rfl (by decide) i_Exprs (B.2.2.2.1 _ k_200) rfl (hR.1 _ 6 _ rfl) d_Exprs_cell_21 ?_
  refine mv_aload_n (pc := 24) B d_Exprs_cell_24 rfl 0 rfl ?_
  refine mv_getI (pc := 25) (ci := 6) (C := R_Exprs) (T := F_Exprs) (N := 11) B 8 rfl rfl (by decide) i_Exprs (B.2.2.2.1 _ k_202) rfl d_Exprs_cell_25 ?_
  refine mv_iald (pc := 28) B rfl (i32_in (by omega) (by omega)) d_Exprs_cell_28 ?_
  rw [p5]
  refine mv_istore_n (pc := 29) B d_Exprs_cell_29 rfl (by decide) rfl ?_
  refine mv_aload_n (pc := 30) B d_Exprs_cell_30 rfl 1 rfl ?_
  refine mv_getR (pc := 31) (ci := 6) (C := R_Exprs) (T := F_Exprs) (N := 11) B 3 rfl rfl (by decide) i_Exprs (B.2.2.2.1 _ k_197) rfl hR.2.2.2 d_Exprs_cell_31 ?_
  refine mv_sipush (pc := 34) (v := 304) B d_Exprs_cell_34 (by decide) ?_
  refine mv_iload_n (pc := 37) B d_Exprs_cell_37 rfl 0 rfl ?_
  refine mv_i2l (pc := 38) B d_Exprs_cell_38 ?_
  refine mv_callVi (pc := 39) (n := 2) (ci := 7) (C := R_Program) B (mK_ok sk sv) hNs rfl rfl (c_Program_emit_b l hi _ _ _ hR.2.1 (by have := hX.2.1.1; omega) (by have := hX.2.1.1; omega)) rfl (ma_goodc kc_Program_emit) (B.2.2.2.1 _ k_1425) (B.2.2.2.1 _ k_1385) (B.2.2.2.1 _ k_1386) (B.2.2.2.1 _ k_8) ⟨by decide +kernel, by decide +kernel, by decide +kernel⟩ rfl d_Exprs_cell_39 rfl (Nat.le_of_ble_eq_true rfl) ⟨by decide, by decide⟩ ⟨by decide, by decide⟩ ⟨by decide, by decide⟩ (mv_noH hno _) (fun v39 σ39 h39 => ?_)
  obtain ⟨e39, -⟩ := h39
  subst e39
  refine mv_gen (fun S42 eS42 => ?_)
  have hR : Rw 48 (mv_r S42) := by rw [eS42]; exact hR
  have hF : RF 48 σ S42 := by rw [eS42]; exact hF.emit _ _
  have hX : XM 48 th e0 bs BL f0 g0 ns S42 (ms) (sm wt ms + 1) (sm wr ms + 1) (s0 + 1) := by rw [eS42]; exact hX.emit0 hP (by omega) (sm wr ms + 1) (by decide) (by decide) (Op1_cell th (by rw [lg_toInt]; exact hw91) (bs + sm wr ms)) (by omega)
  have t7 := Eq.trans (congrArg Int32.toInt (show mv_i S42 3 7 = mv_i _ 3 7 by rw [eS42]; rfl)) t7
  have t8 := Eq.trans (congrArg Int32.toInt (show mv_i S42 3 8 = mv_i _ 3 8 by rw [eS42]; rfl)) t8
  have t9 := Eq.trans (congrArg Int32.toInt (show mv_i S42 3 9 = mv_i _ 3 9 by rw [eS42]; rfl)) t9
  have kp := Eq.trans (show mv_a S42 4 = mv_a _ 4 by rw [eS42]; rfl) kp
  clear eS42
  refine mv_pop (pc := 42) B d_Exprs_cell_42 rfl ?_
  refine mv_aload_n (pc := 43) B d_Exprs_cell_43 rfl 1 rfl ?_
  refine mv_callVi (pc := 44) (n := 0) (ci := 6) (C := R_Exprs) B (mK_ok sk sv) hNs rfl rfl (c_Exprs_release l hi _ hR.1 (by have := hX.1.2.2.1; omega) (by have := hX.1.2.2.1; omega)) rfl (ma_goodc kc_Exprs_release) (B.2.2.2.1 _ k_1469) (B.2.2.2.1 _ k_1470) (B.2.2.2.1 _ k_1471) (B.2.2.2.1 _ k_7) ⟨by decide +kernel, by decide +kernel, by decide +kernel⟩ rfl d_Exprs_cell_44 rfl (Nat.le_of_ble_eq_true rfl) ⟨by decide, by decide⟩ ⟨by decide, by decide⟩ ⟨by decide, by decide⟩ (mv_noH hno _) (fun v44 σ44 h44 => ?_)
  subst h44
  refine mv_gen (fun S47 eS47 => ?_)
  have hR : Rw 48 (mv_r S47) := by rw [eS47]; exact hR
  have hF : RF 48 σ S47 := by rw [eS47]; exact hF.rel
  have hX : XM 48 th e0 bs BL f0 g0 ns S47 (ms) (sm wt ms) (sm wr ms + 1) (s0 + 1) := by rw [eS47]; exact hX.rel hP
  have t7 := Eq.trans (congrArg Int32.toInt (show mv_i S47 3 7 = mv_i _ 3 7 by rw [eS47]; rfl)) t7
  have t8 := Eq.trans (congrArg Int32.toInt (show mv_i S47 3 8 = mv_i _ 3 8 by rw [eS47]; rfl)) t8
  have t9 := Eq.trans (congrArg Int32.toInt (show mv_i S47 3 9 = mv_i _ 3 9 by rw [eS47]; rfl)) t9
  have kp := Eq.trans (show mv_a S47 4 = mv_a _ 4 by rw [eS47]; rfl) kp
  clear eS47
  refine mv_istore_n (pc := 47) B d_Exprs_cell_47 rfl (by decide) rfl ?_
  refine mv_aload_n (pc := 48) B d_Exprs_cell_48 rfl 2 rfl ?_
  refine mv_iload_n (pc := 49) B d_Exprs_cell_49 rfl 0 rfl ?_
  refine mv_if_ne (pc := 50) (tgt := 57) B d_Exprs_cell_50 rfl (fun h50 => ?_) (fun h50 => ?_)
  · skip
    refine mv_aload_n (pc := 57) B d_Exprs_cell_57 rfl 2 rfl ?_
    refine mv_getR (pc := 58) (ci := 6) (C := R_Exprs) (T := F_Exprs) (N := 11) B 3 rfl rfl (by decide) i_Exprs (B.2.2.2.1 _ k_197) rfl hR.2.2.2 d_Exprs_cell_58 ?_
    refine mv_getR (pc := 61) (ci := 7) (C := R_Program) (T := F_Program) (N := 19) B 2 rfl rfl (by decide) i_Program (B.2.2.2.1 _ k_320) rfl (hR.2.1 _ 2 49 rfl) d_Exprs_cell_61 ?_
    refine mv_iload_n (pc := 64) B d_Exprs_cell_64 rfl 1 rfl ?_
    refine mv_iald (pc := 65) B rfl (i32_in hw91.1 (by omega)) d_Exprs_cell_65 ?_
    refine mv_lpick [2] rfl ?_
    exact j66 _ _ hR hF hX (by omega) t8 (by omega) kp (by omega)
  · skip
    refine mv_iconst (pc := 53) (v := 0) B d_Exprs_cell_53 (by decide) ?_
    refine mv_goto (pc := 54) (tgt := 66) B d_Exprs_cell_54 rfl ?_
    refine mv_lpick [2] rfl ?_
    exact j66 _ _ hR hF hX (by omega) t8 (by omega) kp (by omega)
set_option maxHeartbeats 4000000 in
set_option maxRecDepth 100000 in
theorem c_Exprs_cell_c (l : Launch) {dA : FieldType → ClassId} {D : va_G} {al : Nat → Nat} {sk sv : Nat → Nat} (hi : mv_inj (mg dA D al me)) (σ : mv_H) (w8 : Int32) {t len n z sz th sl e0 bs ns : Nat} {BL : (Nat → Nat) → Prop} {f0 : Nat → Int32} {g0 : Nat → Int64} {ms : List Mk} {s0 bd a : Nat} (hB0 : SB 145 σ t len n z sz th sl) (ht2 : t = 1 ∨ t = 144) (hX : XM 145 th e0 bs BL f0 g0 ns σ (((91, w8) : Mk) :: ms) (sm wt (((91, w8) : Mk) :: ms) + 1) (sm wr (((91, w8) : Mk) :: ms) + 1) (s0)) (hI : TI σ sz bd (((91, w8) : Mk) :: ms) s0 a) (hlen : len ≤ 8192) (hbs : bs ≤ 1) (hk3 : mv_a σ 4 (mv_i σ 3 7).toNatClampNeg = 93) : mv_C l y_Exprs_cell (Cond.code y_Exprs_cell b_Exprs_cell 3 (Option.none : Option Jvm.ClassFile.FieldType) :: ma) ({ frames := 3, cells := 0, slots := 0, locals := 63 }) (mg dA D al me) (mK sk sv) [.ref (al 22)] σ (mv_Rv (fun σ1 => RF 145 σ σ1 ∧ Mt (mv_a σ1 24) ∧ (0 ≤ (mv_i σ1 3 9).toInt ∨ ∃ ms2 s2 a2, a < a2 ∧ XM 145 th e0 bs BL f0 g0 ns σ1 (ms2) (sm wt ms2 + 1) (sm wr ms2 + 1) (s2) ∧ TI σ1 sz bd ms2 s2 a2))) := by
  refine mv_C.ofV (cc := b_Exprs_cell) (nL := 3) (ret := (Option.none : Option Jvm.ClassFile.FieldType)) (by decide +kernel) rfl hi (Nat.le_of_ble_eq_true rfl) ?_
  intro p e s m below meth c B hNs hr hnm hno
  have hP : PQ 145 := by unfold PQ; omega
  have hR := hB0.1
  have hF : RF 145 σ σ := RF0
  have hT : mv_i σ 3 = mv_i σ 3 := rfl
  have hsz := hB0.2.1.2.2.2.2.2
  have hsz2 := hB0.2.1.2.2.2.1
  have hI5 := hI.2.2.2.2.1
  have ha9 := hI.2.2.2.2.2.1
  have pl := hI.len hX
  have hm8 := hX.1.1
  have t7 := hI.1
  have hw9 := hI.2.1
  have t9 : (mv_i σ 3 9).toInt = (mv_i σ 3 9).toInt := rfl
  have hd8 := hI.2.2.1
  have hd9 := hI.2.2.2.1
  have hWm := hI.2.2.2.2.2.2
  have kp : mv_a σ 4 = mv_a σ 4 := rfl
  have t8 : (mv_i σ 3 8).toInt = (mv_i σ 3 8).toInt := rfl
  have g1 : sm wt (((91, w8) : Mk) :: ms) = wt (91, w8) + sm wt ms := rfl
  have g2 : sm wr (((91, w8) : Mk) :: ms) = wr (91, w8) + sm wr ms := rfl
  have g3 : sm wd (((91, w8) : Mk) :: ms) = wd (91, w8) + sm wd ms := rfl
  have g4 : sm wc (((91, w8) : Mk) :: ms) = wc (91, w8) + sm wc ms := rfl
  have gl : ((((91, w8)) : Mk) :: ms).length = ms.length + 1 := rfl
  have g5 : wt (91, w8) = 0 := rfl
  have g6 : wr (91, w8) = 0 := rfl
  have g7 : wd (91, w8) = 1 := rfl
  have g8 : wc (91, w8) = 0 := rfl
  rw [g1, g2, g5, g6, Nat.zero_add, Nat.zero_add] at hX
  have ht64 := hB0.2.2.2.2.1
  have j66 : ∀ (υ : mv_H) (x9 : Int32) (hR : Rw 145 (mv_r υ)) (hF : RF 145 σ υ) (hX : XM 145 th e0 bs BL f0 g0 ns υ (ms) (sm wt ms) (sm wr ms + 1) (s0 + 1)) (t7 : (mv_i υ 3 7).toInt = a + 1) (t8 : (mv_i υ 3 8).toInt = (mv_i σ 3 8).toInt - 1) (t9 : (mv_i υ 3 9).toInt < 0) (kp : mv_a υ 4 = mv_a σ 4) (t6 : a + 1 < sz), mv_V p l e ({ frames := 3, cells := 0, slots := 0, locals := 63 }) s m ([.ref (al 22)] : List Value).toArray below meth c (mg dA D al me) 3 0 0 (mv_Q (mg dA D al me) below s 0 0 (mv_Rv (fun σ1 => RF 145 σ σ1 ∧ Mt (mv_a σ1 24) ∧ (0 ≤ (mv_i σ1 3 9).toInt ∨ ∃ ms2 s2 a2, a < a2 ∧ XM 145 th e0 bs BL f0 g0 ns σ1 (ms2) (sm wt ms2 + 1) (sm wr ms2 + 1) (s2) ∧ TI σ1 sz bd ms2 s2 a2)))) υ 66 [(0, .ref (al 22))] [.int x9, .ref (al 22)] := by
    intro υ x9 hR hF hX t7 t8 t9 kp t6
    have hw8 := t9
    have t9 : (mv_i υ 3 9).toInt = (mv_i υ 3 9).toInt := rfl
    refine mv_callVv (pc := 66) (n := 1) (ci := 6) (C := R_Exprs) B (mK_ok sk sv) hNs rfl rfl (c_Exprs_hold l hi _ _ hR.1 (by have := hX.1.2.2.1; omega) (by have := hX.1.2.2.1; omega)) rfl (ma_goodc kc_Exprs_hold) (B.2.2.2.1 _ k_1432) (B.2.2.2.1 _ k_1434) (B.2.2.2.1 _ ks_51) (B.2.2.2.1 _ k_7) ⟨by decide +kernel, by decide +kernel, by decide +kernel⟩ rfl d_Exprs_cell_66 rfl (Nat.le_of_ble_eq_true rfl) ⟨by decide, by decide⟩ ⟨by decide, by decide⟩ ⟨by decide, by decide⟩ (mv_noH hno _) (fun σ66 h66 => ?_)
    subst h66
    refine mv_gen (fun S69 eS69 => ?_)
    have hR : Rw 145 (mv_r S69) := by rw [eS69]; exact hR
    have hF : RF 145 σ S69 := by rw [eS69]; exact hF.hold _
    have hX : XM 145 th e0 bs BL f0 g0 ns S69 (ms) (sm wt ms + 1) (sm wr ms + 1) (s0 + 1) := by rw [eS69]; exact hX.hold hP (by omega) _
    have t7 := Eq.trans (congrArg Int32.toInt (show mv_i S69 3 7 = mv_i _ 3 7 by rw [eS69]; rfl)) t7
    have t8 := Eq.trans (congrArg Int32.toInt (show mv_i S69 3 8 = mv_i _ 3 8 by rw [eS69]; rfl)) t8
    have t9 := Eq.trans (congrArg Int32.toInt (show mv_i S69 3 9 = mv_i _ 3 9 by rw [eS69]; rfl)) t9
    have kp := Eq.trans (show mv_a S69 4 = mv_a _ 4 by rw [eS69]; rfl) kp
    have hend : 0 ≤ (mv_i S69 3 9).toInt ∨ ∃ ms2 s2 a2, a < a2 ∧ XM 145 th e0 bs BL f0 g0 ns S69 (ms2) (sm wt ms2 + 1) (sm wr ms2 + 1) (s2) ∧ TI S69 sz bd ms2 s2 a2 := Or.inr ⟨ms, s0 + 1, a + 1, by omega, hX, by omega, by omega, by omega, by omega, by omega, by omega, hWm.tail.up (by omega)⟩
    clear eS69
    exact mv_vret (pc := 69) B hr d_Exprs_cell_69 (Nat.le_refl _) (Nat.le_refl _) ⟨rfl, hF, hX.1.2.2.2.1, hend⟩
  refine mv_aload_n (pc := 0) B d_Exprs_cell_0 rfl 0 rfl ?_
  refine mv_getR (pc := 1) (ci := 6) (C := R_Exprs) (T := F_Exprs) (N := 11) B 0 rfl rfl (by decide) i_Exprs (B.2.2.2.1 _ k_193) rfl (hR.1 _ 0 _ rfl) d_Exprs_cell_1 ?_
  refine mv_bipush (pc := 4) (v := 93) B d_Exprs_cell_4 (by decide) ?_
  refine mv_callVi (pc := 6) (n := 1) (ci := 2) (C := R_Tokens) B (mK_ok sk sv) hNs rfl rfl (c_Tokens_closeN l hi _ _ hR.1 (hB0.rf hF hP ht2).2.1 (by omega) (by omega) (by decide)) rfl (ma_goodc kc_Tokens_close) (B.2.2.2.1 _ k_1468) (B.2.2.2.1 _ k_1397) (B.2.2.2.1 _ k_1398) (B.2.2.2.1 _ k_3) ⟨by decide +kernel, by decide +kernel, by decide +kernel⟩ rfl d_Exprs_cell_6 rfl (Nat.le_of_ble_eq_true rfl) ⟨by decide, by decide⟩ ⟨by decide, by decide⟩ ⟨by decide, by decide⟩ (mv_noH hno _) (fun v6 σ6 h6 => ?_)
  obtain ⟨a6, w6, e6, r6⟩ := h6
  have q6 := r6.1
  have z6 := fun q => (r6.2.1 q).1
  have y6 := And.intro r6.2.2.2.1 r6.2.2.2.2.1
  subst e6
  have hw6 := r6.2.2.1 hw9 hk3 trivial
  refine mv_gen (fun S9 eS9 => ?_)
  have hR : Rw 145 (mv_r S9) := by rw [eS9]; exact hR
  have hF : RF 145 σ S9 := by rw [eS9]; exact hF.tk3 _ _ _
  have hX : XM 145 th e0 bs BL f0 g0 ns S9 (((91, w8) : Mk) :: ms) (sm wt ms + 1) (sm wr ms + 1) (s0) := by rw [eS9]; exact hX.tk3 hP _ _ _
  have t7 : (mv_i S9 3 7).toInt = a6.toInt := by rw [eS9]; rfl
  have t8 : (mv_i S9 3 8).toInt = (mv_i σ 3 8).toInt - 1 := by rw [eS9]; first | exact t8 | exact (sub_one (by omega)).trans (by omega) | exact (i32_inc (by omega)).trans (by omega)
  have t9 : (mv_i S9 3 9).toInt = w6.toInt := by rw [eS9]; rfl
  have kS9 : mv_a S9 4 = mv_a σ 4 := by rw [eS9]; first | rfl | exact kp
  have kp := kS9
  obtain ⟨p1, p2, p3, p4⟩ := hX.top
  have hw91 : 0 ≤ w8.toInt ∧ w8.toInt < th := hX.1.2.2.2.2.2.head.2 rfl
  clear eS9
  refine mv_pop (pc := 9) B d_Exprs_cell_9 rfl ?_
  refine mv_aload_n (pc := 10) B d_Exprs_cell_10 rfl 0 rfl ?_
  refine mv_dup (pc := 11) B d_Exprs_cell_11 rfl ?_
  refine mv_getI (pc := 12) (ci := 6) (C := R_Exprs) (T := F_Exprs) (N := 11) B 8 rfl rfl (by decide) i_Exprs (B.2.2.2.1 _ k_202) rfl d_Exprs_cell_12 ?_
  refine mv_iconst (pc := 15) (v := 1) B d_Exprs_cell_15 (by decide) ?_
  refine mv_isub (pc := 16) B d_Exprs_cell_16 ?_
  refine mv_putI (pc := 17) (ci := 6) (C := R_Exprs) (T := F_Exprs) (N := 11) B 8 rfl rfl (by decide) i_Exprs t_Exprs_ok n_Exprs (B.2.2.2.1 _ k_202) rfl rfl rfl rfl d_Exprs_cell_17 ?_
  refine mv_gen (fun S20 eS20 => ?_)
  have p5 : mv_a S20 25 (mv_i S20 22 8).toNatClampNeg = w8 := by rw [eS20]; exact p4
  have p6 : (mv_i S20 22 8).toInt = ms.length := by rw [eS20]; exact p1
  have hR : Rw 145 (mv_r S20) := by rw [eS20]; exact hR
  have hF : RF 145 σ S20 := by rw [eS20]; exact hF.pop
  have hX : XM 145 th e0 bs BL f0 g0 ns S20 (ms) (sm wt ms + 1) (sm wr ms + 1) (s0) := by rw [eS20]; exact hX.pop hP ⟨show ¬ (91 : Int32) = 63 by decide, show ¬ (91 : Int32) = 58 by decide⟩
  have t7 := Eq.trans (congrArg Int32.toInt (show mv_i S20 3 7 = mv_i _ 3 7 by rw [eS20]; rfl)) t7
  have t8 := Eq.trans (congrArg Int32.toInt (show mv_i S20 3 8 = mv_i _ 3 8 by rw [eS20]; rfl)) t8
  have t9 := Eq.trans (congrArg Int32.toInt (show mv_i S20 3 9 = mv_i _ 3 9 by rw [eS20]; rfl)) t9
  have kp := Eq.trans (show mv_a S20 4 = mv_a _ 4 by rw [eS20]; rfl) kp
  clear eS20
  refine mv_aload_n (pc := 20) B d_Exprs_cell_20 rfl 0 rfl ?_
  refine mv_getR (pc := 21) (ci := 6) (C := R_Exprs) (T := F_Exprs) (N := 11) B 6 rfl rfl (by decide) i_Exprs (B.2.2.2.1 _ k_200) rfl (hR.1 _ 6 _ rfl) d_Exprs_cell_21 ?_
  refine mv_aload_n (pc := 24) B d_Exprs_cell_24 rfl 0 rfl ?_
  refine mv_getI (pc := 25) (ci := 6) (C := R_Exprs) (T := F_Exprs) (N := 11) B 8 rfl rfl (by decide) i_Exprs (B.2.2.2.1 _ k_202) rfl d_Exprs_cell_25 ?_
  refine mv_iald (pc := 28) B rfl (i32_in (by omega) (by omega)) d_Exprs_cell_28 ?_
  rw [p5]
  refine mv_istore_n (pc := 29) B d_Exprs_cell_29 rfl (by decide) rfl ?_
  refine mv_aload_n (pc := 30) B d_Exprs_cell_30 rfl 1 rfl ?_
  refine mv_getR (pc := 31) (ci := 6) (C := R_Exprs) (T := F_Exprs) (N := 11) B 3 rfl rfl (by decide) i_Exprs (B.2.2.2.1 _ k_197) rfl hR.2.2.2 d_Exprs_cell_31 ?_
  refine mv_sipush (pc := 34) (v := 304) B d_Exprs_cell_34 (by decide) ?_
  refine mv_iload_n (pc := 37) B d_Exprs_cell_37 rfl 0 rfl ?_
  refine mv_i2l (pc := 38) B d_Exprs_cell_38 ?_
  refine mv_callVi (pc := 39) (n := 2) (ci := 7) (C := R_Program) B (mK_ok sk sv) hNs rfl rfl (c_Program_emit_c l hi _ _ _ hR.2.1 (by have := hX.2.1.1; omega) (by have := hX.2.1.1; omega)) rfl (ma_goodc kc_Program_emit) (B.2.2.2.1 _ k_1425) (B.2.2.2.1 _ k_1385) (B.2.2.2.1 _ k_1386) (B.2.2.2.1 _ k_8) ⟨by decide +kernel, by decide +kernel, by decide +kernel⟩ rfl d_Exprs_cell_39 rfl (Nat.le_of_ble_eq_true rfl) ⟨by decide, by decide⟩ ⟨by decide, by decide⟩ ⟨by decide, by decide⟩ (mv_noH hno _) (fun v39 σ39 h39 => ?_)
  obtain ⟨e39, -⟩ := h39
  subst e39
  refine mv_gen (fun S42 eS42 => ?_)
  have hR : Rw 145 (mv_r S42) := by rw [eS42]; exact hR
  have hF : RF 145 σ S42 := by rw [eS42]; exact hF.emit _ _
  have hX : XM 145 th e0 bs BL f0 g0 ns S42 (ms) (sm wt ms + 1) (sm wr ms + 1) (s0 + 1) := by rw [eS42]; exact hX.emit0 hP (by omega) (sm wr ms + 1) (by decide) (by decide) (Op1_cell th (by rw [lg_toInt]; exact hw91) (bs + sm wr ms)) (by omega)
  have t7 := Eq.trans (congrArg Int32.toInt (show mv_i S42 3 7 = mv_i _ 3 7 by rw [eS42]; rfl)) t7
  have t8 := Eq.trans (congrArg Int32.toInt (show mv_i S42 3 8 = mv_i _ 3 8 by rw [eS42]; rfl)) t8
  have t9 := Eq.trans (congrArg Int32.toInt (show mv_i S42 3 9 = mv_i _ 3 9 by rw [eS42]; rfl)) t9
  have kp := Eq.trans (show mv_a S42 4 = mv_a _ 4 by rw [eS42]; rfl) kp
  clear eS42
  refine mv_pop (pc := 42) B d_Exprs_cell_42 rfl ?_
  refine mv_aload_n (pc := 43) B d_Exprs_cell_43 rfl 1 rfl ?_
  refine mv_callVi (pc := 44) (n := 0) (ci := 6) (C := R_Exprs) B (mK_ok sk sv) hNs rfl rfl (c_Exprs_release l hi _ hR.1 (by have := hX.1.2.2.1; omega) (by have := hX.1.2.2.1; omega)) rfl (ma_goodc kc_Exprs_release) (B.2.2.2.1 _ k_1469) (B.2.2.2.1 _ k_1470) (B.2.2.2.1 _ k_1471) (B.2.2.2.1 _ k_7) ⟨by decide +kernel, by decide +kernel, by decide +kernel⟩ rfl d_Exprs_cell_44 rfl (Nat.le_of_ble_eq_true rfl) ⟨by decide, by decide⟩ ⟨by decide, by decide⟩ ⟨by decide, by decide⟩ (mv_noH hno _) (fun v44 σ44 h44 => ?_)
  subst h44
  refine mv_gen (fun S47 eS47 => ?_)
  have hR : Rw 145 (mv_r S47) := by rw [eS47]; exact hR
  have hF : RF 145 σ S47 := by rw [eS47]; exact hF.rel
  have hX : XM 145 th e0 bs BL f0 g0 ns S47 (ms) (sm wt ms) (sm wr ms + 1) (s0 + 1) := by rw [eS47]; exact hX.rel hP
  have t7 := Eq.trans (congrArg Int32.toInt (show mv_i S47 3 7 = mv_i _ 3 7 by rw [eS47]; rfl)) t7
  have t8 := Eq.trans (congrArg Int32.toInt (show mv_i S47 3 8 = mv_i _ 3 8 by rw [eS47]; rfl)) t8
  have t9 := Eq.trans (congrArg Int32.toInt (show mv_i S47 3 9 = mv_i _ 3 9 by rw [eS47]; rfl)) t9
  have kp := Eq.trans (show mv_a S47 4 = mv_a _ 4 by rw [eS47]; rfl) kp
  clear eS47
  refine mv_istore_n (pc := 47) B d_Exprs_cell_47 rfl (by decide) rfl ?_
  refine mv_aload_n (pc := 48) B d_Exprs_cell_48 rfl 2 rfl ?_
  refine mv_iload_n (pc := 49) B d_Exprs_cell_49 rfl 0 rfl ?_
  refine mv_if_ne (pc := 50) (tgt := 57) B d_Exprs_cell_50 rfl (fun h50 => ?_) (fun h50 => ?_)
  · skip
    refine mv_aload_n (pc := 57) B d_Exprs_cell_57 rfl 2 rfl ?_
    refine mv_getR (pc := 58) (ci := 6) (C := R_Exprs) (T := F_Exprs) (N := 11) B 3 rfl rfl (by decide) i_Exprs (B.2.2.2.1 _ k_197) rfl hR.2.2.2 d_Exprs_cell_58 ?_
    refine mv_getR (pc := 61) (ci := 7) (C := R_Program) (T := F_Program) (N := 19) B 2 rfl rfl (by decide) i_Program (B.2.2.2.1 _ k_320) rfl (hR.2.1 _ 2 146 rfl) d_Exprs_cell_61 ?_
    refine mv_iload_n (pc := 64) B d_Exprs_cell_64 rfl 1 rfl ?_
    refine mv_iald (pc := 65) B rfl (i32_in hw91.1 (by omega)) d_Exprs_cell_65 ?_
    refine mv_lpick [2] rfl ?_
    exact j66 _ _ hR hF hX (by omega) t8 (by omega) kp (by omega)
  · skip
    refine mv_iconst (pc := 53) (v := 0) B d_Exprs_cell_53 (by decide) ?_
    refine mv_goto (pc := 54) (tgt := 66) B d_Exprs_cell_54 rfl ?_
    refine mv_lpick [2] rfl ?_
    exact j66 _ _ hR hF hX (by omega) t8 (by omega) kp (by omega)
def y_Exprs_widen : MethodName := ⟨"MachineLoom$Exprs", "widen", "(I)V"⟩
abbrev b_Exprs_widen : ByteArray := prog_3_method_23_code
theorem kc_Exprs_widen : Cond.code y_Exprs_widen b_Exprs_widen 7 (Option.none : Option Jvm.ClassFile.FieldType) ∈ ma := ma_of (tb_7 _ (List.mem_of_getElem? (i := 81) rfl)) rfl
theorem d_Exprs_widen_0 : decode b_Exprs_widen 0 = .ok (.aload_n 0, 1) := by decide +kernel
theorem d_Exprs_widen_1 : decode b_Exprs_widen 1 = .ok (.getfield 27, 3) := by decide +kernel
theorem d_Exprs_widen_4 : decode b_Exprs_widen 4 = .ok (.bipush 44, 2) := by decide +kernel
theorem d_Exprs_widen_6 : decode b_Exprs_widen 6 = .ok (.invokevirtual 82, 3) := by decide +kernel
theorem d_Exprs_widen_9 : decode b_Exprs_widen 9 = .ok (.pop, 1) := by decide +kernel
theorem d_Exprs_widen_10 : decode b_Exprs_widen 10 = .ok (.aload_n 0, 1) := by decide +kernel
theorem d_Exprs_widen_11 : decode b_Exprs_widen 11 = .ok (.getfield 27, 3) := by decide +kernel
theorem d_Exprs_widen_14 : decode b_Exprs_widen 14 = .ok (.iconst 4, 1) := by decide +kernel
theorem d_Exprs_widen_15 : decode b_Exprs_widen 15 = .ok (.invokevirtual 82, 3) := by decide +kernel
theorem d_Exprs_widen_18 : decode b_Exprs_widen 18 = .ok (.istore_n 2, 1) := by decide +kernel
theorem d_Exprs_widen_19 : decode b_Exprs_widen 19 = .ok (.aload_n 0, 1) := by decide +kernel
theorem d_Exprs_widen_20 : decode b_Exprs_widen 20 = .ok (.getfield 27, 3) := by decide +kernel
theorem d_Exprs_widen_23 : decode b_Exprs_widen 23 = .ok (.bipush 41, 2) := by decide +kernel
theorem d_Exprs_widen_25 : decode b_Exprs_widen 25 = .ok (.invokevirtual 161, 3) := by decide +kernel
theorem d_Exprs_widen_28 : decode b_Exprs_widen 28 = .ok (.pop, 1) := by decide +kernel
theorem d_Exprs_widen_29 : decode b_Exprs_widen 29 = .ok (.aload_n 0, 1) := by decide +kernel
theorem d_Exprs_widen_30 : decode b_Exprs_widen 30 = .ok (.dup, 1) := by decide +kernel
theorem d_Exprs_widen_31 : decode b_Exprs_widen 31 = .ok (.getfield 39, 3) := by decide +kernel
theorem d_Exprs_widen_34 : decode b_Exprs_widen 34 = .ok (.iconst 1, 1) := by decide +kernel
theorem d_Exprs_widen_35 : decode b_Exprs_widen 35 = .ok (.isub, 1) := by decide +kernel
theorem d_Exprs_widen_36 : decode b_Exprs_widen 36 = .ok (.putfield 39, 3) := by decide +kernel
theorem d_Exprs_widen_39 : decode b_Exprs_widen 39 = .ok (.aload_n 0, 1) := by decide +kernel
theorem d_Exprs_widen_40 : decode b_Exprs_widen 40 = .ok (.invokevirtual 164, 3) := by decide +kernel
theorem d_Exprs_widen_43 : decode b_Exprs_widen 43 = .ok (.istore_n 3, 1) := by decide +kernel
theorem d_Exprs_widen_44 : decode b_Exprs_widen 44 = .ok (.aload_n 0, 1) := by decide +kernel
theorem d_Exprs_widen_45 : decode b_Exprs_widen 45 = .ok (.getfield 27, 3) := by decide +kernel
theorem d_Exprs_widen_48 : decode b_Exprs_widen 48 = .ok (.getfield 85, 3) := by decide +kernel
theorem d_Exprs_widen_51 : decode b_Exprs_widen 51 = .ok (.iload_n 2, 1) := by decide +kernel
theorem d_Exprs_widen_52 : decode b_Exprs_widen 52 = .ok (.laload, 1) := by decide +kernel
theorem d_Exprs_widen_53 : decode b_Exprs_widen 53 = .ok (.lstore 4, 2) := by decide +kernel
theorem d_Exprs_widen_55 : decode b_Exprs_widen 55 = .ok (.lload 4, 2) := by decide +kernel
theorem d_Exprs_widen_57 : decode b_Exprs_widen 57 = .ok (.lconst 1, 1) := by decide +kernel
theorem d_Exprs_widen_58 : decode b_Exprs_widen 58 = .ok (.lcmp, 1) := by decide +kernel
theorem d_Exprs_widen_59 : decode b_Exprs_widen 59 = .ok (.ifCond .lt (20), 3) := by decide +kernel
theorem d_Exprs_widen_62 : decode b_Exprs_widen 62 = .ok (.lload 4, 2) := by decide +kernel
theorem d_Exprs_widen_64 : decode b_Exprs_widen 64 = .ok (.iload_n 3, 1) := by decide +kernel
theorem d_Exprs_widen_65 : decode b_Exprs_widen 65 = .ok (.i2l, 1) := by decide +kernel
theorem d_Exprs_widen_66 : decode b_Exprs_widen 66 = .ok (.lcmp, 1) := by decide +kernel
theorem d_Exprs_widen_67 : decode b_Exprs_widen 67 = .ok (.ifCond .lt (12), 3) := by decide +kernel
theorem d_Exprs_widen_70 : decode b_Exprs_widen 70 = .ok (.lload 4, 2) := by decide +kernel
theorem d_Exprs_widen_72 : decode b_Exprs_widen 72 = .ok (.ldc2_w 99, 3) := by decide +kernel
theorem d_Exprs_widen_75 : decode b_Exprs_widen 75 = .ok (.lcmp, 1) := by decide +kernel
theorem d_Exprs_widen_76 : decode b_Exprs_widen 76 = .ok (.ifCond .le (7), 3) := by decide +kernel
theorem d_Exprs_widen_79 : decode b_Exprs_widen 79 = .ok (.iconst 1, 1) := by decide +kernel
theorem d_Exprs_widen_80 : decode b_Exprs_widen 80 = .ok (.goto (4), 3) := by decide +kernel
theorem d_Exprs_widen_83 : decode b_Exprs_widen 83 = .ok (.iconst 0, 1) := by decide +kernel
theorem d_Exprs_widen_84 : decode b_Exprs_widen 84 = .ok (.istore 6, 2) := by decide +kernel
theorem d_Exprs_widen_86 : decode b_Exprs_widen 86 = .ok (.iload 6, 2) := by decide +kernel
theorem d_Exprs_widen_88 : decode b_Exprs_widen 88 = .ok (.ifCond .eq (9), 3) := by decide +kernel
theorem d_Exprs_widen_91 : decode b_Exprs_widen 91 = .ok (.aload_n 0, 1) := by decide +kernel
theorem d_Exprs_widen_92 : decode b_Exprs_widen 92 = .ok (.iload_n 2, 1) := by decide +kernel
theorem d_Exprs_widen_93 : decode b_Exprs_widen 93 = .ok (.iconst 3, 1) := by decide +kernel
theorem d_Exprs_widen_94 : decode b_Exprs_widen 94 = .ok (.invokevirtual 101, 3) := by decide +kernel
theorem d_Exprs_widen_97 : decode b_Exprs_widen 97 = .ok (.iload_n 1, 1) := by decide +kernel
theorem d_Exprs_widen_98 : decode b_Exprs_widen 98 = .ok (.sipush 211, 3) := by decide +kernel
theorem d_Exprs_widen_101 : decode b_Exprs_widen 101 = .ok (.if_icmp .ne (22), 3) := by decide +kernel
theorem d_Exprs_widen_104 : decode b_Exprs_widen 104 = .ok (.aload_n 0, 1) := by decide +kernel
theorem d_Exprs_widen_105 : decode b_Exprs_widen 105 = .ok (.getfield 89, 3) := by decide +kernel
theorem d_Exprs_widen_108 : decode b_Exprs_widen 108 = .ok (.sipush 310, 3) := by decide +kernel
theorem d_Exprs_widen_111 : decode b_Exprs_widen 111 = .ok (.iload_n 3, 1) := by decide +kernel
theorem d_Exprs_widen_112 : decode b_Exprs_widen 112 = .ok (.i2l, 1) := by decide +kernel
theorem d_Exprs_widen_113 : decode b_Exprs_widen 113 = .ok (.lload 4, 2) := by decide +kernel
theorem d_Exprs_widen_115 : decode b_Exprs_widen 115 = .ok (.bipush 8, 2) := by decide +kernel
theorem d_Exprs_widen_117 : decode b_Exprs_widen 117 = .ok (.lshl, 1) := by decide +kernel
theorem d_Exprs_widen_118 : decode b_Exprs_widen 118 = .ok (.lor, 1) := by decide +kernel
theorem d_Exprs_widen_119 : decode b_Exprs_widen 119 = .ok (.invokevirtual 93, 3) := by decide +kernel
theorem d_Exprs_widen_122 : decode b_Exprs_widen 122 = .ok (.pop, 1) := by decide +kernel
theorem d_Exprs_widen_123 : decode b_Exprs_widen 123 = .ok (.aload_n 0, 1) := by decide +kernel
theorem d_Exprs_widen_124 : decode b_Exprs_widen 124 = .ok (.iload 6, 2) := by decide +kernel
theorem d_Exprs_widen_126 : decode b_Exprs_widen 126 = .ok (.ifCond .ne (7), 3) := by decide +kernel
theorem d_Exprs_widen_129 : decode b_Exprs_widen 129 = .ok (.iload_n 3, 1) := by decide +kernel
theorem d_Exprs_widen_130 : decode b_Exprs_widen 130 = .ok (.ifCond .ne (7), 3) := by decide +kernel
theorem d_Exprs_widen_133 : decode b_Exprs_widen 133 = .ok (.iconst 0, 1) := by decide +kernel
theorem d_Exprs_widen_134 : decode b_Exprs_widen 134 = .ok (.goto (6), 3) := by decide +kernel
theorem d_Exprs_widen_137 : decode b_Exprs_widen 137 = .ok (.lload 4, 2) := by decide +kernel
theorem d_Exprs_widen_139 : decode b_Exprs_widen 139 = .ok (.l2i, 1) := by decide +kernel
theorem d_Exprs_widen_140 : decode b_Exprs_widen 140 = .ok (.invokevirtual 102, 3) := by decide +kernel
theorem d_Exprs_widen_143 : decode b_Exprs_widen 143 = .ok (.return_, 1) := by decide +kernel
set_option maxHeartbeats 4000000 in
set_option maxRecDepth 100000 in
theorem c_Exprs_widen_a (l : Launch) {dA : FieldType → ClassId} {D : va_G} {al : Nat → Nat} {ext : mv_Sh} {sk sv : Nat → Nat} (hi : mv_inj (mg dA D al ext)) (σ : mv_H) (k9 w8 : Int32) {t len n z sz th sl e0 bs ns : Nat} {BL : (Nat → Nat) → Prop} {f0 : Nat → Int32} {g0 : Nat → Int64} {ms : List Mk} {s0 bd a : Nat} (hB0 : SB 32 σ t len n z sz th sl) (ht2 : t = 1 ∨ t = 144) (hX : XM 32 th e0 bs BL f0 g0 ns σ (((k9, w8) : Mk) :: ms) (sm wt (((k9, w8) : Mk) :: ms) + 1) (sm wr (((k9, w8) : Mk) :: ms) + 1) (s0)) (hI : TI σ sz bd (((k9, w8) : Mk) :: ms) s0 a) (hlen : len ≤ 32768) (hbs : bs ≤ 1) (hk3 : mv_a σ 4 (mv_i σ 3 7).toNatClampNeg = 44) (hkk : k9 = 211 ∨ k9 = 212) : mv_C l y_Exprs_widen (Cond.code y_Exprs_widen b_Exprs_widen 7 (Option.none : Option Jvm.ClassFile.FieldType) :: ma) ({ frames := 3, cells := 0, slots := 0, locals := 63 }) (mg dA D al ext) (mK sk sv) [.ref (al 22), .int k9] σ (mv_Rv (fun σ1 => RF 32 σ σ1 ∧ Mt (mv_a σ1 24) ∧ (0 ≤ (mv_i σ1 3 9).toInt ∨ ∃ ms2 s2 a2, a < a2 ∧ XM 32 th e0 bs BL f0 g0 ns σ1 (ms2) (sm wt ms2 + 1) (sm wr ms2 + 1) (s2) ∧ TI σ1 sz bd ms2 s2 a2))) := by
  refine mv_C.ofV (cc := b_Exprs_widen) (nL := 7) (ret := (Option.none : Option Jvm.ClassFile.FieldType)) (by decide +kernel) rfl hi (Nat.le_of_ble_eq_true rfl) ?_
  intro p e s m below meth c B hNs hr hnm hno
  have hP : PQ 32 := by unfold PQ; omega
  have hR := hB0.1
  have hF : RF 32 σ σ := RF0
  have hT : mv_i σ 3 = mv_i σ 3 := rfl
  have hsz := hB0.2.1.2.2.2.2.2
  have hsz2 := hB0.2.1.2.2.2.1
  have hI5 := hI.2.2.2.2.1
  have ha9 := hI.2.2.2.2.2.1
  have pl := hI.len hX
  have hm8 := hX.1.1
  have t7 := hI.1
  have hw9 := hI.2.1
  have t9 : (mv_i σ 3 9).toInt = (mv_i σ 3 9).toInt := rfl
  have hd8 := hI.2.2.1
  have hd9 := hI.2.2.2.1
  have hWm := hI.2.2.2.2.2.2
  have kp : mv_a σ 4 = mv_a σ 4 := rfl
  have t8 : (mv_i σ 3 8).toInt = (mv_i σ 3 8).toInt := rfl
  have g1 : sm wt (((k9, w8) : Mk) :: ms) = wt (k9, w8) + sm wt ms := rfl
  have g2 : sm wr (((k9, w8) : Mk) :: ms) = wr (k9, w8) + sm wr ms := rfl
  have g3 : sm wd (((k9, w8) : Mk) :: ms) = wd (k9, w8) + sm wd ms := rfl
  have g4 : sm wc (((k9, w8) : Mk) :: ms) = wc (k9, w8) + sm wc ms := rfl
  have gl : ((((k9, w8)) : Mk) :: ms).length = ms.length + 1 := rfl
  have hkw : wt (k9, w8) = 0 ∧ wr (k9, w8) = 0 ∧ wd (k9, w8) = 1 ∧ wc (k9, w8) = 0 := by rcases hkk with rfl | rfl <;> exact ⟨rfl, rfl, rfl, rfl⟩
  have hkp : ¬ ((k9, w8) : Mk).1 = 63 ∧ ¬ ((k9, w8) : Mk).1 = 58 := show ¬ k9 = 63 ∧ ¬ k9 = 58 by rcases hkk with rfl | rfl <;> decide
  rw [g1, g2, hkw.1, hkw.2.1, Nat.zero_add, Nat.zero_add] at hX
  have j140 : ∀ (υ : mv_H) (x9 : Int32) (s1 : Nat) (hR : Rw 32 (mv_r υ)) (hF : RF 32 σ υ) (hX : XM 32 th e0 bs BL f0 g0 ns υ (ms) (sm wt ms) (sm wr ms + 1) (s1)) (t7 : a + 1 ≤ (mv_i υ 3 7).toInt ∧ (mv_i υ 3 7).toInt < sz) (t8 : (mv_i υ 3 8).toInt = (mv_i σ 3 8).toInt - 1) (hs1 : s1 ≤ s0 + 1), mv_V p l e ({ frames := 3, cells := 0, slots := 0, locals := 63 }) s m ([.ref (al 22), .int k9] : List Value).toArray below meth c (mg dA D al ext) 7 0 0 (mv_Q (mg dA D al ext) below s 0 0 (mv_Rv (fun σ1 => RF 32 σ σ1 ∧ Mt (mv_a σ1 24) ∧ (0 ≤ (mv_i σ1 3 9).toInt ∨ ∃ ms2 s2 a2, a < a2 ∧ XM 32 th e0 bs BL f0 g0 ns σ1 (ms2) (sm wt ms2 + 1) (sm wr ms2 + 1) (s2) ∧ TI σ1 sz bd ms2 s2 a2)))) υ 140 [(0, .ref (al 22))] [.int x9, .ref (al 22)] := by
    intro υ x9 s1 hR hF hX t7 t8 hs1
    refine mv_callVv (pc := 140) (n := 1) (ci := 6) (C := R_Exprs) B (mK_ok sk sv) hNs rfl rfl (c_Exprs_hold l hi _ _ hR.1 (by have := hX.1.2.2.1; omega) (by have := hX.1.2.2.1; omega)) rfl (ma_goodc kc_Exprs_hold) (B.2.2.2.1 _ k_1432) (B.2.2.2.1 _ k_1434) (B.2.2.2.1 _ ks_51) (B.2.2.2.1 _ k_7) ⟨by decide +kernel, by decide +kernel, by decide +kernel⟩ rfl d_Exprs_widen_140 rfl (Nat.le_of_ble_eq_true rfl) ⟨by decide, by decide⟩ ⟨by decide, by decide⟩ ⟨by decide, by decide⟩ (mv_noH hno _) (fun σ140 h140 => ?_)
    subst h140
    refine mv_gen (fun S143 eS143 => ?_)
    have hR : Rw 32 (mv_r S143) := by rw [eS143]; exact hR
    have hF : RF 32 σ S143 := by rw [eS143]; exact hF.hold _
    have hX : XM 32 th e0 bs BL f0 g0 ns S143 (ms) (sm wt ms + 1) (sm wr ms + 1) (s1) := by rw [eS143]; exact hX.hold hP (by omega) _
    have t7 : a + 1 ≤ (mv_i S143 3 7).toInt ∧ (mv_i S143 3 7).toInt < sz := by rw [eS143]; exact t7
    have t8 : (mv_i S143 3 8).toInt = (mv_i σ 3 8).toInt - 1 := by rw [eS143]; exact t8
    have hend : 0 ≤ (mv_i S143 3 9).toInt ∨ ∃ ms2 s2 a2, a < a2 ∧ XM 32 th e0 bs BL f0 g0 ns S143 (ms2) (sm wt ms2 + 1) (sm wr ms2 + 1) (s2) ∧ TI S143 sz bd ms2 s2 a2 := by
      by_cases hw : (mv_i S143 3 9).toInt < 0
      · exact Or.inr ⟨ms, s1, (mv_i S143 3 7).toInt.toNat, by omega, hX, by omega, hw, by omega, by omega, by omega, by omega, hWm.tail.up (by omega)⟩
      · exact Or.inl (by omega)
    clear eS143
    exact mv_vret (pc := 143) B hr d_Exprs_widen_143 (Nat.le_refl _) (Nat.le_refl _) ⟨rfl, hF, hX.1.2.2.2.1, hend⟩
  have j123 : ∀ (υ : mv_H) (fl : Int32) (wd9 : Int32) (wv : Int64) (s1 : Nat) (hR : Rw 32 (mv_r υ)) (hF : RF 32 σ υ) (hX : XM 32 th e0 bs BL f0 g0 ns υ (ms) (sm wt ms) (sm wr ms + 1) (s1)) (t7 : a + 1 ≤ (mv_i υ 3 7).toInt ∧ (mv_i υ 3 7).toInt < sz) (t8 : (mv_i υ 3 8).toInt = (mv_i σ 3 8).toInt - 1) (hs1 : s1 ≤ s0 + 1), mv_V p l e ({ frames := 3, cells := 0, slots := 0, locals := 63 }) s m ([.ref (al 22), .int k9] : List Value).toArray below meth c (mg dA D al ext) 7 0 0 (mv_Q (mg dA D al ext) below s 0 0 (mv_Rv (fun σ1 => RF 32 σ σ1 ∧ Mt (mv_a σ1 24) ∧ (0 ≤ (mv_i σ1 3 9).toInt ∨ ∃ ms2 s2 a2, a < a2 ∧ XM 32 th e0 bs BL f0 g0 ns σ1 (ms2) (sm wt ms2 + 1) (sm wr ms2 + 1) (s2) ∧ TI σ1 sz bd ms2 s2 a2)))) υ 123 [(6, .int fl), (4, .long wv), (3, .int wd9), (0, .ref (al 22))] [] := by
    intro υ fl wd9 wv s1 hR hF hX t7 t8 hs1
    refine mv_aload_n (pc := 123) B d_Exprs_widen_123 rfl 3 rfl ?_
    refine mv_iload (pc := 124) B d_Exprs_widen_124 0 rfl ?_
    refine mv_if_ne (pc := 126) (tgt := 133) B d_Exprs_widen_126 rfl (fun h126 => ?_) (fun h126 => ?_)
    · skip
      refine mv_iconst (pc := 133) (v := 0) B d_Exprs_widen_133 (by decide) ?_
      refine mv_goto (pc := 134) (tgt := 140) B d_Exprs_widen_134 rfl ?_
      refine mv_lpick [3] rfl ?_
      exact j140 _ _ _ hR hF hX t7 t8 hs1
    · skip
      refine mv_iload_n (pc := 129) B d_Exprs_widen_129 rfl 2 rfl ?_
      refine mv_if_ne (pc := 130) (tgt := 137) B d_Exprs_widen_130 rfl (fun h130 => ?_) (fun h130 => ?_)
      · skip
        refine mv_lload (pc := 137) B d_Exprs_widen_137 1 rfl ?_
        refine mv_l2i (pc := 139) B d_Exprs_widen_139 ?_
        refine mv_lpick [3] rfl ?_
        exact j140 _ _ _ hR hF hX t7 t8 hs1
      · skip
        refine mv_iconst (pc := 133) (v := 0) B d_Exprs_widen_133 (by decide) ?_
        refine mv_goto (pc := 134) (tgt := 140) B d_Exprs_widen_134 rfl ?_
        refine mv_lpick [3] rfl ?_
        exact j140 _ _ _ hR hF hX t7 t8 hs1
  have j97 : ∀ (υ : mv_H) (fl : Int32) (wd9 : Int32) (wv : Int64) (hR : Rw 32 (mv_r υ)) (hF : RF 32 σ υ) (hX : XM 32 th e0 bs BL f0 g0 ns υ (ms) (sm wt ms) (sm wr ms + 1) (s0)) (t7 : a + 1 ≤ (mv_i υ 3 7).toInt ∧ (mv_i υ 3 7).toInt < sz) (t8 : (mv_i υ 3 8).toInt = (mv_i σ 3 8).toInt - 1), mv_V p l e ({ frames := 3, cells := 0, slots := 0, locals := 63 }) s m ([.ref (al 22), .int k9] : List Value).toArray below meth c (mg dA D al ext) 7 0 0 (mv_Q (mg dA D al ext) below s 0 0 (mv_Rv (fun σ1 => RF 32 σ σ1 ∧ Mt (mv_a σ1 24) ∧ (0 ≤ (mv_i σ1 3 9).toInt ∨ ∃ ms2 s2 a2, a < a2 ∧ XM 32 th e0 bs BL f0 g0 ns σ1 (ms2) (sm wt ms2 + 1) (sm wr ms2 + 1) (s2) ∧ TI σ1 sz bd ms2 s2 a2)))) υ 97 [(6, .int fl), (4, .long wv), (3, .int wd9), (0, .ref (al 22)), (1, .int k9)] [] := by
    intro υ fl wd9 wv hR hF hX t7 t8
    refine mv_iload_n (pc := 97) B d_Exprs_widen_97 rfl 4 rfl ?_
    refine mv_sipush (pc := 98) (v := 211) B d_Exprs_widen_98 (by decide) ?_
    refine mv_icmp_ne (pc := 101) (tgt := 123) B d_Exprs_widen_101 rfl (fun h101 => ?_) (fun h101 => ?_)
    · skip
      have hs1 : s0 ≤ s0 + 1 := Nat.le_succ _
      refine mv_lpick [0, 1, 2, 3] rfl ?_
      exact j123 _ _ _ _ _ hR hF hX t7 t8 hs1
    · skip
      refine mv_aload_n (pc := 104) B d_Exprs_widen_104 rfl 3 rfl ?_
      refine mv_getR (pc := 105) (ci := 6) (C := R_Exprs) (T := F_Exprs) (N := 11) B 3 rfl rfl (by decide) i_Exprs (B.2.2.2.1 _ k_197) rfl hR.2.2.2 d_Exprs_widen_105 ?_
      refine mv_sipush (pc := 108) (v := 310) B d_Exprs_widen_108 (by decide) ?_
      refine mv_iload_n (pc := 111) B d_Exprs_widen_111 rfl 2 rfl ?_
      refine mv_i2l (pc := 112) B d_Exprs_widen_112 ?_
      refine mv_lload (pc := 113) B d_Exprs_widen_113 1 rfl ?_
      refine mv_bipush (pc := 115) (v := 8) B d_Exprs_widen_115 (by decide) ?_
      refine mv_lshl (pc := 117) B d_Exprs_widen_117 ?_
      refine mv_lor (pc := 118) B d_Exprs_widen_118 ?_
      refine mv_callVi (pc := 119) (n := 2) (ci := 7) (C := R_Program) B (mK_ok sk sv) hNs rfl rfl (c_Program_emit_a l hi _ _ _ hR.2.1 (by have := hX.2.1.1; omega) (by have := hX.2.1.1; omega)) rfl (ma_goodc kc_Program_emit) (B.2.2.2.1 _ k_1425) (B.2.2.2.1 _ k_1385) (B.2.2.2.1 _ k_1386) (B.2.2.2.1 _ k_8) ⟨by decide +kernel, by decide +kernel, by decide +kernel⟩ rfl d_Exprs_widen_119 rfl (Nat.le_of_ble_eq_true rfl) ⟨by decide, by decide⟩ ⟨by decide, by decide⟩ ⟨by decide, by decide⟩ (mv_noH hno _) (fun v119 σ119 h119 => ?_)
      obtain ⟨e119, -⟩ := h119
      subst e119
      refine mv_gen (fun S122 eS122 => ?_)
      have hR : Rw 32 (mv_r S122) := by rw [eS122]; exact hR
      have hF : RF 32 σ S122 := by rw [eS122]; exact hF.emit _ _
      have hX : XM 32 th e0 bs BL f0 g0 ns S122 (ms) (sm wt ms) (sm wr ms + 1) (s0 + 1) := by rw [eS122]; exact hX.emit0 hP (by omega) (sm wr ms + 1) (by decide) (by decide) (Op1_one (Or.inr rfl) th _ (bs + sm wr ms)) (by omega)
      have t7 : a + 1 ≤ (mv_i S122 3 7).toInt ∧ (mv_i S122 3 7).toInt < sz := by rw [eS122]; exact t7
      have t8 : (mv_i S122 3 8).toInt = (mv_i σ 3 8).toInt - 1 := by rw [eS122]; exact t8
      clear eS122
      have hs1 : s0 + 1 ≤ s0 + 1 := Nat.le_refl _
      refine mv_pop (pc := 122) B d_Exprs_widen_122 rfl ?_
      refine mv_lpick [0, 1, 2, 3] rfl ?_
      exact j123 _ _ _ _ _ hR hF hX t7 t8 hs1
  have j84 : ∀ (υ : mv_H) (fl : Int32) (wd9 : Int32) (wv : Int64) (tk2 : Int32) (hR : Rw 32 (mv_r υ)) (hF : RF 32 σ υ) (hX : XM 32 th e0 bs BL f0 g0 ns υ (ms) (sm wt ms) (sm wr ms + 1) (s0)) (t7 : a + 1 ≤ (mv_i υ 3 7).toInt ∧ (mv_i υ 3 7).toInt < sz) (t8 : (mv_i υ 3 8).toInt = (mv_i σ 3 8).toInt - 1) (b2 : 0 ≤ tk2.toInt ∧ tk2.toInt < sz), mv_V p l e ({ frames := 3, cells := 0, slots := 0, locals := 63 }) s m ([.ref (al 22), .int k9] : List Value).toArray below meth c (mg dA D al ext) 7 0 0 (mv_Q (mg dA D al ext) below s 0 0 (mv_Rv (fun σ1 => RF 32 σ σ1 ∧ Mt (mv_a σ1 24) ∧ (0 ≤ (mv_i σ1 3 9).toInt ∨ ∃ ms2 s2 a2, a < a2 ∧ XM 32 th e0 bs BL f0 g0 ns σ1 (ms2) (sm wt ms2 + 1) (sm wr ms2 + 1) (s2) ∧ TI σ1 sz bd ms2 s2 a2)))) υ 84 [(4, .long wv), (3, .int wd9), (2, .int tk2), (0, .ref (al 22)), (1, .int k9)] [.int fl] := by
    intro υ fl wd9 wv tk2 hR hF hX t7 t8 b2
    refine mv_istore (pc := 84) B d_Exprs_widen_84 (by decide) rfl ?_
    refine mv_iload (pc := 86) B d_Exprs_widen_86 0 rfl ?_
    refine mv_if_eq (pc := 88) (tgt := 97) B d_Exprs_widen_88 rfl (fun h88 => ?_) (fun h88 => ?_)
    · skip
      refine mv_lpick [0, 1, 2, 4, 5] rfl ?_
      exact j97 _ _ _ _ hR hF hX t7 t8
    · skip
      refine mv_aload_n (pc := 91) B d_Exprs_widen_91 rfl 4 rfl ?_
      refine mv_iload_n (pc := 92) B d_Exprs_widen_92 rfl 3 rfl ?_
      refine mv_iconst (pc := 93) (v := 3) B d_Exprs_widen_93 (by decide) ?_
      refine mv_callVv (pc := 94) (n := 2) (ci := 6) (C := R_Exprs) B (mK_ok sk sv) hNs rfl rfl (c_Exprs_tell l hi _ _ _ hR.1 b2.1 (by omega) (by decide)) rfl (ma_goodc kc_Exprs_tell) (B.2.2.2.1 _ k_1427) (B.2.2.2.1 _ k_1429) (B.2.2.2.1 _ ks_50) (B.2.2.2.1 _ k_7) ⟨by decide +kernel, by decide +kernel, by decide +kernel⟩ rfl d_Exprs_widen_94 rfl (Nat.le_of_ble_eq_true rfl) ⟨by decide, by decide⟩ ⟨by decide, by decide⟩ ⟨by decide, by decide⟩ (mv_noH hno _) (fun σ94 h94 => ?_)
      obtain ⟨x9, y9, e94, z94⟩ := h94
      subst e94
      refine mv_gen (fun S97 eS97 => ?_)
      have hR : Rw 32 (mv_r S97) := by rw [eS97]; exact hR
      have hF : RF 32 σ S97 := by rw [eS97]; exact hF.tell _ _
      have hX : XM 32 th e0 bs BL f0 g0 ns S97 (ms) (sm wt ms) (sm wr ms + 1) (s0) := by rw [eS97]; exact hX.tell hP z94 _ _
      have t7 : a + 1 ≤ (mv_i S97 3 7).toInt ∧ (mv_i S97 3 7).toInt < sz := by rw [eS97]; exact t7
      have t8 : (mv_i S97 3 8).toInt = (mv_i σ 3 8).toInt - 1 := by rw [eS97]; exact t8
      clear eS97
      refine mv_lpick [0, 1, 2, 4, 5] rfl ?_
      exact j97 _ _ _ _ hR hF hX t7 t8
  refine mv_aload_n (pc := 0) B d_Exprs_widen_0 rfl 0 rfl ?_
  refine mv_getR (pc := 1) (ci := 6) (C := R_Exprs) (T := F_Exprs) (N := 11) B 0 rfl rfl (by decide) i_Exprs (B.2.2.2.1 _ k_193) rfl (hR.1 _ 0 _ rfl) d_Exprs_widen_1 ?_
  refine mv_bipush (pc := 4) (v := 44) B d_Exprs_widen_4 (by decide) ?_
  refine mv_callVi (pc := 6) (n := 1) (ci := 2) (C := R_Tokens) B (mK_ok sk sv) hNs rfl rfl (c_Tokens_takeN l hi _ _ hR.1 (hB0.rf hF hP ht2).2.1 (by omega) (by omega) (by decide)) rfl (ma_goodc kc_Tokens_take) (B.2.2.2.1 _ k_1424) (B.2.2.2.1 _ k_1267) (B.2.2.2.1 _ k_1268) (B.2.2.2.1 _ k_3) ⟨by decide +kernel, by decide +kernel, by decide +kernel⟩ rfl d_Exprs_widen_6 rfl (Nat.le_of_ble_eq_true rfl) ⟨by decide, by decide⟩ ⟨by decide, by decide⟩ ⟨by decide, by decide⟩ (mv_noH hno _) (fun v6 σ6 h6 => ?_)
  obtain ⟨a6, w6, e6, r6⟩ := h6
  have q6 := r6.1
  have z6 := fun q => (r6.2.1 q).1
  have y6 := And.intro r6.2.2.2.1 r6.2.2.2.2.1
  subst e6
  have hw6 := r6.2.2.1 hw9 hk3 trivial
  refine mv_gen (fun S9 eS9 => ?_)
  have hR : Rw 32 (mv_r S9) := by rw [eS9]; exact hR
  have hF : RF 32 σ S9 := by rw [eS9]; exact hF.tk3 _ _ _
  have hX : XM 32 th e0 bs BL f0 g0 ns S9 (((k9, w8) : Mk) :: ms) (sm wt ms + 1) (sm wr ms + 1) (s0) := by rw [eS9]; exact hX.tk3 hP _ _ _
  have t7 : (mv_i S9 3 7).toInt = a6.toInt := by rw [eS9]; rfl
  have t8 : (mv_i S9 3 8).toInt = (mv_i σ 3 8).toInt := by rw [eS9]; first | exact t8 | exact (sub_one (by omega)).trans (by omega) | exact (i32_inc (by omega)).trans (by omega)
  have t9 : (mv_i S9 3 9).toInt = w6.toInt := by rw [eS9]; rfl
  have kS9 : mv_a S9 4 = mv_a σ 4 := by rw [eS9]; first | rfl | exact kp
  have kp := kS9
  clear eS9
  refine mv_pop (pc := 9) B d_Exprs_widen_9 rfl ?_
  refine mv_aload_n (pc := 10) B d_Exprs_widen_10 rfl 0 rfl ?_
  refine mv_getR (pc := 11) (ci := 6) (C := R_Exprs) (T := F_Exprs) (N := 11) B 0 rfl rfl (by decide) i_Exprs (B.2.2.2.1 _ k_193) rfl (hR.1 _ 0 _ rfl) d_Exprs_widen_11 ?_
  refine mv_iconst (pc := 14) (v := 4) B d_Exprs_widen_14 (by decide) ?_
  refine mv_callVi (pc := 15) (n := 1) (ci := 2) (C := R_Tokens) B (mK_ok sk sv) hNs rfl rfl (c_Tokens_takeN l hi _ _ hR.1 (hB0.rf hF hP ht2).2.1 (by omega) (by omega) (by decide)) rfl (ma_goodc kc_Tokens_take) (B.2.2.2.1 _ k_1424) (B.2.2.2.1 _ k_1267) (B.2.2.2.1 _ k_1268) (B.2.2.2.1 _ k_3) ⟨by decide +kernel, by decide +kernel, by decide +kernel⟩ rfl d_Exprs_widen_15 rfl (Nat.le_of_ble_eq_true rfl) ⟨by decide, by decide⟩ ⟨by decide, by decide⟩ ⟨by decide, by decide⟩ (mv_noH hno _) (fun v15 σ15 h15 => ?_)
  obtain ⟨a15, w15, e15, r15⟩ := h15
  have q15 := r15.1
  have z15 := fun q => (r15.2.1 q).1
  have y15 := And.intro r15.2.2.2.1 r15.2.2.2.2.1
  subst e15
  refine mv_gen (fun S18 eS18 => ?_)
  have hR : Rw 32 (mv_r S18) := by rw [eS18]; exact hR
  have hF : RF 32 σ S18 := by rw [eS18]; exact hF.tk3 _ _ _
  have hX : XM 32 th e0 bs BL f0 g0 ns S18 (((k9, w8) : Mk) :: ms) (sm wt ms + 1) (sm wr ms + 1) (s0) := by rw [eS18]; exact hX.tk3 hP _ _ _
  have t7 : (mv_i S18 3 7).toInt = a15.toInt := by rw [eS18]; rfl
  have t8 : (mv_i S18 3 8).toInt = (mv_i σ 3 8).toInt := by rw [eS18]; first | exact t8 | exact (sub_one (by omega)).trans (by omega) | exact (i32_inc (by omega)).trans (by omega)
  have t9 : (mv_i S18 3 9).toInt = w15.toInt := by rw [eS18]; rfl
  have kS18 : mv_a S18 4 = mv_a σ 4 := by rw [eS18]; first | rfl | exact kp
  have kp := kS18
  clear eS18
  refine mv_istore_n (pc := 18) B d_Exprs_widen_18 rfl (by decide) rfl ?_
  refine mv_aload_n (pc := 19) B d_Exprs_widen_19 rfl 1 rfl ?_
  refine mv_getR (pc := 20) (ci := 6) (C := R_Exprs) (T := F_Exprs) (N := 11) B 0 rfl rfl (by decide) i_Exprs (B.2.2.2.1 _ k_193) rfl (hR.1 _ 0 _ rfl) d_Exprs_widen_20 ?_
  refine mv_bipush (pc := 23) (v := 41) B d_Exprs_widen_23 (by decide) ?_
  refine mv_callVi (pc := 25) (n := 1) (ci := 2) (C := R_Tokens) B (mK_ok sk sv) hNs rfl rfl (c_Tokens_closeN l hi _ _ hR.1 (hB0.rf hF hP ht2).2.1 (by omega) (by omega) (by decide)) rfl (ma_goodc kc_Tokens_close) (B.2.2.2.1 _ k_1468) (B.2.2.2.1 _ k_1397) (B.2.2.2.1 _ k_1398) (B.2.2.2.1 _ k_3) ⟨by decide +kernel, by decide +kernel, by decide +kernel⟩ rfl d_Exprs_widen_25 rfl (Nat.le_of_ble_eq_true rfl) ⟨by decide, by decide⟩ ⟨by decide, by decide⟩ ⟨by decide, by decide⟩ (mv_noH hno _) (fun v25 σ25 h25 => ?_)
  obtain ⟨a25, w25, e25, r25⟩ := h25
  have q25 := r25.1
  have z25 := fun q => (r25.2.1 q).1
  have y25 := And.intro r25.2.2.2.1 r25.2.2.2.2.1
  subst e25
  refine mv_gen (fun S28 eS28 => ?_)
  have hR : Rw 32 (mv_r S28) := by rw [eS28]; exact hR
  have hF : RF 32 σ S28 := by rw [eS28]; exact hF.tk3 _ _ _
  have hX : XM 32 th e0 bs BL f0 g0 ns S28 (((k9, w8) : Mk) :: ms) (sm wt ms + 1) (sm wr ms + 1) (s0) := by rw [eS28]; exact hX.tk3 hP _ _ _
  have t7 : (mv_i S28 3 7).toInt = a25.toInt := by rw [eS28]; rfl
  have t8 : (mv_i S28 3 8).toInt = (mv_i σ 3 8).toInt - 1 := by rw [eS28]; first | exact t8 | exact (sub_one (by omega)).trans (by omega) | exact (i32_inc (by omega)).trans (by omega)
  have t9 : (mv_i S28 3 9).toInt = w25.toInt := by rw [eS28]; rfl
  have kS28 : mv_a S28 4 = mv_a σ 4 := by rw [eS28]; first | rfl | exact kp
  have kp := kS28
  have t7 : a + 1 ≤ (mv_i S28 3 7).toInt ∧ (mv_i S28 3 7).toInt < sz := by omega
  clear eS28
  refine mv_pop (pc := 28) B d_Exprs_widen_28 rfl ?_
  refine mv_aload_n (pc := 29) B d_Exprs_widen_29 rfl 1 rfl ?_
  refine mv_dup (pc := 30) B d_Exprs_widen_30 rfl ?_
  refine mv_getI (pc := 31) (ci := 6) (C := R_Exprs) (T := F_Exprs) (N := 11) B 8 rfl rfl (by decide) i_Exprs (B.2.2.2.1 _ k_202) rfl d_Exprs_widen_31 ?_
  refine mv_iconst (pc := 34) (v := 1) B d_Exprs_widen_34 (by decide) ?_
  refine mv_isub (pc := 35) B d_Exprs_widen_35 ?_
  refine mv_putI (pc := 36) (ci := 6) (C := R_Exprs) (T := F_Exprs) (N := 11) B 8 rfl rfl (by decide) i_Exprs t_Exprs_ok n_Exprs (B.2.2.2.1 _ k_202) rfl rfl rfl rfl d_Exprs_widen_36 ?_
  refine mv_gen (fun S39 eS39 => ?_)
  have hR : Rw 32 (mv_r S39) := by rw [eS39]; exact hR
  have hF : RF 32 σ S39 := by rw [eS39]; exact hF.pop
  have hX : XM 32 th e0 bs BL f0 g0 ns S39 (ms) (sm wt ms + 1) (sm wr ms + 1) (s0) := by rw [eS39]; exact hX.pop hP hkp
  have t7 : a + 1 ≤ (mv_i S39 3 7).toInt ∧ (mv_i S39 3 7).toInt < sz := by rw [eS39]; exact t7
  have t8 : (mv_i S39 3 8).toInt = (mv_i σ 3 8).toInt - 1 := by rw [eS39]; exact t8
  clear eS39
  refine mv_aload_n (pc := 39) B d_Exprs_widen_39 rfl 1 rfl ?_
  refine mv_callVi (pc := 40) (n := 0) (ci := 6) (C := R_Exprs) B (mK_ok sk sv) hNs rfl rfl (c_Exprs_release l hi _ hR.1 (by have := hX.1.2.2.1; omega) (by have := hX.1.2.2.1; omega)) rfl (ma_goodc kc_Exprs_release) (B.2.2.2.1 _ k_1469) (B.2.2.2.1 _ k_1470) (B.2.2.2.1 _ k_1471) (B.2.2.2.1 _ k_7) ⟨by decide +kernel, by decide +kernel, by decide +kernel⟩ rfl d_Exprs_widen_40 rfl (Nat.le_of_ble_eq_true rfl) ⟨by decide, by decide⟩ ⟨by decide, by decide⟩ ⟨by decide, by decide⟩ (mv_noH hno _) (fun v40 σ40 h40 => ?_)
  subst h40
  refine mv_gen (fun S43 eS43 => ?_)
  have hR : Rw 32 (mv_r S43) := by rw [eS43]; exact hR
  have hF : RF 32 σ S43 := by rw [eS43]; exact hF.rel
  have hX : XM 32 th e0 bs BL f0 g0 ns S43 (ms) (sm wt ms) (sm wr ms + 1) (s0) := by rw [eS43]; exact hX.rel hP
  have t7 : a + 1 ≤ (mv_i S43 3 7).toInt ∧ (mv_i S43 3 7).toInt < sz := by rw [eS43]; exact t7
  have t8 : (mv_i S43 3 8).toInt = (mv_i σ 3 8).toInt - 1 := by rw [eS43]; exact t8
  clear eS43
  refine mv_istore_n (pc := 43) B d_Exprs_widen_43 rfl (by decide) rfl ?_
  refine mv_aload_n (pc := 44) B d_Exprs_widen_44 rfl 2 rfl ?_
  refine mv_getR (pc := 45) (ci := 6) (C := R_Exprs) (T := F_Exprs) (N := 11) B 0 rfl rfl (by decide) i_Exprs (B.2.2.2.1 _ k_193) rfl (hR.1 _ 0 _ rfl) d_Exprs_widen_45 ?_
  refine mv_getR (pc := 48) (ci := 2) (C := R_Tokens) (T := F_Tokens) (N := 10) B 2 rfl rfl (by decide) i_Tokens (B.2.2.2.1 _ k_95) rfl (hR.1 _ 2 _ rfl) d_Exprs_widen_48 ?_
  refine mv_iload_n (pc := 51) B d_Exprs_widen_51 rfl 1 rfl ?_
  refine mv_lald (pc := 52) B rfl (i32_in y15.1 (by omega)) d_Exprs_widen_52 ?_
  refine mv_lstore (pc := 53) B d_Exprs_widen_53 (by decide) rfl ?_
  refine mv_lload (pc := 55) B d_Exprs_widen_55 0 rfl ?_
  refine mv_lconst (pc := 57) (v := 1) B d_Exprs_widen_57 (by decide) ?_
  refine mv_lcmp (pc := 58) B d_Exprs_widen_58 ?_
  refine mv_if_lt (pc := 59) (tgt := 79) B d_Exprs_widen_59 rfl (fun h59 => ?_) (fun h59 => ?_)
  · skip
    refine mv_iconst (pc := 79) (v := 1) B d_Exprs_widen_79 (by decide) ?_
    refine mv_goto (pc := 80) (tgt := 84) B d_Exprs_widen_80 rfl ?_
    refine mv_lpick [0, 1, 2, 3, 4] rfl ?_
    exact j84 _ _ _ _ _ hR hF hX t7 t8 y15
  · skip
    refine mv_lload (pc := 62) B d_Exprs_widen_62 0 rfl ?_
    refine mv_iload_n (pc := 64) B d_Exprs_widen_64 rfl 1 rfl ?_
    refine mv_i2l (pc := 65) B d_Exprs_widen_65 ?_
    refine mv_lcmp (pc := 66) B d_Exprs_widen_66 ?_
    refine mv_if_lt (pc := 67) (tgt := 79) B d_Exprs_widen_67 rfl (fun h67 => ?_) (fun h67 => ?_)
    · skip
      refine mv_iconst (pc := 79) (v := 1) B d_Exprs_widen_79 (by decide) ?_
      refine mv_goto (pc := 80) (tgt := 84) B d_Exprs_widen_80 rfl ?_
      refine mv_lpick [0, 1, 2, 3, 4] rfl ?_
      exact j84 _ _ _ _ _ hR hF hX t7 t8 y15
    · skip
      refine mv_lload (pc := 70) B d_Exprs_widen_70 0 rfl ?_
      refine mv_ldc2 (pc := 72) (v := 64) B (B.2.2.2.1 _ k_1426) d_Exprs_widen_72 ?_
      refine mv_lcmp (pc := 75) B d_Exprs_widen_75 ?_
      refine mv_if_le (pc := 76) (tgt := 83) B d_Exprs_widen_76 rfl (fun h76 => ?_) (fun h76 => ?_)
      · skip
        refine mv_iconst (pc := 83) (v := 0) B d_Exprs_widen_83 (by decide) ?_
        refine mv_lpick [0, 1, 2, 3, 4] rfl ?_
        exact j84 _ _ _ _ _ hR hF hX t7 t8 y15
      · skip
        refine mv_iconst (pc := 79) (v := 1) B d_Exprs_widen_79 (by decide) ?_
        refine mv_goto (pc := 80) (tgt := 84) B d_Exprs_widen_80 rfl ?_
        refine mv_lpick [0, 1, 2, 3, 4] rfl ?_
        exact j84 _ _ _ _ _ hR hF hX t7 t8 y15
set_option maxHeartbeats 4000000 in
set_option maxRecDepth 100000 in
theorem c_Exprs_widen_b (l : Launch) {dA : FieldType → ClassId} {D : va_G} {al : Nat → Nat} {ext : mv_Sh} {sk sv : Nat → Nat} (hi : mv_inj (mg dA D al ext)) (σ : mv_H) (k9 w8 : Int32) {t len n z sz th sl e0 bs ns : Nat} {BL : (Nat → Nat) → Prop} {f0 : Nat → Int32} {g0 : Nat → Int64} {ms : List Mk} {s0 bd a : Nat} (hB0 : SB 48 σ t len n z sz th sl) (ht2 : t = 1 ∨ t = 144) (hX : XM 48 th e0 bs BL f0 g0 ns σ (((k9, w8) : Mk) :: ms) (sm wt (((k9, w8) : Mk) :: ms) + 1) (sm wr (((k9, w8) : Mk) :: ms) + 1) (s0)) (hI : TI σ sz bd (((k9, w8) : Mk) :: ms) s0 a) (hlen : len ≤ 32768) (hbs : bs ≤ 1) (hk3 : mv_a σ 4 (mv_i σ 3 7).toNatClampNeg = 44) (hkk : k9 = 211 ∨ k9 = 212) : mv_C l y_Exprs_widen (Cond.code y_Exprs_widen b_Exprs_widen 7 (Option.none : Option Jvm.ClassFile.FieldType) :: ma) ({ frames := 3, cells := 0, slots := 0, locals := 63 }) (mg dA D al ext) (mK sk sv) [.ref (al 22), .int k9] σ (mv_Rv (fun σ1 => RF 48 σ σ1 ∧ Mt (mv_a σ1 24) ∧ (0 ≤ (mv_i σ1 3 9).toInt ∨ ∃ ms2 s2 a2, a < a2 ∧ XM 48 th e0 bs BL f0 g0 ns σ1 (ms2) (sm wt ms2 + 1) (sm wr ms2 + 1) (s2) ∧ TI σ1 sz bd ms2 s2 a2))) := by
  refine mv_C.ofV (cc := b_Exprs_widen) (nL := 7) (ret := (Option.none : Option Jvm.ClassFile.FieldType)) (by decide +kernel) rfl hi (Nat.le_of_ble_eq_true rfl) ?_
  intro p e s m below meth c B hNs hr hnm hno
  have hP : PQ 48 := by unfold PQ; omega
  have hR := hB0.1
  have hF : RF 48 σ σ := RF0
  have hT : mv_i σ 3 = mv_i σ 3 := rfl
  have hsz := hB0.2.1.2.2.2.2.2
  have hsz2 := hB0.2.1.2.2.2.1
  have hI5 := hI.2.2.2.2.1
  have ha9 := hI.2.2.2.2.2.1
  have pl := hI.len hX
  have hm8 := hX.1.1
  have t7 := hI.1
  have hw9 := hI.2.1
  have t9 : (mv_i σ 3 9).toInt = (mv_i σ 3 9).toInt := rfl
  have hd8 := hI.2.2.1
  have hd9 := hI.2.2.2.1
  have hWm := hI.2.2.2.2.2.2
  have kp : mv_a σ 4 = mv_a σ 4 := rfl
  have t8 : (mv_i σ 3 8).toInt = (mv_i σ 3 8).toInt := rfl
  have g1 : sm wt (((k9, w8) : Mk) :: ms) = wt (k9, w8) + sm wt ms := rfl
  have g2 : sm wr (((k9, w8) : Mk) :: ms) = wr (k9, w8) + sm wr ms := rfl
  have g3 : sm wd (((k9, w8) : Mk) :: ms) = wd (k9, w8) + sm wd ms := rfl
  have g4 : sm wc (((k9, w8) : Mk) :: ms) = wc (k9, w8) + sm wc ms := rfl
  have gl : ((((k9, w8)) : Mk) :: ms).length = ms.length + 1 := rfl
  have hkw : wt (k9, w8) = 0 ∧ wr (k9, w8) = 0 ∧ wd (k9, w8) = 1 ∧ wc (k9, w8) = 0 := by rcases hkk with rfl | rfl <;> exact ⟨rfl, rfl, rfl, rfl⟩
  have hkp : ¬ ((k9, w8) : Mk).1 = 63 ∧ ¬ ((k9, w8) : Mk).1 = 58 := show ¬ k9 = 63 ∧ ¬ k9 = 58 by rcases hkk with rfl | rfl <;> decide
  rw [g1, g2, hkw.1, hkw.2.1, Nat.zero_add, Nat.zero_add] at hX
  have j140 : ∀ (υ : mv_H) (x9 : Int32) (s1 : Nat) (hR : Rw 48 (mv_r υ)) (hF : RF 48 σ υ) (hX : XM 48 th e0 bs BL f0 g0 ns υ (ms) (sm wt ms) (sm wr ms + 1) (s1)) (t7 : a + 1 ≤ (mv_i υ 3 7).toInt ∧ (mv_i υ 3 7).toInt < sz) (t8 : (mv_i υ 3 8).toInt = (mv_i σ 3 8).toInt - 1) (hs1 : s1 ≤ s0 + 1), mv_V p l e ({ frames := 3, cells := 0, slots := 0, locals := 63 }) s m ([.ref (al 22), .int k9] : List Value).toArray below meth c (mg dA D al ext) 7 0 0 (mv_Q (mg dA D al ext) below s 0 0 (mv_Rv (fun σ1 => RF 48 σ σ1 ∧ Mt (mv_a σ1 24) ∧ (0 ≤ (mv_i σ1 3 9).toInt ∨ ∃ ms2 s2 a2, a < a2 ∧ XM 48 th e0 bs BL f0 g0 ns σ1 (ms2) (sm wt ms2 + 1) (sm wr ms2 + 1) (s2) ∧ TI σ1 sz bd ms2 s2 a2)))) υ 140 [(0, .ref (al 22))] [.int x9, .ref (al 22)] := by
    intro υ x9 s1 hR hF hX t7 t8 hs1
    refine mv_callVv (pc := 140) (n := 1) (ci := 6) (C := R_Exprs) B (mK_ok sk sv) hNs rfl rfl (c_Exprs_hold l hi _ _ hR.1 (by have := hX.1.2.2.1; omega) (by have := hX.1.2.2.1; omega)) rfl (ma_goodc kc_Exprs_hold) (B.2.2.2.1 _ k_1432) (B.2.2.2.1 _ k_1434) (B.2.2.2.1 _ ks_51) (B.2.2.2.1 _ k_7) ⟨by decide +kernel, by decide +kernel, by decide +kernel⟩ rfl d_Exprs_widen_140 rfl (Nat.le_of_ble_eq_true rfl) ⟨by decide, by decide⟩ ⟨by decide, by decide⟩ ⟨by decide, by decide⟩ (mv_noH hno _) (fun σ140 h140 => ?_)
    subst h140
    refine mv_gen (fun S143 eS143 => ?_)
    have hR : Rw 48 (mv_r S143) := by rw [eS143]; exact hR
    have hF : RF 48 σ S143 := by rw [eS143]; exact hF.hold _
    have hX : XM 48 th e0 bs BL f0 g0 ns S143 (ms) (sm wt ms + 1) (sm wr ms + 1) (s1) := by rw [eS143]; exact hX.hold hP (by omega) _
    have t7 : a + 1 ≤ (mv_i S143 3 7).toInt ∧ (mv_i S143 3 7).toInt < sz := by rw [eS143]; exact t7
    have t8 : (mv_i S143 3 8).toInt = (mv_i σ 3 8).toInt - 1 := by rw [eS143]; exact t8
    have hend : 0 ≤ (mv_i S143 3 9).toInt ∨ ∃ ms2 s2 a2, a < a2 ∧ XM 48 th e0 bs BL f0 g0 ns S143 (ms2) (sm wt ms2 + 1) (sm wr ms2 + 1) (s2) ∧ TI S143 sz bd ms2 s2 a2 := by
      by_cases hw : (mv_i S143 3 9).toInt < 0
      · exact Or.inr ⟨ms, s1, (mv_i S143 3 7).toInt.toNat, by omega, hX, by omega, hw, by omega, by omega, by omega, by omega, hWm.tail.up (by omega)⟩
      · exact Or.inl (by omega)
    clear eS143
    exact mv_vret (pc := 143) B hr d_Exprs_widen_143 (Nat.le_refl _) (Nat.le_refl _) ⟨rfl, hF, hX.1.2.2.2.1, hend⟩
  have j123 : ∀ (υ : mv_H) (fl : Int32) (wd9 : Int32) (wv : Int64) (s1 : Nat) (hR : Rw 48 (mv_r υ)) (hF : RF 48 σ υ) (hX : XM 48 th e0 bs BL f0 g0 ns υ (ms) (sm wt ms) (sm wr ms + 1) (s1)) (t7 : a + 1 ≤ (mv_i υ 3 7).toInt ∧ (mv_i υ 3 7).toInt < sz) (t8 : (mv_i υ 3 8).toInt = (mv_i σ 3 8).toInt - 1) (hs1 : s1 ≤ s0 + 1), mv_V p l e ({ frames := 3, cells := 0, slots := 0, locals := 63 }) s m ([.ref (al 22), .int k9] : List Value).toArray below meth c (mg dA D al ext) 7 0 0 (mv_Q (mg dA D al ext) below s 0 0 (mv_Rv (fun σ1 => RF 48 σ σ1 ∧ Mt (mv_a σ1 24) ∧ (0 ≤ (mv_i σ1 3 9).toInt ∨ ∃ ms2 s2 a2, a < a2 ∧ XM 48 th e0 bs BL f0 g0 ns σ1 (ms2) (sm wt ms2 + 1) (sm wr ms2 + 1) (s2) ∧ TI σ1 sz bd ms2 s2 a2)))) υ 123 [(6, .int fl), (4, .long wv), (3, .int wd9), (0, .ref (al 22))] [] := by
    intro υ fl wd9 wv s1 hR hF hX t7 t8 hs1
    refine mv_aload_n (pc := 123) B d_Exprs_widen_123 rfl 3 rfl ?_
    refine mv_iload (pc := 124) B d_Exprs_widen_124 0 rfl ?_
    refine mv_if_ne (pc := 126) (tgt := 133) B d_Exprs_widen_126 rfl (fun h126 => ?_) (fun h126 => ?_)
    · skip
      refine mv_iconst (pc := 133) (v := 0) B d_Exprs_widen_133 (by decide) ?_
      refine mv_goto (pc := 134) (tgt := 140) B d_Exprs_widen_134 rfl ?_
      refine mv_lpick [3] rfl ?_
      exact j140 _ _ _ hR hF hX t7 t8 hs1
    · skip
      refine mv_iload_n (pc := 129) B d_Exprs_widen_129 rfl 2 rfl ?_
      refine mv_if_ne (pc := 130) (tgt := 137) B d_Exprs_widen_130 rfl (fun h130 => ?_) (fun h130 => ?_)
      · skip
        refine mv_lload (pc := 137) B d_Exprs_widen_137 1 rfl ?_
        refine mv_l2i (pc := 139) B d_Exprs_widen_139 ?_
        refine mv_lpick [3] rfl ?_
        exact j140 _ _ _ hR hF hX t7 t8 hs1
      · skip
        refine mv_iconst (pc := 133) (v := 0) B d_Exprs_widen_133 (by decide) ?_
        refine mv_goto (pc := 134) (tgt := 140) B d_Exprs_widen_134 rfl ?_
        refine mv_lpick [3] rfl ?_
        exact j140 _ _ _ hR hF hX t7 t8 hs1
  have j97 : ∀ (υ : mv_H) (fl : Int32) (wd9 : Int32) (wv : Int64) (hR : Rw 48 (mv_r υ)) (hF : RF 48 σ υ) (hX : XM 48 th e0 bs BL f0 g0 ns υ (ms) (sm wt ms) (sm wr ms + 1) (s0)) (t7 : a + 1 ≤ (mv_i υ 3 7).toInt ∧ (mv_i υ 3 7).toInt < sz) (t8 : (mv_i υ 3 8).toInt = (mv_i σ 3 8).toInt - 1), mv_V p l e ({ frames := 3, cells := 0, slots := 0, locals := 63 }) s m ([.ref (al 22), .int k9] : List Value).toArray below meth c (mg dA D al ext) 7 0 0 (mv_Q (mg dA D al ext) below s 0 0 (mv_Rv (fun σ1 => RF 48 σ σ1 ∧ Mt (mv_a σ1 24) ∧ (0 ≤ (mv_i σ1 3 9).toInt ∨ ∃ ms2 s2 a2, a < a2 ∧ XM 48 th e0 bs BL f0 g0 ns σ1 (ms2) (sm wt ms2 + 1) (sm wr ms2 + 1) (s2) ∧ TI σ1 sz bd ms2 s2 a2)))) υ 97 [(6, .int fl), (4, .long wv), (3, .int wd9), (0, .ref (al 22)), (1, .int k9)] [] := by
    intro υ fl wd9 wv hR hF hX t7 t8
    refine mv_iload_n (pc := 97) B d_Exprs_widen_97 rfl 4 rfl ?_
    refine mv_sipush (pc := 98) (v := 211) B d_Exprs_widen_98 (by decide) ?_
    refine mv_icmp_ne (pc := 101) (tgt := 123) B d_Exprs_widen_101 rfl (fun h101 => ?_) (fun h101 => ?_)
    · skip
      have hs1 : s0 ≤ s0 + 1 := Nat.le_succ _
      refine mv_lpick [0, 1, 2, 3] rfl ?_
      exact j123 _ _ _ _ _ hR hF hX t7 t8 hs1
    · skip
      refine mv_aload_n (pc := 104) B d_Exprs_widen_104 rfl 3 rfl ?_
      refine mv_getR (pc := 105) (ci := 6) (C := R_Exprs) (T := F_Exprs) (N := 11) B 3 rfl rfl (by decide) i_Exprs (B.2.2.2.1 _ k_197) rfl hR.2.2.2 d_Exprs_widen_105 ?_
      refine mv_sipush (pc := 108) (v := 310) B d_Exprs_widen_108 (by decide) ?_
      refine mv_iload_n (pc := 111) B d_Exprs_widen_111 rfl 2 rfl ?_
      refine mv_i2l (pc := 112) B d_Exprs_widen_112 ?_
      refine mv_lload (pc := 113) B d_Exprs_widen_113 1 rfl ?_
      refine mv_bipush (pc := 115) (v := 8) B d_Exprs_widen_115 (by decide) ?_
      refine mv_lshl (pc := 117) B d_Exprs_widen_117 ?_
      refine mv_lor (pc := 118) B d_Exprs_widen_118 ?_
      refine mv_callVi (pc := 119) (n := 2) (ci := 7) (C := R_Program) B (mK_ok sk sv) hNs rfl rfl (c_Program_emit_b l hi _ _ _ hR.2.1 (by have := hX.2.1.1; omega) (by have := hX.2.1.1; omega)) rfl (ma_goodc kc_Program_emit) (B.2.2.2.1 _ k_1425) (B.2.2.2.1 _ k_1385) (B.2.2.2.1 _ k_1386) (B.2.2.2.1 _ k_8) ⟨by decide +kernel, by decide +kernel, by decide +kernel⟩ rfl d_Exprs_widen_119 rfl (Nat.le_of_ble_eq_true rfl) ⟨by decide, by decide⟩ ⟨by decide, by decide⟩ ⟨by decide, by decide⟩ (mv_noH hno _) (fun v119 σ119 h119 => ?_)
      obtain ⟨e119, -⟩ := h119
      subst e119
      refine mv_gen (fun S122 eS122 => ?_)
      have hR : Rw 48 (mv_r S122) := by rw [eS122]; exact hR
      have hF : RF 48 σ S122 := by rw [eS122]; exact hF.emit _ _
      have hX : XM 48 th e0 bs BL f0 g0 ns S122 (ms) (sm wt ms) (sm wr ms + 1) (s0 + 1) := by rw [eS122]; exact hX.emit0 hP (by omega) (sm wr ms + 1) (by decide) (by decide) (Op1_one (Or.inr rfl) th _ (bs + sm wr ms)) (by omega)
      have t7 : a + 1 ≤ (mv_i S122 3 7).toInt ∧ (mv_i S122 3 7).toInt < sz := by rw [eS122]; exact t7
      have t8 : (mv_i S122 3 8).toInt = (mv_i σ 3 8).toInt - 1 := by rw [eS122]; exact t8
      clear eS122
      have hs1 : s0 + 1 ≤ s0 + 1 := Nat.le_refl _
      refine mv_pop (pc := 122) B d_Exprs_widen_122 rfl ?_
      refine mv_lpick [0, 1, 2, 3] rfl ?_
      exact j123 _ _ _ _ _ hR hF hX t7 t8 hs1
  have j84 : ∀ (υ : mv_H) (fl : Int32) (wd9 : Int32) (wv : Int64) (tk2 : Int32) (hR : Rw 48 (mv_r υ)) (hF : RF 48 σ υ) (hX : XM 48 th e0 bs BL f0 g0 ns υ (ms) (sm wt ms) (sm wr ms + 1) (s0)) (t7 : a + 1 ≤ (mv_i υ 3 7).toInt ∧ (mv_i υ 3 7).toInt < sz) (t8 : (mv_i υ 3 8).toInt = (mv_i σ 3 8).toInt - 1) (b2 : 0 ≤ tk2.toInt ∧ tk2.toInt < sz), mv_V p l e ({ frames := 3, cells := 0, slots := 0, locals := 63 }) s m ([.ref (al 22), .int k9] : List Value).toArray below meth c (mg dA D al ext) 7 0 0 (mv_Q (mg dA D al ext) below s 0 0 (mv_Rv (fun σ1 => RF 48 σ σ1 ∧ Mt (mv_a σ1 24) ∧ (0 ≤ (mv_i σ1 3 9).toInt ∨ ∃ ms2 s2 a2, a < a2 ∧ XM 48 th e0 bs BL f0 g0 ns σ1 (ms2) (sm wt ms2 + 1) (sm wr ms2 + 1) (s2) ∧ TI σ1 sz bd ms2 s2 a2)))) υ 84 [(4, .long wv), (3, .int wd9), (2, .int tk2), (0, .ref (al 22)), (1, .int k9)] [.int fl] := by
    intro υ fl wd9 wv tk2 hR hF hX t7 t8 b2
    refine mv_istore (pc := 84) B d_Exprs_widen_84 (by decide) rfl ?_
    refine mv_iload (pc := 86) B d_Exprs_widen_86 0 rfl ?_
    refine mv_if_eq (pc := 88) (tgt := 97) B d_Exprs_widen_88 rfl (fun h88 => ?_) (fun h88 => ?_)
    · skip
      refine mv_lpick [0, 1, 2, 4, 5] rfl ?_
      exact j97 _ _ _ _ hR hF hX t7 t8
    · skip
      refine mv_aload_n (pc := 91) B d_Exprs_widen_91 rfl 4 rfl ?_
      refine mv_iload_n (pc := 92) B d_Exprs_widen_92 rfl 3 rfl ?_
      refine mv_iconst (pc := 93) (v := 3) B d_Exprs_widen_93 (by decide) ?_
      refine mv_callVv (pc := 94) (n := 2) (ci := 6) (C := R_Exprs) B (mK_ok sk sv) hNs rfl rfl (c_Exprs_tell l hi _ _ _ hR.1 b2.1 (by omega) (by decide)) rfl (ma_goodc kc_Exprs_tell) (B.2.2.2.1 _ k_1427) (B.2.2.2.1 _ k_1429) (B.2.2.2.1 _ ks_50) (B.2.2.2.1 _ k_7) ⟨by decide +kernel, by decide +kernel, by decide +kernel⟩ rfl d_Exprs_widen_94 rfl (Nat.le_of_ble_eq_true rfl) ⟨by decide, by decide⟩ ⟨by decide, by decide⟩ ⟨by decide, by decide⟩ (mv_noH hno _) (fun σ94 h94 => ?_)
      obtain ⟨x9, y9, e94, z94⟩ := h94
      subst e94
      refine mv_gen (fun S97 eS97 => ?_)
      have hR : Rw 48 (mv_r S97) := by rw [eS97]; exact hR
      have hF : RF 48 σ S97 := by rw [eS97]; exact hF.tell _ _
      have hX : XM 48 th e0 bs BL f0 g0 ns S97 (ms) (sm wt ms) (sm wr ms + 1) (s0) := by rw [eS97]; exact hX.tell hP z94 _ _
      have t7 : a + 1 ≤ (mv_i S97 3 7).toInt ∧ (mv_i S97 3 7).toInt < sz := by rw [eS97]; exact t7
      have t8 : (mv_i S97 3 8).toInt = (mv_i σ 3 8).toInt - 1 := by rw [eS97]; exact t8
      clear eS97
      refine mv_lpick [0, 1, 2, 4, 5] rfl ?_
      exact j97 _ _ _ _ hR hF hX t7 t8
  refine mv_aload_n (pc := 0) B d_Exprs_widen_0 rfl 0 rfl ?_
  refine mv_getR (pc := 1) (ci := 6) (C := R_Exprs) (T := F_Exprs) (N := 11) B 0 rfl rfl (by decide) i_Exprs (B.2.2.2.1 _ k_193) rfl (hR.1 _ 0 _ rfl) d_Exprs_widen_1 ?_
  refine mv_bipush (pc := 4) (v := 44) B d_Exprs_widen_4 (by decide) ?_
  refine mv_callVi (pc := 6) (n := 1) (ci := 2) (C := R_Tokens) B (mK_ok sk sv) hNs rfl rfl (c_Tokens_takeN l hi _ _ hR.1 (hB0.rf hF hP ht2).2.1 (by omega) (by omega) (by decide)) rfl (ma_goodc kc_Tokens_take) (B.2.2.2.1 _ k_1424) (B.2.2.2.1 _ k_1267) (B.2.2.2.1 _ k_1268) (B.2.2.2.1 _ k_3) ⟨by decide +kernel, by decide +kernel, by decide +kernel⟩ rfl d_Exprs_widen_6 rfl (Nat.le_of_ble_eq_true rfl) ⟨by decide, by decide⟩ ⟨by decide, by decide⟩ ⟨by decide, by decide⟩ (mv_noH hno _) (fun v6 σ6 h6 => ?_)
  obtain ⟨a6, w6, e6, r6⟩ := h6
  have q6 := r6.1
  have z6 := fun q => (r6.2.1 q).1
  have y6 := And.intro r6.2.2.2.1 r6.2.2.2.2.1
  subst e6
  have hw6 := r6.2.2.1 hw9 hk3 trivial
  refine mv_gen (fun S9 eS9 => ?_)
  have hR : Rw 48 (mv_r S9) := by rw [eS9]; exact hR
  have hF : RF 48 σ S9 := by rw [eS9]; exact hF.tk3 _ _ _
  have hX : XM 48 th e0 bs BL f0 g0 ns S9 (((k9, w8) : Mk) :: ms) (sm wt ms + 1) (sm wr ms + 1) (s0) := by rw [eS9]; exact hX.tk3 hP _ _ _
  have t7 : (mv_i S9 3 7).toInt = a6.toInt := by rw [eS9]; rfl
  have t8 : (mv_i S9 3 8).toInt = (mv_i σ 3 8).toInt := by rw [eS9]; first | exact t8 | exact (sub_one (by omega)).trans (by omega) | exact (i32_inc (by omega)).trans (by omega)
  have t9 : (mv_i S9 3 9).toInt = w6.toInt := by rw [eS9]; rfl
  have kS9 : mv_a S9 4 = mv_a σ 4 := by rw [eS9]; first | rfl | exact kp
  have kp := kS9
  clear eS9
  refine mv_pop (pc := 9) B d_Exprs_widen_9 rfl ?_
  refine mv_aload_n (pc := 10) B d_Exprs_widen_10 rfl 0 rfl ?_
  refine mv_getR (pc := 11) (ci := 6) (C := R_Exprs) (T := F_Exprs) (N := 11) B 0 rfl rfl (by decide) i_Exprs (B.2.2.2.1 _ k_193) rfl (hR.1 _ 0 _ rfl) d_Exprs_widen_11 ?_
  refine mv_iconst (pc := 14) (v := 4) B d_Exprs_widen_14 (by decide) ?_
  refine mv_callVi (pc := 15) (n := 1) (ci := 2) (C := R_Tokens) B (mK_ok sk sv) hNs rfl rfl (c_Tokens_takeN l hi _ _ hR.1 (hB0.rf hF hP ht2).2.1 (by omega) (by omega) (by decide)) rfl (ma_goodc kc_Tokens_take) (B.2.2.2.1 _ k_1424) (B.2.2.2.1 _ k_1267) (B.2.2.2.1 _ k_1268) (B.2.2.2.1 _ k_3) ⟨by decide +kernel, by decide +kernel, by decide +kernel⟩ rfl d_Exprs_widen_15 rfl (Nat.le_of_ble_eq_true rfl) ⟨by decide, by decide⟩ ⟨by decide, by decide⟩ ⟨by decide, by decide⟩ (mv_noH hno _) (fun v15 σ15 h15 => ?_)
  obtain ⟨a15, w15, e15, r15⟩ := h15
  have q15 := r15.1
  have z15 := fun q => (r15.2.1 q).1
  have y15 := And.intro r15.2.2.2.1 r15.2.2.2.2.1
  subst e15
  refine mv_gen (fun S18 eS18 => ?_)
  have hR : Rw 48 (mv_r S18) := by rw [eS18]; exact hR
  have hF : RF 48 σ S18 := by rw [eS18]; exact hF.tk3 _ _ _
  have hX : XM 48 th e0 bs BL f0 g0 ns S18 (((k9, w8) : Mk) :: ms) (sm wt ms + 1) (sm wr ms + 1) (s0) := by rw [eS18]; exact hX.tk3 hP _ _ _
  have t7 : (mv_i S18 3 7).toInt = a15.toInt := by rw [eS18]; rfl
  have t8 : (mv_i S18 3 8).toInt = (mv_i σ 3 8).toInt := by rw [eS18]; first | exact t8 | exact (sub_one (by omega)).trans (by omega) | exact (i32_inc (by omega)).trans (by omega)
  have t9 : (mv_i S18 3 9).toInt = w15.toInt := by rw [eS18]; rfl
  have kS18 : mv_a S18 4 = mv_a σ 4 := by rw [eS18]; first | rfl | exact kp
  have kp := kS18
  clear eS18
  refine mv_istore_n (pc := 18) B d_Exprs_widen_18 rfl (by decide) rfl ?_
  refine mv_aload_n (pc := 19) B d_Exprs_widen_19 rfl 1 rfl ?_
  refine mv_getR (pc := 20) (ci := 6) (C := R_Exprs) (T := F_Exprs) (N := 11) B 0 rfl rfl (by decide) i_Exprs (B.2.2.2.1 _ k_193) rfl (hR.1 _ 0 _ rfl) d_Exprs_widen_20 ?_
  refine mv_bipush (pc := 23) (v := 41) B d_Exprs_widen_23 (by decide) ?_
  refine mv_callVi (pc := 25) (n := 1) (ci := 2) (C := R_Tokens) B (mK_ok sk sv) hNs rfl rfl (c_Tokens_closeN l hi _ _ hR.1 (hB0.rf hF hP ht2).2.1 (by omega) (by omega) (by decide)) rfl (ma_goodc kc_Tokens_close) (B.2.2.2.1 _ k_1468) (B.2.2.2.1 _ k_1397) (B.2.2.2.1 _ k_1398) (B.2.2.2.1 _ k_3) ⟨by decide +kernel, by decide +kernel, by decide +kernel⟩ rfl d_Exprs_widen_25 rfl (Nat.le_of_ble_eq_true rfl) ⟨by decide, by decide⟩ ⟨by decide, by decide⟩ ⟨by decide, by decide⟩ (mv_noH hno _) (fun v25 σ25 h25 => ?_)
  obtain ⟨a25, w25, e25, r25⟩ := h25
  have q25 := r25.1
  have z25 := fun q => (r25.2.1 q).1
  have y25 := And.intro r25.2.2.2.1 r25.2.2.2.2.1
  subst e25
  refine mv_gen (fun S28 eS28 => ?_)
  have hR : Rw 48 (mv_r S28) := by rw [eS28]; exact hR
  have hF : RF 48 σ S28 := by rw [eS28]; exact hF.tk3 _ _ _
  have hX : XM 48 th e0 bs BL f0 g0 ns S28 (((k9, w8) : Mk) :: ms) (sm wt ms + 1) (sm wr ms + 1) (s0) := by rw [eS28]; exact hX.tk3 hP _ _ _
  have t7 : (mv_i S28 3 7).toInt = a25.toInt := by rw [eS28]; rfl
  have t8 : (mv_i S28 3 8).toInt = (mv_i σ 3 8).toInt - 1 := by rw [eS28]; first | exact t8 | exact (sub_one (by omega)).trans (by omega) | exact (i32_inc (by omega)).trans (by omega)
  have t9 : (mv_i S28 3 9).toInt = w25.toInt := by rw [eS28]; rfl
  have kS28 : mv_a S28 4 = mv_a σ 4 := by rw [eS28]; first | rfl | exact kp
  have kp := kS28
  have t7 : a + 1 ≤ (mv_i S28 3 7).toInt ∧ (mv_i S28 3 7).toInt < sz := by omega
  clear eS28
  refine mv_pop (pc := 28) B d_Exprs_widen_28 rfl ?_
  refine mv_aload_n (pc := 29) B d_Exprs_widen_29 rfl 1 rfl ?_
  refine mv_dup (pc := 30) B d_Exprs_widen_30 rfl ?_
  refine mv_getI (pc := 31) (ci := 6) (C := R_Exprs) (T := F_Exprs) (N := 11) B 8 rfl rfl (by decide) i_Exprs (B.2.2.2.1 _ k_202) rfl d_Exprs_widen_31 ?_
  refine mv_iconst (pc := 34) (v := 1) B d_Exprs_widen_34 (by decide) ?_
  refine mv_isub (pc := 35) B d_Exprs_widen_35 ?_
  refine mv_putI (pc := 36) (ci := 6) (C := R_Exprs) (T := F_Exprs) (N := 11) B 8 rfl rfl (by decide) i_Exprs t_Exprs_ok n_Exprs (B.2.2.2.1 _ k_202) rfl rfl rfl rfl d_Exprs_widen_36 ?_
  refine mv_gen (fun S39 eS39 => ?_)
  have hR : Rw 48 (mv_r S39) := by rw [eS39]; exact hR
  have hF : RF 48 σ S39 := by rw [eS39]; exact hF.pop
  have hX : XM 48 th e0 bs BL f0 g0 ns S39 (ms) (sm wt ms + 1) (sm wr ms + 1) (s0) := by rw [eS39]; exact hX.pop hP hkp
  have t7 : a + 1 ≤ (mv_i S39 3 7).toInt ∧ (mv_i S39 3 7).toInt < sz := by rw [eS39]; exact t7
  have t8 : (mv_i S39 3 8).toInt = (mv_i σ 3 8).toInt - 1 := by rw [eS39]; exact t8
  clear eS39
  refine mv_aload_n (pc := 39) B d_Exprs_widen_39 rfl 1 rfl ?_
  refine mv_callVi (pc := 40) (n := 0) (ci := 6) (C := R_Exprs) B (mK_ok sk sv) hNs rfl rfl (c_Exprs_release l hi _ hR.1 (by have := hX.1.2.2.1; omega) (by have := hX.1.2.2.1; omega)) rfl (ma_goodc kc_Exprs_release) (B.2.2.2.1 _ k_1469) (B.2.2.2.1 _ k_1470) (B.2.2.2.1 _ k_1471) (B.2.2.2.1 _ k_7) ⟨by decide +kernel, by decide +kernel, by decide +kernel⟩ rfl d_Exprs_widen_40 rfl (Nat.le_of_ble_eq_true rfl) ⟨by decide, by decide⟩ ⟨by decide, by decide⟩ ⟨by decide, by decide⟩ (mv_noH hno _) (fun v40 σ40 h40 => ?_)
  subst h40
  refine mv_gen (fun S43 eS43 => ?_)
  have hR : Rw 48 (mv_r S43) := by rw [eS43]; exact hR
  have hF : RF 48 σ S43 := by rw [eS43]; exact hF.rel
  have hX : XM 48 th e0 bs BL f0 g0 ns S43 (ms) (sm wt ms) (sm wr ms + 1) (s0) := by rw [eS43]; exact hX.rel hP
  have t7 : a + 1 ≤ (mv_i S43 3 7).toInt ∧ (mv_i S43 3 7).toInt < sz := by rw [eS43]; exact t7
  have t8 : (mv_i S43 3 8).toInt = (mv_i σ 3 8).toInt - 1 := by rw [eS43]; exact t8
  clear eS43
  refine mv_istore_n (pc := 43) B d_Exprs_widen_43 rfl (by decide) rfl ?_
  refine mv_aload_n (pc := 44) B d_Exprs_widen_44 rfl 2 rfl ?_
  refine mv_getR (pc := 45) (ci := 6) (C := R_Exprs) (T := F_Exprs) (N := 11) B 0 rfl rfl (by decide) i_Exprs (B.2.2.2.1 _ k_193) rfl (hR.1 _ 0 _ rfl) d_Exprs_widen_45 ?_
  refine mv_getR (pc := 48) (ci := 2) (C := R_Tokens) (T := F_Tokens) (N := 10) B 2 rfl rfl (by decide) i_Tokens (B.2.2.2.1 _ k_95) rfl (hR.1 _ 2 _ rfl) d_Exprs_widen_48 ?_
  refine mv_iload_n (pc := 51) B d_Exprs_widen_51 rfl 1 rfl ?_
  refine mv_lald (pc := 52) B rfl (i32_in y15.1 (by omega)) d_Exprs_widen_52 ?_
  refine mv_lstore (pc := 53) B d_Exprs_widen_53 (by decide) rfl ?_
  refine mv_lload (pc := 55) B d_Exprs_widen_55 0 rfl ?_
  refine mv_lconst (pc := 57) (v := 1) B d_Exprs_widen_57 (by decide) ?_
  refine mv_lcmp (pc := 58) B d_Exprs_widen_58 ?_
  refine mv_if_lt (pc := 59) (tgt := 79) B d_Exprs_widen_59 rfl (fun h59 => ?_) (fun h59 => ?_)
  · skip
    refine mv_iconst (pc := 79) (v := 1) B d_Exprs_widen_79 (by decide) ?_
    refine mv_goto (pc := 80) (tgt := 84) B d_Exprs_widen_80 rfl ?_
    refine mv_lpick [0, 1, 2, 3, 4] rfl ?_
    exact j84 _ _ _ _ _ hR hF hX t7 t8 y15
  · skip
    refine mv_lload (pc := 62) B d_Exprs_widen_62 0 rfl ?_
    refine mv_iload_n (pc := 64) B d_Exprs_widen_64 rfl 1 rfl ?_
    refine mv_i2l (pc := 65) B d_Exprs_widen_65 ?_
    refine mv_lcmp (pc := 66) B d_Exprs_widen_66 ?_
    refine mv_if_lt (pc := 67) (tgt := 79) B d_Exprs_widen_67 rfl (fun h67 => ?_) (fun h67 => ?_)
    · skip
      refine mv_iconst (pc := 79) (v := 1) B d_Exprs_widen_79 (by decide) ?_
      refine mv_goto (pc := 80) (tgt := 84) B d_Exprs_widen_80 rfl ?_
      refine mv_lpick [0, 1, 2, 3, 4] rfl ?_
      exact j84 _ _ _ _ _ hR hF hX t7 t8 y15
    · skip
      refine mv_lload (pc := 70) B d_Exprs_widen_70 0 rfl ?_
      refine mv_ldc2 (pc := 72) (v := 64) B (B.2.2.2.1 _ k_1426) d_Exprs_widen_72 ?_
      refine mv_lcmp (pc := 75) B d_Exprs_widen_75 ?_
      refine mv_if_le (pc := 76) (tgt := 83) B d_Exprs_widen_76 rfl (fun h76 => ?_) (fun h76 => ?_)
      · skip
        refine mv_iconst (pc := 83) (v := 0) B d_Exprs_widen_83 (by decide) ?_
        refine mv_lpick [0, 1, 2, 3, 4] rfl ?_
        exact j84 _ _ _ _ _ hR hF hX t7 t8 y15
      · skip
        refine mv_iconst (pc := 79) (v := 1) B d_Exprs_widen_79 (by decide) ?_
        refine mv_goto (pc := 80) (tgt := 84) B d_Exprs_widen_80 rfl ?_
        refine mv_lpick [0, 1, 2, 3, 4] rfl ?_
        exact j84 _ _ _ _ _ hR hF hX t7 t8 y15
set_option maxHeartbeats 4000000 in
set_option maxRecDepth 100000 in
theorem c_Exprs_widen_c (l : Launch) {dA : FieldType → ClassId} {D : va_G} {al : Nat → Nat} {sk sv : Nat → Nat} (hi : mv_inj (mg dA D al me)) (σ : mv_H) (k9 w8 : Int32) {t len n z sz th sl e0 bs ns : Nat} {BL : (Nat → Nat) → Prop} {f0 : Nat → Int32} {g0 : Nat → Int64} {ms : List Mk} {s0 bd a : Nat} (hB0 : SB 145 σ t len n z sz th sl) (ht2 : t = 1 ∨ t = 144) (hX : XM 145 th e0 bs BL f0 g0 ns σ (((k9, w8) : Mk) :: ms) (sm wt (((k9, w8) : Mk) :: ms) + 1) (sm wr (((k9, w8) : Mk) :: ms) + 1) (s0)) (hI : TI σ sz bd (((k9, w8) : Mk) :: ms) s0 a) (hlen : len ≤ 8192) (hbs : bs ≤ 1) (hk3 : mv_a σ 4 (mv_i σ 3 7).toNatClampNeg = 44) (hkk : k9 = 211 ∨ k9 = 212) : mv_C l y_Exprs_widen (Cond.code y_Exprs_widen b_Exprs_widen 7 (Option.none : Option Jvm.ClassFile.FieldType) :: ma) ({ frames := 3, cells := 0, slots := 0, locals := 63 }) (mg dA D al me) (mK sk sv) [.ref (al 22), .int k9] σ (mv_Rv (fun σ1 => RF 145 σ σ1 ∧ Mt (mv_a σ1 24) ∧ (0 ≤ (mv_i σ1 3 9).toInt ∨ ∃ ms2 s2 a2, a < a2 ∧ XM 145 th e0 bs BL f0 g0 ns σ1 (ms2) (sm wt ms2 + 1) (sm wr ms2 + 1) (s2) ∧ TI σ1 sz bd ms2 s2 a2))) := by
  refine mv_C.ofV (cc := b_Exprs_widen) (nL := 7) (ret := (Option.none : Option Jvm.ClassFile.FieldType)) (by decide +kernel) rfl hi (Nat.le_of_ble_eq_true rfl) ?_
  intro p e s m below meth c B hNs hr hnm hno
  have hP : PQ 145 := by unfold PQ; omega
  have hR := hB0.1
  have hF : RF 145 σ σ := RF0
  have hT : mv_i σ 3 = mv_i σ 3 := rfl
  have hsz := hB0.2.1.2.2.2.2.2
  have hsz2 := hB0.2.1.2.2.2.1
  have hI5 := hI.2.2.2.2.1
  have ha9 := hI.2.2.2.2.2.1
  have pl := hI.len hX
  have hm8 := hX.1.1
  have t7 := hI.1
  have hw9 := hI.2.1
  have t9 : (mv_i σ 3 9).toInt = (mv_i σ 3 9).toInt := rfl
  have hd8 := hI.2.2.1
  have hd9 := hI.2.2.2.1
  have hWm := hI.2.2.2.2.2.2
  have kp : mv_a σ 4 = mv_a σ 4 := rfl
  have t8 : (mv_i σ 3 8).toInt = (mv_i σ 3 8).toInt := rfl
  have g1 : sm wt (((k9, w8) : Mk) :: ms) = wt (k9, w8) + sm wt ms := rfl
  have g2 : sm wr (((k9, w8) : Mk) :: ms) = wr (k9, w8) + sm wr ms := rfl
  have g3 : sm wd (((k9, w8) : Mk) :: ms) = wd (k9, w8) + sm wd ms := rfl
  have g4 : sm wc (((k9, w8) : Mk) :: ms) = wc (k9, w8) + sm wc ms := rfl
  have gl : ((((k9, w8)) : Mk) :: ms).length = ms.length + 1 := rfl
  have hkw : wt (k9, w8) = 0 ∧ wr (k9, w8) = 0 ∧ wd (k9, w8) = 1 ∧ wc (k9, w8) = 0 := by rcases hkk with rfl | rfl <;> exact ⟨rfl, rfl, rfl, rfl⟩
  have hkp : ¬ ((k9, w8) : Mk).1 = 63 ∧ ¬ ((k9, w8) : Mk).1 = 58 := show ¬ k9 = 63 ∧ ¬ k9 = 58 by rcases hkk with rfl | rfl <;> decide
  rw [g1, g2, hkw.1, hkw.2.1, Nat.zero_add, Nat.zero_add] at hX
  have j140 : ∀ (υ : mv_H) (x9 : Int32) (s1 : Nat) (hR : Rw 145 (mv_r υ)) (hF : RF 145 σ υ) (hX : XM 145 th e0 bs BL f0 g0 ns υ (ms) (sm wt ms) (sm wr ms + 1) (s1)) (t7 : a + 1 ≤ (mv_i υ 3 7).toInt ∧ (mv_i υ 3 7).toInt < sz) (t8 : (mv_i υ 3 8).toInt = (mv_i σ 3 8).toInt - 1) (hs1 : s1 ≤ s0 + 1), mv_V p l e ({ frames := 3, cells := 0, slots := 0, locals := 63 }) s m ([.ref (al 22), .int k9] : List Value).toArray below meth c (mg dA D al me) 7 0 0 (mv_Q (mg dA D al me) below s 0 0 (mv_Rv (fun σ1 => RF 145 σ σ1 ∧ Mt (mv_a σ1 24) ∧ (0 ≤ (mv_i σ1 3 9).toInt ∨ ∃ ms2 s2 a2, a < a2 ∧ XM 145 th e0 bs BL f0 g0 ns σ1 (ms2) (sm wt ms2 + 1) (sm wr ms2 + 1) (s2) ∧ TI σ1 sz bd ms2 s2 a2)))) υ 140 [(0, .ref (al 22))] [.int x9, .ref (al 22)] := by
    intro υ x9 s1 hR hF hX t7 t8 hs1
    refine mv_callVv (pc := 140) (n := 1) (ci := 6) (C := R_Exprs) B (mK_ok sk sv) hNs rfl rfl (c_Exprs_hold l hi _ _ hR.1 (by have := hX.1.2.2.1; omega) (by have := hX.1.2.2.1; omega)) rfl (ma_goodc kc_Exprs_hold) (B.2.2.2.1 _ k_1432) (B.2.2.2.1 _ k_1434) (B.2.2.2.1 _ ks_51) (B.2.2.2.1 _ k_7) ⟨by decide +kernel, by decide +kernel, by decide +kernel⟩ rfl d_Exprs_widen_140 rfl (Nat.le_of_ble_eq_true rfl) ⟨by decide, by decide⟩ ⟨by decide, by decide⟩ ⟨by decide, by decide⟩ (mv_noH hno _) (fun σ140 h140 => ?_)
    subst h140
    refine mv_gen (fun S143 eS143 => ?_)
    have hR : Rw 145 (mv_r S143) := by rw [eS143]; exact hR
    have hF : RF 145 σ S143 := by rw [eS143]; exact hF.hold _
    have hX : XM 145 th e0 bs BL f0 g0 ns S143 (ms) (sm wt ms + 1) (sm wr ms + 1) (s1) := by rw [eS143]; exact hX.hold hP (by omega) _
    have t7 : a + 1 ≤ (mv_i S143 3 7).toInt ∧ (mv_i S143 3 7).toInt < sz := by rw [eS143]; exact t7
    have t8 : (mv_i S143 3 8).toInt = (mv_i σ 3 8).toInt - 1 := by rw [eS143]; exact t8
    have hend : 0 ≤ (mv_i S143 3 9).toInt ∨ ∃ ms2 s2 a2, a < a2 ∧ XM 145 th e0 bs BL f0 g0 ns S143 (ms2) (sm wt ms2 + 1) (sm wr ms2 + 1) (s2) ∧ TI S143 sz bd ms2 s2 a2 := by
      by_cases hw : (mv_i S143 3 9).toInt < 0
      · exact Or.inr ⟨ms, s1, (mv_i S143 3 7).toInt.toNat, by omega, hX, by omega, hw, by omega, by omega, by omega, by omega, hWm.tail.up (by omega)⟩
      · exact Or.inl (by omega)
    clear eS143
    exact mv_vret (pc := 143) B hr d_Exprs_widen_143 (Nat.le_refl _) (Nat.le_refl _) ⟨rfl, hF, hX.1.2.2.2.1, hend⟩
  have j123 : ∀ (υ : mv_H) (fl : Int32) (wd9 : Int32) (wv : Int64) (s1 : Nat) (hR : Rw 145 (mv_r υ)) (hF : RF 145 σ υ) (hX : XM 145 th e0 bs BL f0 g0 ns υ (ms) (sm wt ms) (sm wr ms + 1) (s1)) (t7 : a + 1 ≤ (mv_i υ 3 7).toInt ∧ (mv_i υ 3 7).toInt < sz) (t8 : (mv_i υ 3 8).toInt = (mv_i σ 3 8).toInt - 1) (hs1 : s1 ≤ s0 + 1), mv_V p l e ({ frames := 3, cells := 0, slots := 0, locals := 63 }) s m ([.ref (al 22), .int k9] : List Value).toArray below meth c (mg dA D al me) 7 0 0 (mv_Q (mg dA D al me) below s 0 0 (mv_Rv (fun σ1 => RF 145 σ σ1 ∧ Mt (mv_a σ1 24) ∧ (0 ≤ (mv_i σ1 3 9).toInt ∨ ∃ ms2 s2 a2, a < a2 ∧ XM 145 th e0 bs BL f0 g0 ns σ1 (ms2) (sm wt ms2 + 1) (sm wr ms2 + 1) (s2) ∧ TI σ1 sz bd ms2 s2 a2)))) υ 123 [(6, .int fl), (4, .long wv), (3, .int wd9), (0, .ref (al 22))] [] := by
    intro υ fl wd9 wv s1 hR hF hX t7 t8 hs1
    refine mv_aload_n (pc := 123) B d_Exprs_widen_123 rfl 3 rfl ?_
    refine mv_iload (pc := 124) B d_Exprs_widen_124 0 rfl ?_
    refine mv_if_ne (pc := 126) (tgt := 133) B d_Exprs_widen_126 rfl (fun h126 => ?_) (fun h126 => ?_)
    · skip
      refine mv_iconst (pc := 133) (v := 0) B d_Exprs_widen_133 (by decide) ?_
      refine mv_goto (pc := 134) (tgt := 140) B d_Exprs_widen_134 rfl ?_
      refine mv_lpick [3] rfl ?_
      exact j140 _ _ _ hR hF hX t7 t8 hs1
    · skip
      refine mv_iload_n (pc := 129) B d_Exprs_widen_129 rfl 2 rfl ?_
      refine mv_if_ne (pc := 130) (tgt := 137) B d_Exprs_widen_130 rfl (fun h130 => ?_) (fun h130 => ?_)
      · skip
        refine mv_lload (pc := 137) B d_Exprs_widen_137 1 rfl ?_
        refine mv_l2i (pc := 139) B d_Exprs_widen_139 ?_
        refine mv_lpick [3] rfl ?_
        exact j140 _ _ _ hR hF hX t7 t8 hs1
      · skip
        refine mv_iconst (pc := 133) (v := 0) B d_Exprs_widen_133 (by decide) ?_
        refine mv_goto (pc := 134) (tgt := 140) B d_Exprs_widen_134 rfl ?_
        refine mv_lpick [3] rfl ?_
        exact j140 _ _ _ hR hF hX t7 t8 hs1
  have j97 : ∀ (υ : mv_H) (fl : Int32) (wd9 : Int32) (wv : Int64) (hR : Rw 145 (mv_r υ)) (hF : RF 145 σ υ) (hX : XM 145 th e0 bs BL f0 g0 ns υ (ms) (sm wt ms) (sm wr ms + 1) (s0)) (t7 : a + 1 ≤ (mv_i υ 3 7).toInt ∧ (mv_i υ 3 7).toInt < sz) (t8 : (mv_i υ 3 8).toInt = (mv_i σ 3 8).toInt - 1), mv_V p l e ({ frames := 3, cells := 0, slots := 0, locals := 63 }) s m ([.ref (al 22), .int k9] : List Value).toArray below meth c (mg dA D al me) 7 0 0 (mv_Q (mg dA D al me) below s 0 0 (mv_Rv (fun σ1 => RF 145 σ σ1 ∧ Mt (mv_a σ1 24) ∧ (0 ≤ (mv_i σ1 3 9).toInt ∨ ∃ ms2 s2 a2, a < a2 ∧ XM 145 th e0 bs BL f0 g0 ns σ1 (ms2) (sm wt ms2 + 1) (sm wr ms2 + 1) (s2) ∧ TI σ1 sz bd ms2 s2 a2)))) υ 97 [(6, .int fl), (4, .long wv), (3, .int wd9), (0, .ref (al 22)), (1, .int k9)] [] := by
    intro υ fl wd9 wv hR hF hX t7 t8
    refine mv_iload_n (pc := 97) B d_Exprs_widen_97 rfl 4 rfl ?_
    refine mv_sipush (pc := 98) (v := 211) B d_Exprs_widen_98 (by decide) ?_
    refine mv_icmp_ne (pc := 101) (tgt := 123) B d_Exprs_widen_101 rfl (fun h101 => ?_) (fun h101 => ?_)
    · skip
      have hs1 : s0 ≤ s0 + 1 := Nat.le_succ _
      refine mv_lpick [0, 1, 2, 3] rfl ?_
      exact j123 _ _ _ _ _ hR hF hX t7 t8 hs1
    · skip
      refine mv_aload_n (pc := 104) B d_Exprs_widen_104 rfl 3 rfl ?_
      refine mv_getR (pc := 105) (ci := 6) (C := R_Exprs) (T := F_Exprs) (N := 11) B 3 rfl rfl (by decide) i_Exprs (B.2.2.2.1 _ k_197) rfl hR.2.2.2 d_Exprs_widen_105 ?_
      refine mv_sipush (pc := 108) (v := 310) B d_Exprs_widen_108 (by decide) ?_
      refine mv_iload_n (pc := 111) B d_Exprs_widen_111 rfl 2 rfl ?_
      refine mv_i2l (pc := 112) B d_Exprs_widen_112 ?_
      refine mv_lload (pc := 113) B d_Exprs_widen_113 1 rfl ?_
      refine mv_bipush (pc := 115) (v := 8) B d_Exprs_widen_115 (by decide) ?_
      refine mv_lshl (pc := 117) B d_Exprs_widen_117 ?_
      refine mv_lor (pc := 118) B d_Exprs_widen_118 ?_
      refine mv_callVi (pc := 119) (n := 2) (ci := 7) (C := R_Program) B (mK_ok sk sv) hNs rfl rfl (c_Program_emit_c l hi _ _ _ hR.2.1 (by have := hX.2.1.1; omega) (by have := hX.2.1.1; omega)) rfl (ma_goodc kc_Program_emit) (B.2.2.2.1 _ k_1425) (B.2.2.2.1 _ k_1385) (B.2.2.2.1 _ k_1386) (B.2.2.2.1 _ k_8) ⟨by decide +kernel, by decide +kernel, by decide +kernel⟩ rfl d_Exprs_widen_119 rfl (Nat.le_of_ble_eq_true rfl) ⟨by decide, by decide⟩ ⟨by decide, by decide⟩ ⟨by decide, by decide⟩ (mv_noH hno _) (fun v119 σ119 h119 => ?_)
      obtain ⟨e119, -⟩ := h119
      subst e119
      refine mv_gen (fun S122 eS122 => ?_)
      have hR : Rw 145 (mv_r S122) := by rw [eS122]; exact hR
      have hF : RF 145 σ S122 := by rw [eS122]; exact hF.emit _ _
      have hX : XM 145 th e0 bs BL f0 g0 ns S122 (ms) (sm wt ms) (sm wr ms + 1) (s0 + 1) := by rw [eS122]; exact hX.emit0 hP (by omega) (sm wr ms + 1) (by decide) (by decide) (Op1_one (Or.inr rfl) th _ (bs + sm wr ms)) (by omega)
      have t7 : a + 1 ≤ (mv_i S122 3 7).toInt ∧ (mv_i S122 3 7).toInt < sz := by rw [eS122]; exact t7
      have t8 : (mv_i S122 3 8).toInt = (mv_i σ 3 8).toInt - 1 := by rw [eS122]; exact t8
      clear eS122
      have hs1 : s0 + 1 ≤ s0 + 1 := Nat.le_refl _
      refine mv_pop (pc := 122) B d_Exprs_widen_122 rfl ?_
      refine mv_lpick [0, 1, 2, 3] rfl ?_
      exact j123 _ _ _ _ _ hR hF hX t7 t8 hs1
  have j84 : ∀ (υ : mv_H) (fl : Int32) (wd9 : Int32) (wv : Int64) (tk2 : Int32) (hR : Rw 145 (mv_r υ)) (hF : RF 145 σ υ) (hX : XM 145 th e0 bs BL f0 g0 ns υ (ms) (sm wt ms) (sm wr ms + 1) (s0)) (t7 : a + 1 ≤ (mv_i υ 3 7).toInt ∧ (mv_i υ 3 7).toInt < sz) (t8 : (mv_i υ 3 8).toInt = (mv_i σ 3 8).toInt - 1) (b2 : 0 ≤ tk2.toInt ∧ tk2.toInt < sz), mv_V p l e ({ frames := 3, cells := 0, slots := 0, locals := 63 }) s m ([.ref (al 22), .int k9] : List Value).toArray below meth c (mg dA D al me) 7 0 0 (mv_Q (mg dA D al me) below s 0 0 (mv_Rv (fun σ1 => RF 145 σ σ1 ∧ Mt (mv_a σ1 24) ∧ (0 ≤ (mv_i σ1 3 9).toInt ∨ ∃ ms2 s2 a2, a < a2 ∧ XM 145 th e0 bs BL f0 g0 ns σ1 (ms2) (sm wt ms2 + 1) (sm wr ms2 + 1) (s2) ∧ TI σ1 sz bd ms2 s2 a2)))) υ 84 [(4, .long wv), (3, .int wd9), (2, .int tk2), (0, .ref (al 22)), (1, .int k9)] [.int fl] := by
    intro υ fl wd9 wv tk2 hR hF hX t7 t8 b2
    refine mv_istore (pc := 84) B d_Exprs_widen_84 (by decide) rfl ?_
    refine mv_iload (pc := 86) B d_Exprs_widen_86 0 rfl ?_
    refine mv_if_eq (pc := 88) (tgt := 97) B d_Exprs_widen_88 rfl (fun h88 => ?_) (fun h88 => ?_)
    · skip
      refine mv_lpick [0, 1, 2, 4, 5] rfl ?_
      exact j97 _ _ _ _ hR hF hX t7 t8
    · skip
      refine mv_aload_n (pc := 91) B d_Exprs_widen_91 rfl 4 rfl ?_
      refine mv_iload_n (pc := 92) B d_Exprs_widen_92 rfl 3 rfl ?_
      refine mv_iconst (pc := 93) (v := 3) B d_Exprs_widen_93 (by decide) ?_
      refine mv_callVv (pc := 94) (n := 2) (ci := 6) (C := R_Exprs) B (mK_ok sk sv) hNs rfl rfl (c_Exprs_tell l hi _ _ _ hR.1 b2.1 (by omega) (by decide)) rfl (ma_goodc kc_Exprs_tell) (B.2.2.2.1 _ k_1427) (B.2.2.2.1 _ k_1429) (B.2.2.2.1 _ ks_50) (B.2.2.2.1 _ k_7) ⟨by decide +kernel, by decide +kernel, by decide +kernel⟩ rfl d_Exprs_widen_94 rfl (Nat.le_of_ble_eq_true rfl) ⟨by decide, by decide⟩ ⟨by decide, by decide⟩ ⟨by decide, by decide⟩ (mv_noH hno _) (fun σ94 h94 => ?_)
      obtain ⟨x9, y9, e94, z94⟩ := h94
      subst e94
      refine mv_gen (fun S97 eS97 => ?_)
      have hR : Rw 145 (mv_r S97) := by rw [eS97]; exact hR
      have hF : RF 145 σ S97 := by rw [eS97]; exact hF.tell _ _
      have hX : XM 145 th e0 bs BL f0 g0 ns S97 (ms) (sm wt ms) (sm wr ms + 1) (s0) := by rw [eS97]; exact hX.tell hP z94 _ _
      have t7 : a + 1 ≤ (mv_i S97 3 7).toInt ∧ (mv_i S97 3 7).toInt < sz := by rw [eS97]; exact t7
      have t8 : (mv_i S97 3 8).toInt = (mv_i σ 3 8).toInt - 1 := by rw [eS97]; exact t8
      clear eS97
      refine mv_lpick [0, 1, 2, 4, 5] rfl ?_
      exact j97 _ _ _ _ hR hF hX t7 t8
  refine mv_aload_n (pc := 0) B d_Exprs_widen_0 rfl 0 rfl ?_
  refine mv_getR (pc := 1) (ci := 6) (C := R_Exprs) (T := F_Exprs) (N := 11) B 0 rfl rfl (by decide) i_Exprs (B.2.2.2.1 _ k_193) rfl (hR.1 _ 0 _ rfl) d_Exprs_widen_1 ?_
  refine mv_bipush (pc := 4) (v := 44) B d_Exprs_widen_4 (by decide) ?_
  refine mv_callVi (pc := 6) (n := 1) (ci := 2) (C := R_Tokens) B (mK_ok sk sv) hNs rfl rfl (c_Tokens_takeN l hi _ _ hR.1 (hB0.rf hF hP ht2).2.1 (by omega) (by omega) (by decide)) rfl (ma_goodc kc_Tokens_take) (B.2.2.2.1 _ k_1424) (B.2.2.2.1 _ k_1267) (B.2.2.2.1 _ k_1268) (B.2.2.2.1 _ k_3) ⟨by decide +kernel, by decide +kernel, by decide +kernel⟩ rfl d_Exprs_widen_6 rfl (Nat.le_of_ble_eq_true rfl) ⟨by decide, by decide⟩ ⟨by decide, by decide⟩ ⟨by decide, by decide⟩ (mv_noH hno _) (fun v6 σ6 h6 => ?_)
  obtain ⟨a6, w6, e6, r6⟩ := h6
  have q6 := r6.1
  have z6 := fun q => (r6.2.1 q).1
  have y6 := And.intro r6.2.2.2.1 r6.2.2.2.2.1
  subst e6
  have hw6 := r6.2.2.1 hw9 hk3 trivial
  refine mv_gen (fun S9 eS9 => ?_)
  have hR : Rw 145 (mv_r S9) := by rw [eS9]; exact hR
  have hF : RF 145 σ S9 := by rw [eS9]; exact hF.tk3 _ _ _
  have hX : XM 145 th e0 bs BL f0 g0 ns S9 (((k9, w8) : Mk) :: ms) (sm wt ms + 1) (sm wr ms + 1) (s0) := by rw [eS9]; exact hX.tk3 hP _ _ _
  have t7 : (mv_i S9 3 7).toInt = a6.toInt := by rw [eS9]; rfl
  have t8 : (mv_i S9 3 8).toInt = (mv_i σ 3 8).toInt := by rw [eS9]; first | exact t8 | exact (sub_one (by omega)).trans (by omega) | exact (i32_inc (by omega)).trans (by omega)
  have t9 : (mv_i S9 3 9).toInt = w6.toInt := by rw [eS9]; rfl
  have kS9 : mv_a S9 4 = mv_a σ 4 := by rw [eS9]; first | rfl | exact kp
  have kp := kS9
  clear eS9
  refine mv_pop (pc := 9) B d_Exprs_widen_9 rfl ?_
  refine mv_aload_n (pc := 10) B d_Exprs_widen_10 rfl 0 rfl ?_
  refine mv_getR (pc := 11) (ci := 6) (C := R_Exprs) (T := F_Exprs) (N := 11) B 0 rfl rfl (by decide) i_Exprs (B.2.2.2.1 _ k_193) rfl (hR.1 _ 0 _ rfl) d_Exprs_widen_11 ?_
  refine mv_iconst (pc := 14) (v := 4) B d_Exprs_widen_14 (by decide) ?_
  refine mv_callVi (pc := 15) (n := 1) (ci := 2) (C := R_Tokens) B (mK_ok sk sv) hNs rfl rfl (c_Tokens_takeN l hi _ _ hR.1 (hB0.rf hF hP ht2).2.1 (by omega) (by omega) (by decide)) rfl (ma_goodc kc_Tokens_take) (B.2.2.2.1 _ k_1424) (B.2.2.2.1 _ k_1267) (B.2.2.2.1 _ k_1268) (B.2.2.2.1 _ k_3) ⟨by decide +kernel, by decide +kernel, by decide +kernel⟩ rfl d_Exprs_widen_15 rfl (Nat.le_of_ble_eq_true rfl) ⟨by decide, by decide⟩ ⟨by decide, by decide⟩ ⟨by decide, by decide⟩ (mv_noH hno _) (fun v15 σ15 h15 => ?_)
  obtain ⟨a15, w15, e15, r15⟩ := h15
  have q15 := r15.1
  have z15 := fun q => (r15.2.1 q).1
  have y15 := And.intro r15.2.2.2.1 r15.2.2.2.2.1
  subst e15
  refine mv_gen (fun S18 eS18 => ?_)
  have hR : Rw 145 (mv_r S18) := by rw [eS18]; exact hR
  have hF : RF 145 σ S18 := by rw [eS18]; exact hF.tk3 _ _ _
  have hX : XM 145 th e0 bs BL f0 g0 ns S18 (((k9, w8) : Mk) :: ms) (sm wt ms + 1) (sm wr ms + 1) (s0) := by rw [eS18]; exact hX.tk3 hP _ _ _
  have t7 : (mv_i S18 3 7).toInt = a15.toInt := by rw [eS18]; rfl
  have t8 : (mv_i S18 3 8).toInt = (mv_i σ 3 8).toInt := by rw [eS18]; first | exact t8 | exact (sub_one (by omega)).trans (by omega) | exact (i32_inc (by omega)).trans (by omega)
  have t9 : (mv_i S18 3 9).toInt = w15.toInt := by rw [eS18]; rfl
  have kS18 : mv_a S18 4 = mv_a σ 4 := by rw [eS18]; first | rfl | exact kp
  have kp := kS18
  clear eS18
  refine mv_istore_n (pc := 18) B d_Exprs_widen_18 rfl (by decide) rfl ?_
  refine mv_aload_n (pc := 19) B d_Exprs_widen_19 rfl 1 rfl ?_
  refine mv_getR (pc := 20) (ci := 6) (C := R_Exprs) (T := F_Exprs) (N := 11) B 0 rfl rfl (by decide) i_Exprs (B.2.2.2.1 _ k_193) rfl (hR.1 _ 0 _ rfl) d_Exprs_widen_20 ?_
  refine mv_bipush (pc := 23) (v := 41) B d_Exprs_widen_23 (by decide) ?_
  refine mv_callVi (pc := 25) (n := 1) (ci := 2) (C := R_Tokens) B (mK_ok sk sv) hNs rfl rfl (c_Tokens_closeN l hi _ _ hR.1 (hB0.rf hF hP ht2).2.1 (by omega) (by omega) (by decide)) rfl (ma_goodc kc_Tokens_close) (B.2.2.2.1 _ k_1468) (B.2.2.2.1 _ k_1397) (B.2.2.2.1 _ k_1398) (B.2.2.2.1 _ k_3) ⟨by decide +kernel, by decide +kernel, by decide +kernel⟩ rfl d_Exprs_widen_25 rfl (Nat.le_of_ble_eq_true rfl) ⟨by decide, by decide⟩ ⟨by decide, by decide⟩ ⟨by decide, by decide⟩ (mv_noH hno _) (fun v25 σ25 h25 => ?_)
  obtain ⟨a25, w25, e25, r25⟩ := h25
  have q25 := r25.1
  have z25 := fun q => (r25.2.1 q).1
  have y25 := And.intro r25.2.2.2.1 r25.2.2.2.2.1
  subst e25
  refine mv_gen (fun S28 eS28 => ?_)
  have hR : Rw 145 (mv_r S28) := by rw [eS28]; exact hR
  have hF : RF 145 σ S28 := by rw [eS28]; exact hF.tk3 _ _ _
  have hX : XM 145 th e0 bs BL f0 g0 ns S28 (((k9, w8) : Mk) :: ms) (sm wt ms + 1) (sm wr ms + 1) (s0) := by rw [eS28]; exact hX.tk3 hP _ _ _
  have t7 : (mv_i S28 3 7).toInt = a25.toInt := by rw [eS28]; rfl
  have t8 : (mv_i S28 3 8).toInt = (mv_i σ 3 8).toInt - 1 := by rw [eS28]; first | exact t8 | exact (sub_one (by omega)).trans (by omega) | exact (i32_inc (by omega)).trans (by omega)
  have t9 : (mv_i S28 3 9).toInt = w25.toInt := by rw [eS28]; rfl
  have kS28 : mv_a S28 4 = mv_a σ 4 := by rw [eS28]; first | rfl | exact kp
  have kp := kS28
  have t7 : a + 1 ≤ (mv_i S28 3 7).toInt ∧ (mv_i S28 3 7).toInt < sz := by omega
  clear eS28
  refine mv_pop (pc := 28) B d_Exprs_widen_28 rfl ?_
  refine mv_aload_n (pc := 29) B d_Exprs_widen_29 rfl 1 rfl ?_
  refine mv_dup (pc := 30) B d_Exprs_widen_30 rfl ?_
  refine mv_getI (pc := 31) (ci := 6) (C := R_Exprs) (T := F_Exprs) (N := 11) B 8 rfl rfl (by decide) i_Exprs (B.2.2.2.1 _ k_202) rfl d_Exprs_widen_31 ?_
  refine mv_iconst (pc := 34) (v := 1) B d_Exprs_widen_34 (by decide) ?_
  refine mv_isub (pc := 35) B d_Exprs_widen_35 ?_
  refine mv_putI (pc := 36) (ci := 6) (C := R_Exprs) (T := F_Exprs) (N := 11) B 8 rfl rfl (by decide) i_Exprs t_Exprs_ok n_Exprs (B.2.2.2.1 _ k_202) rfl rfl rfl rfl d_Exprs_widen_36 ?_
  refine mv_gen (fun S39 eS39 => ?_)
  have hR : Rw 145 (mv_r S39) := by rw [eS39]; exact hR
  have hF : RF 145 σ S39 := by rw [eS39]; exact hF.pop
  have hX : XM 145 th e0 bs BL f0 g0 ns S39 (ms) (sm wt ms + 1) (sm wr ms + 1) (s0) := by rw [eS39]; exact hX.pop hP hkp
  have t7 : a + 1 ≤ (mv_i S39 3 7).toInt ∧ (mv_i S39 3 7).toInt < sz := by rw [eS39]; exact t7
  have t8 : (mv_i S39 3 8).toInt = (mv_i σ 3 8).toInt - 1 := by rw [eS39]; exact t8
  clear eS39
  refine mv_aload_n (pc := 39) B d_Exprs_widen_39 rfl 1 rfl ?_
  refine mv_callVi (pc := 40) (n := 0) (ci := 6) (C := R_Exprs) B (mK_ok sk sv) hNs rfl rfl (c_Exprs_release l hi _ hR.1 (by have := hX.1.2.2.1; omega) (by have := hX.1.2.2.1; omega)) rfl (ma_goodc kc_Exprs_release) (B.2.2.2.1 _ k_1469) (B.2.2.2.1 _ k_1470) (B.2.2.2.1 _ k_1471) (B.2.2.2.1 _ k_7) ⟨by decide +kernel, by decide +kernel, by decide +kernel⟩ rfl d_Exprs_widen_40 rfl (Nat.le_of_ble_eq_true rfl) ⟨by decide, by decide⟩ ⟨by decide, by decide⟩ ⟨by decide, by decide⟩ (mv_noH hno _) (fun v40 σ40 h40 => ?_)
  subst h40
  refine mv_gen (fun S43 eS43 => ?_)
  have hR : Rw 145 (mv_r S43) := by rw [eS43]; exact hR
  have hF : RF 145 σ S43 := by rw [eS43]; exact hF.rel
  have hX : XM 145 th e0 bs BL f0 g0 ns S43 (ms) (sm wt ms) (sm wr ms + 1) (s0) := by rw [eS43]; exact hX.rel hP
  have t7 : a + 1 ≤ (mv_i S43 3 7).toInt ∧ (mv_i S43 3 7).toInt < sz := by rw [eS43]; exact t7
  have t8 : (mv_i S43 3 8).toInt = (mv_i σ 3 8).toInt - 1 := by rw [eS43]; exact t8
  clear eS43
  refine mv_istore_n (pc := 43) B d_Exprs_widen_43 rfl (by decide) rfl ?_
  refine mv_aload_n (pc := 44) B d_Exprs_widen_44 rfl 2 rfl ?_
  refine mv_getR (pc := 45) (ci := 6) (C := R_Exprs) (T := F_Exprs) (N := 11) B 0 rfl rfl (by decide) i_Exprs (B.2.2.2.1 _ k_193) rfl (hR.1 _ 0 _ rfl) d_Exprs_widen_45 ?_
  refine mv_getR (pc := 48) (ci := 2) (C := R_Tokens) (T := F_Tokens) (N := 10) B 2 rfl rfl (by decide) i_Tokens (B.2.2.2.1 _ k_95) rfl (hR.1 _ 2 _ rfl) d_Exprs_widen_48 ?_
  refine mv_iload_n (pc := 51) B d_Exprs_widen_51 rfl 1 rfl ?_
  refine mv_lald (pc := 52) B rfl (i32_in y15.1 (by omega)) d_Exprs_widen_52 ?_
  refine mv_lstore (pc := 53) B d_Exprs_widen_53 (by decide) rfl ?_
  refine mv_lload (pc := 55) B d_Exprs_widen_55 0 rfl ?_
  refine mv_lconst (pc := 57) (v := 1) B d_Exprs_widen_57 (by decide) ?_
  refine mv_lcmp (pc := 58) B d_Exprs_widen_58 ?_
  refine mv_if_lt (pc := 59) (tgt := 79) B d_Exprs_widen_59 rfl (fun h59 => ?_) (fun h59 => ?_)
  · skip
    refine mv_iconst (pc := 79) (v := 1) B d_Exprs_widen_79 (by decide) ?_
    refine mv_goto (pc := 80) (tgt := 84) B d_Exprs_widen_80 rfl ?_
    refine mv_lpick [0, 1, 2, 3, 4] rfl ?_
    exact j84 _ _ _ _ _ hR hF hX t7 t8 y15
  · skip
    refine mv_lload (pc := 62) B d_Exprs_widen_62 0 rfl ?_
    refine mv_iload_n (pc := 64) B d_Exprs_widen_64 rfl 1 rfl ?_
    refine mv_i2l (pc := 65) B d_Exprs_widen_65 ?_
    refine mv_lcmp (pc := 66) B d_Exprs_widen_66 ?_
    refine mv_if_lt (pc := 67) (tgt := 79) B d_Exprs_widen_67 rfl (fun h67 => ?_) (fun h67 => ?_)
    · skip
      refine mv_iconst (pc := 79) (v := 1) B d_Exprs_widen_79 (by decide) ?_
      refine mv_goto (pc := 80) (tgt := 84) B d_Exprs_widen_80 rfl ?_
      refine mv_lpick [0, 1, 2, 3, 4] rfl ?_
      exact j84 _ _ _ _ _ hR hF hX t7 t8 y15
    · skip
      refine mv_lload (pc := 70) B d_Exprs_widen_70 0 rfl ?_
      refine mv_ldc2 (pc := 72) (v := 64) B (B.2.2.2.1 _ k_1426) d_Exprs_widen_72 ?_
      refine mv_lcmp (pc := 75) B d_Exprs_widen_75 ?_
      refine mv_if_le (pc := 76) (tgt := 83) B d_Exprs_widen_76 rfl (fun h76 => ?_) (fun h76 => ?_)
      · skip
        refine mv_iconst (pc := 83) (v := 0) B d_Exprs_widen_83 (by decide) ?_
        refine mv_lpick [0, 1, 2, 3, 4] rfl ?_
        exact j84 _ _ _ _ _ hR hF hX t7 t8 y15
      · skip
        refine mv_iconst (pc := 79) (v := 1) B d_Exprs_widen_79 (by decide) ?_
        refine mv_goto (pc := 80) (tgt := 84) B d_Exprs_widen_80 rfl ?_
        refine mv_lpick [0, 1, 2, 3, 4] rfl ?_
        exact j84 _ _ _ _ _ hR hF hX t7 t8 y15
def y_Exprs_goOn : MethodName := ⟨"MachineLoom$Exprs", "goOn", "(I)I"⟩
abbrev b_Exprs_goOn : ByteArray := prog_3_method_20_code
theorem kc_Exprs_goOn : Cond.code y_Exprs_goOn b_Exprs_goOn 4 (Option.some Jvm.ClassFile.FieldType.int) ∈ ma := ma_of (tb_7 _ (List.mem_of_getElem? (i := 65) rfl)) rfl
theorem k_1518 : (Jvm.Cond.methodLink "MachineLoom$Exprs" (191 : Nat) ({ cls := "MachineLoom$Exprs", name := "widen", desc := "(I)V" } : Jvm.MethodName)) ∈ ma := ma_of (tb_7 _ (List.mem_of_getElem? (i := 78) rfl)) rfl
theorem k_1520 : (Jvm.Cond.instanceMethod ({ cls := "MachineLoom$Exprs", name := "widen", desc := "(I)V" } : Jvm.MethodName)) ∈ ma := ma_of (tb_7 _ (List.mem_of_getElem? (i := 80) rfl)) rfl
theorem ks_64 : Cond.selects "MachineLoom$Exprs" ⟨"MachineLoom$Exprs", "widen", "(I)V"⟩ ⟨"MachineLoom$Exprs", "widen", "(I)V"⟩ ∈ ma := ma_sel 64 rfl rfl
theorem k_1514 : (Jvm.Cond.methodLink "MachineLoom$Exprs" (188 : Nat) ({ cls := "MachineLoom$Exprs", name := "cell", desc := "()V" } : Jvm.MethodName)) ∈ ma := ma_of (tb_7 _ (List.mem_of_getElem? (i := 74) rfl)) rfl
theorem k_1516 : (Jvm.Cond.instanceMethod ({ cls := "MachineLoom$Exprs", name := "cell", desc := "()V" } : Jvm.MethodName)) ∈ ma := ma_of (tb_7 _ (List.mem_of_getElem? (i := 76) rfl)) rfl
theorem ks_63 : Cond.selects "MachineLoom$Exprs" ⟨"MachineLoom$Exprs", "cell", "()V"⟩ ⟨"MachineLoom$Exprs", "cell", "()V"⟩ ∈ ma := ma_sel 63 rfl rfl
theorem k_1510 : (Jvm.Cond.methodLink "MachineLoom$Exprs" (185 : Nat) ({ cls := "MachineLoom$Exprs", name := "join", desc := "(I)I" } : Jvm.MethodName)) ∈ ma := ma_of (tb_7 _ (List.mem_of_getElem? (i := 70) rfl)) rfl
theorem k_1512 : (Jvm.Cond.instanceMethod ({ cls := "MachineLoom$Exprs", name := "join", desc := "(I)I" } : Jvm.MethodName)) ∈ ma := ma_of (tb_7 _ (List.mem_of_getElem? (i := 72) rfl)) rfl
theorem ks_62 : Cond.selects "MachineLoom$Exprs" ⟨"MachineLoom$Exprs", "join", "(I)I"⟩ ⟨"MachineLoom$Exprs", "join", "(I)I"⟩ ∈ ma := ma_sel 62 rfl rfl
theorem k_1506 : (Jvm.Cond.methodLink "MachineLoom$Exprs" (182 : Nat) ({ cls := "MachineLoom$Exprs", name := "otherwise", desc := "()V" } : Jvm.MethodName)) ∈ ma := ma_of (tb_7 _ (List.mem_of_getElem? (i := 66) rfl)) rfl
theorem k_1508 : (Jvm.Cond.instanceMethod ({ cls := "MachineLoom$Exprs", name := "otherwise", desc := "()V" } : Jvm.MethodName)) ∈ ma := ma_of (tb_7 _ (List.mem_of_getElem? (i := 68) rfl)) rfl
theorem ks_61 : Cond.selects "MachineLoom$Exprs" ⟨"MachineLoom$Exprs", "otherwise", "()V"⟩ ⟨"MachineLoom$Exprs", "otherwise", "()V"⟩ ∈ ma := ma_sel 61 rfl rfl
theorem d_Exprs_goOn_0 : decode b_Exprs_goOn 0 = .ok (.aload_n 0, 1) := by decide +kernel
theorem d_Exprs_goOn_1 : decode b_Exprs_goOn 1 = .ok (.getfield 9, 3) := by decide +kernel
theorem d_Exprs_goOn_4 : decode b_Exprs_goOn 4 = .ok (.aload_n 0, 1) := by decide +kernel
theorem d_Exprs_goOn_5 : decode b_Exprs_goOn 5 = .ok (.getfield 39, 3) := by decide +kernel
theorem d_Exprs_goOn_8 : decode b_Exprs_goOn 8 = .ok (.iconst 1, 1) := by decide +kernel
theorem d_Exprs_goOn_9 : decode b_Exprs_goOn 9 = .ok (.isub, 1) := by decide +kernel
theorem d_Exprs_goOn_10 : decode b_Exprs_goOn 10 = .ok (.iaload, 1) := by decide +kernel
theorem d_Exprs_goOn_11 : decode b_Exprs_goOn 11 = .ok (.istore_n 2, 1) := by decide +kernel
theorem d_Exprs_goOn_12 : decode b_Exprs_goOn 12 = .ok (.aload_n 0, 1) := by decide +kernel
theorem d_Exprs_goOn_13 : decode b_Exprs_goOn 13 = .ok (.getfield 18, 3) := by decide +kernel
theorem d_Exprs_goOn_16 : decode b_Exprs_goOn 16 = .ok (.aload_n 0, 1) := by decide +kernel
theorem d_Exprs_goOn_17 : decode b_Exprs_goOn 17 = .ok (.getfield 39, 3) := by decide +kernel
theorem d_Exprs_goOn_20 : decode b_Exprs_goOn 20 = .ok (.iconst 1, 1) := by decide +kernel
theorem d_Exprs_goOn_21 : decode b_Exprs_goOn 21 = .ok (.isub, 1) := by decide +kernel
theorem d_Exprs_goOn_22 : decode b_Exprs_goOn 22 = .ok (.iaload, 1) := by decide +kernel
theorem d_Exprs_goOn_23 : decode b_Exprs_goOn 23 = .ok (.ifCond .ne (7), 3) := by decide +kernel
theorem d_Exprs_goOn_26 : decode b_Exprs_goOn 26 = .ok (.iconst 1, 1) := by decide +kernel
theorem d_Exprs_goOn_27 : decode b_Exprs_goOn 27 = .ok (.goto (4), 3) := by decide +kernel
theorem d_Exprs_goOn_30 : decode b_Exprs_goOn 30 = .ok (.iconst 0, 1) := by decide +kernel
theorem d_Exprs_goOn_31 : decode b_Exprs_goOn 31 = .ok (.istore_n 3, 1) := by decide +kernel
theorem d_Exprs_goOn_32 : decode b_Exprs_goOn 32 = .ok (.iload_n 2, 1) := by decide +kernel
theorem d_Exprs_goOn_33 : decode b_Exprs_goOn 33 = .ok (.bipush 63, 2) := by decide +kernel
theorem d_Exprs_goOn_35 : decode b_Exprs_goOn 35 = .ok (.if_icmp .ne (15), 3) := by decide +kernel
theorem d_Exprs_goOn_38 : decode b_Exprs_goOn 38 = .ok (.iload_n 1, 1) := by decide +kernel
theorem d_Exprs_goOn_39 : decode b_Exprs_goOn 39 = .ok (.bipush 58, 2) := by decide +kernel
theorem d_Exprs_goOn_41 : decode b_Exprs_goOn 41 = .ok (.if_icmp .ne (9), 3) := by decide +kernel
theorem d_Exprs_goOn_44 : decode b_Exprs_goOn 44 = .ok (.aload_n 0, 1) := by decide +kernel
theorem d_Exprs_goOn_45 : decode b_Exprs_goOn 45 = .ok (.invokevirtual 182, 3) := by decide +kernel
theorem d_Exprs_goOn_48 : decode b_Exprs_goOn 48 = .ok (.iconst 0, 1) := by decide +kernel
theorem d_Exprs_goOn_49 : decode b_Exprs_goOn 49 = .ok (.ireturn, 1) := by decide +kernel
theorem d_Exprs_goOn_50 : decode b_Exprs_goOn 50 = .ok (.iload_n 2, 1) := by decide +kernel
theorem d_Exprs_goOn_51 : decode b_Exprs_goOn 51 = .ok (.bipush 123, 2) := by decide +kernel
theorem d_Exprs_goOn_53 : decode b_Exprs_goOn 53 = .ok (.if_icmp .ne (21), 3) := by decide +kernel
theorem d_Exprs_goOn_56 : decode b_Exprs_goOn 56 = .ok (.iload_n 1, 1) := by decide +kernel
theorem d_Exprs_goOn_57 : decode b_Exprs_goOn 57 = .ok (.bipush 44, 2) := by decide +kernel
theorem d_Exprs_goOn_59 : decode b_Exprs_goOn 59 = .ok (.if_icmp .eq (9), 3) := by decide +kernel
theorem d_Exprs_goOn_62 : decode b_Exprs_goOn 62 = .ok (.iload_n 1, 1) := by decide +kernel
theorem d_Exprs_goOn_63 : decode b_Exprs_goOn 63 = .ok (.bipush 125, 2) := by decide +kernel
theorem d_Exprs_goOn_65 : decode b_Exprs_goOn 65 = .ok (.if_icmp .ne (9), 3) := by decide +kernel
theorem d_Exprs_goOn_68 : decode b_Exprs_goOn 68 = .ok (.aload_n 0, 1) := by decide +kernel
theorem d_Exprs_goOn_69 : decode b_Exprs_goOn 69 = .ok (.iload_n 1, 1) := by decide +kernel
theorem d_Exprs_goOn_70 : decode b_Exprs_goOn 70 = .ok (.invokevirtual 185, 3) := by decide +kernel
theorem d_Exprs_goOn_73 : decode b_Exprs_goOn 73 = .ok (.ireturn, 1) := by decide +kernel
theorem d_Exprs_goOn_74 : decode b_Exprs_goOn 74 = .ok (.iload_n 2, 1) := by decide +kernel
theorem d_Exprs_goOn_75 : decode b_Exprs_goOn 75 = .ok (.bipush 91, 2) := by decide +kernel
theorem d_Exprs_goOn_77 : decode b_Exprs_goOn 77 = .ok (.if_icmp .ne (16), 3) := by decide +kernel
theorem d_Exprs_goOn_80 : decode b_Exprs_goOn 80 = .ok (.iload_n 1, 1) := by decide +kernel
theorem d_Exprs_goOn_81 : decode b_Exprs_goOn 81 = .ok (.bipush 93, 2) := by decide +kernel
theorem d_Exprs_goOn_83 : decode b_Exprs_goOn 83 = .ok (.if_icmp .ne (10), 3) := by decide +kernel
theorem d_Exprs_goOn_86 : decode b_Exprs_goOn 86 = .ok (.aload_n 0, 1) := by decide +kernel
theorem d_Exprs_goOn_87 : decode b_Exprs_goOn 87 = .ok (.invokevirtual 188, 3) := by decide +kernel
theorem d_Exprs_goOn_90 : decode b_Exprs_goOn 90 = .ok (.goto (182), 3) := by decide +kernel
theorem d_Exprs_goOn_93 : decode b_Exprs_goOn 93 = .ok (.iload_n 2, 1) := by decide +kernel
theorem d_Exprs_goOn_94 : decode b_Exprs_goOn 94 = .ok (.bipush 40, 2) := by decide +kernel
theorem d_Exprs_goOn_96 : decode b_Exprs_goOn 96 = .ok (.if_icmp .ne (32), 3) := by decide +kernel
theorem d_Exprs_goOn_99 : decode b_Exprs_goOn 99 = .ok (.iload_n 1, 1) := by decide +kernel
theorem d_Exprs_goOn_100 : decode b_Exprs_goOn 100 = .ok (.bipush 41, 2) := by decide +kernel
theorem d_Exprs_goOn_102 : decode b_Exprs_goOn 102 = .ok (.if_icmp .ne (26), 3) := by decide +kernel
theorem d_Exprs_goOn_105 : decode b_Exprs_goOn 105 = .ok (.aload_n 0, 1) := by decide +kernel
theorem d_Exprs_goOn_106 : decode b_Exprs_goOn 106 = .ok (.getfield 27, 3) := by decide +kernel
theorem d_Exprs_goOn_109 : decode b_Exprs_goOn 109 = .ok (.bipush 41, 2) := by decide +kernel
theorem d_Exprs_goOn_111 : decode b_Exprs_goOn 111 = .ok (.invokevirtual 161, 3) := by decide +kernel
theorem d_Exprs_goOn_114 : decode b_Exprs_goOn 114 = .ok (.pop, 1) := by decide +kernel
theorem d_Exprs_goOn_115 : decode b_Exprs_goOn 115 = .ok (.aload_n 0, 1) := by decide +kernel
theorem d_Exprs_goOn_116 : decode b_Exprs_goOn 116 = .ok (.dup, 1) := by decide +kernel
theorem d_Exprs_goOn_117 : decode b_Exprs_goOn 117 = .ok (.getfield 39, 3) := by decide +kernel
theorem d_Exprs_goOn_120 : decode b_Exprs_goOn 120 = .ok (.iconst 1, 1) := by decide +kernel
theorem d_Exprs_goOn_121 : decode b_Exprs_goOn 121 = .ok (.isub, 1) := by decide +kernel
theorem d_Exprs_goOn_122 : decode b_Exprs_goOn 122 = .ok (.putfield 39, 3) := by decide +kernel
theorem d_Exprs_goOn_125 : decode b_Exprs_goOn 125 = .ok (.goto (147), 3) := by decide +kernel
theorem d_Exprs_goOn_128 : decode b_Exprs_goOn 128 = .ok (.iload_n 2, 1) := by decide +kernel
theorem d_Exprs_goOn_129 : decode b_Exprs_goOn 129 = .ok (.sipush 211, 3) := by decide +kernel
theorem d_Exprs_goOn_132 : decode b_Exprs_goOn 132 = .ok (.if_icmp .eq (10), 3) := by decide +kernel
theorem d_Exprs_goOn_135 : decode b_Exprs_goOn 135 = .ok (.iload_n 2, 1) := by decide +kernel
theorem d_Exprs_goOn_136 : decode b_Exprs_goOn 136 = .ok (.sipush 212, 3) := by decide +kernel
theorem d_Exprs_goOn_139 : decode b_Exprs_goOn 139 = .ok (.if_icmp .ne (17), 3) := by decide +kernel
theorem d_Exprs_goOn_142 : decode b_Exprs_goOn 142 = .ok (.iload_n 1, 1) := by decide +kernel
theorem d_Exprs_goOn_143 : decode b_Exprs_goOn 143 = .ok (.bipush 44, 2) := by decide +kernel
theorem d_Exprs_goOn_145 : decode b_Exprs_goOn 145 = .ok (.if_icmp .ne (11), 3) := by decide +kernel
theorem d_Exprs_goOn_148 : decode b_Exprs_goOn 148 = .ok (.aload_n 0, 1) := by decide +kernel
theorem d_Exprs_goOn_149 : decode b_Exprs_goOn 149 = .ok (.iload_n 2, 1) := by decide +kernel
theorem d_Exprs_goOn_150 : decode b_Exprs_goOn 150 = .ok (.invokevirtual 191, 3) := by decide +kernel
theorem d_Exprs_goOn_153 : decode b_Exprs_goOn 153 = .ok (.goto (119), 3) := by decide +kernel
theorem d_Exprs_goOn_156 : decode b_Exprs_goOn 156 = .ok (.iload_n 2, 1) := by decide +kernel
theorem d_Exprs_goOn_157 : decode b_Exprs_goOn 157 = .ok (.sipush 213, 3) := by decide +kernel
theorem d_Exprs_goOn_160 : decode b_Exprs_goOn 160 = .ok (.if_icmp .lt (44), 3) := by decide +kernel
theorem d_Exprs_goOn_163 : decode b_Exprs_goOn 163 = .ok (.iload_n 2, 1) := by decide +kernel
theorem d_Exprs_goOn_164 : decode b_Exprs_goOn 164 = .ok (.sipush 216, 3) := by decide +kernel
theorem d_Exprs_goOn_167 : decode b_Exprs_goOn 167 = .ok (.if_icmp .gt (37), 3) := by decide +kernel
theorem d_Exprs_goOn_170 : decode b_Exprs_goOn 170 = .ok (.iload_n 1, 1) := by decide +kernel
theorem d_Exprs_goOn_171 : decode b_Exprs_goOn 171 = .ok (.bipush 44, 2) := by decide +kernel
theorem d_Exprs_goOn_173 : decode b_Exprs_goOn 173 = .ok (.if_icmp .ne (31), 3) := by decide +kernel
theorem d_Exprs_goOn_176 : decode b_Exprs_goOn 176 = .ok (.iload_n 3, 1) := by decide +kernel
theorem d_Exprs_goOn_177 : decode b_Exprs_goOn 177 = .ok (.ifCond .eq (27), 3) := by decide +kernel
theorem d_Exprs_goOn_180 : decode b_Exprs_goOn 180 = .ok (.aload_n 0, 1) := by decide +kernel
theorem d_Exprs_goOn_181 : decode b_Exprs_goOn 181 = .ok (.getfield 27, 3) := by decide +kernel
theorem d_Exprs_goOn_184 : decode b_Exprs_goOn 184 = .ok (.bipush 44, 2) := by decide +kernel
theorem d_Exprs_goOn_186 : decode b_Exprs_goOn 186 = .ok (.invokevirtual 82, 3) := by decide +kernel
theorem d_Exprs_goOn_189 : decode b_Exprs_goOn 189 = .ok (.pop, 1) := by decide +kernel
theorem d_Exprs_goOn_190 : decode b_Exprs_goOn 190 = .ok (.aload_n 0, 1) := by decide +kernel
theorem d_Exprs_goOn_191 : decode b_Exprs_goOn 191 = .ok (.getfield 18, 3) := by decide +kernel
theorem d_Exprs_goOn_194 : decode b_Exprs_goOn 194 = .ok (.aload_n 0, 1) := by decide +kernel
theorem d_Exprs_goOn_195 : decode b_Exprs_goOn 195 = .ok (.getfield 39, 3) := by decide +kernel
theorem d_Exprs_goOn_198 : decode b_Exprs_goOn 198 = .ok (.iconst 1, 1) := by decide +kernel
theorem d_Exprs_goOn_199 : decode b_Exprs_goOn 199 = .ok (.isub, 1) := by decide +kernel
theorem d_Exprs_goOn_200 : decode b_Exprs_goOn 200 = .ok (.iconst 1, 1) := by decide +kernel
theorem d_Exprs_goOn_201 : decode b_Exprs_goOn 201 = .ok (.iastore, 1) := by decide +kernel
theorem d_Exprs_goOn_202 : decode b_Exprs_goOn 202 = .ok (.iconst 0, 1) := by decide +kernel
theorem d_Exprs_goOn_203 : decode b_Exprs_goOn 203 = .ok (.ireturn, 1) := by decide +kernel
theorem d_Exprs_goOn_204 : decode b_Exprs_goOn 204 = .ok (.iload_n 2, 1) := by decide +kernel
theorem d_Exprs_goOn_205 : decode b_Exprs_goOn 205 = .ok (.sipush 213, 3) := by decide +kernel
theorem d_Exprs_goOn_208 : decode b_Exprs_goOn 208 = .ok (.if_icmp .lt (57), 3) := by decide +kernel
theorem d_Exprs_goOn_211 : decode b_Exprs_goOn 211 = .ok (.iload_n 2, 1) := by decide +kernel
theorem d_Exprs_goOn_212 : decode b_Exprs_goOn 212 = .ok (.sipush 216, 3) := by decide +kernel
theorem d_Exprs_goOn_215 : decode b_Exprs_goOn 215 = .ok (.if_icmp .gt (50), 3) := by decide +kernel
theorem d_Exprs_goOn_218 : decode b_Exprs_goOn 218 = .ok (.iload_n 1, 1) := by decide +kernel
theorem d_Exprs_goOn_219 : decode b_Exprs_goOn 219 = .ok (.bipush 41, 2) := by decide +kernel
theorem d_Exprs_goOn_221 : decode b_Exprs_goOn 221 = .ok (.if_icmp .ne (44), 3) := by decide +kernel
theorem d_Exprs_goOn_224 : decode b_Exprs_goOn 224 = .ok (.iload_n 3, 1) := by decide +kernel
theorem d_Exprs_goOn_225 : decode b_Exprs_goOn 225 = .ok (.ifCond .ne (40), 3) := by decide +kernel
theorem d_Exprs_goOn_228 : decode b_Exprs_goOn 228 = .ok (.aload_n 0, 1) := by decide +kernel
theorem d_Exprs_goOn_229 : decode b_Exprs_goOn 229 = .ok (.getfield 27, 3) := by decide +kernel
theorem d_Exprs_goOn_232 : decode b_Exprs_goOn 232 = .ok (.bipush 41, 2) := by decide +kernel
theorem d_Exprs_goOn_234 : decode b_Exprs_goOn 234 = .ok (.invokevirtual 161, 3) := by decide +kernel
theorem d_Exprs_goOn_237 : decode b_Exprs_goOn 237 = .ok (.pop, 1) := by decide +kernel
theorem d_Exprs_goOn_238 : decode b_Exprs_goOn 238 = .ok (.aload_n 0, 1) := by decide +kernel
theorem d_Exprs_goOn_239 : decode b_Exprs_goOn 239 = .ok (.dup, 1) := by decide +kernel
theorem d_Exprs_goOn_240 : decode b_Exprs_goOn 240 = .ok (.getfield 39, 3) := by decide +kernel
theorem d_Exprs_goOn_243 : decode b_Exprs_goOn 243 = .ok (.iconst 1, 1) := by decide +kernel
theorem d_Exprs_goOn_244 : decode b_Exprs_goOn 244 = .ok (.isub, 1) := by decide +kernel
theorem d_Exprs_goOn_245 : decode b_Exprs_goOn 245 = .ok (.putfield 39, 3) := by decide +kernel
theorem d_Exprs_goOn_248 : decode b_Exprs_goOn 248 = .ok (.aload_n 0, 1) := by decide +kernel
theorem d_Exprs_goOn_249 : decode b_Exprs_goOn 249 = .ok (.iload_n 2, 1) := by decide +kernel
theorem d_Exprs_goOn_250 : decode b_Exprs_goOn 250 = .ok (.aload_n 0, 1) := by decide +kernel
theorem d_Exprs_goOn_251 : decode b_Exprs_goOn 251 = .ok (.getfield 15, 3) := by decide +kernel
theorem d_Exprs_goOn_254 : decode b_Exprs_goOn 254 = .ok (.aload_n 0, 1) := by decide +kernel
theorem d_Exprs_goOn_255 : decode b_Exprs_goOn 255 = .ok (.getfield 39, 3) := by decide +kernel
theorem d_Exprs_goOn_258 : decode b_Exprs_goOn 258 = .ok (.iaload, 1) := by decide +kernel
theorem d_Exprs_goOn_259 : decode b_Exprs_goOn 259 = .ok (.invokevirtual 176, 3) := by decide +kernel
theorem d_Exprs_goOn_262 : decode b_Exprs_goOn 262 = .ok (.goto (10), 3) := by decide +kernel
theorem d_Exprs_goOn_265 : decode b_Exprs_goOn 265 = .ok (.aload_n 0, 1) := by decide +kernel
theorem d_Exprs_goOn_266 : decode b_Exprs_goOn 266 = .ok (.getfield 27, 3) := by decide +kernel
theorem d_Exprs_goOn_269 : decode b_Exprs_goOn 269 = .ok (.invokevirtual 79, 3) := by decide +kernel
theorem d_Exprs_goOn_272 : decode b_Exprs_goOn 272 = .ok (.iconst 1, 1) := by decide +kernel
theorem d_Exprs_goOn_273 : decode b_Exprs_goOn 273 = .ok (.ireturn, 1) := by decide +kernel
set_option maxHeartbeats 4000000 in
set_option maxRecDepth 100000 in
theorem c_Exprs_goOn_a (l : Launch) {dA : FieldType → ClassId} {D : va_G} {al : Nat → Nat} {ext : mv_Sh} {sk sv : Nat → Nat} (hi : mv_inj (mg dA D al ext)) (σ : mv_H) (k9 k8 w8 : Int32) {t len n z sz th sl e0 bs ns : Nat} {BL : (Nat → Nat) → Prop} {f0 : Nat → Int32} {g0 : Nat → Int64} {ms : List Mk} {s0 bd a : Nat} (hB0 : SB 32 σ t len n z sz th sl) (ht2 : t = 1 ∨ t = 144) (hX : XM 32 th e0 bs BL f0 g0 ns σ (((k8, w8) : Mk) :: ms) (sm wt (((k8, w8) : Mk) :: ms) + 1) (sm wr (((k8, w8) : Mk) :: ms) + 1) (s0)) (hI : TI σ sz bd (((k8, w8) : Mk) :: ms) s0 a) (hlen : len ≤ 32768) (hbs : bs ≤ 1) (hk3 : mv_a σ 4 (mv_i σ 3 7).toNatClampNeg = k9) : mv_C l y_Exprs_goOn (Cond.code y_Exprs_goOn b_Exprs_goOn 4 (Option.some Jvm.ClassFile.FieldType.int) :: ma) ({ frames := 4, cells := 0, slots := 0, locals := 89 }) (mg dA D al ext) (mK sk sv) [.ref (al 22), .int k9] σ (mv_Ri (fun v σ1 => RF 32 σ σ1 ∧ Mt (mv_a σ1 24) ∧ (v = 0 ∨ v = 1) ∧ (0 ≤ (mv_i σ1 3 9).toInt ∨ ∃ ms2 s2 a2, a < a2 ∧ XM 32 th e0 bs BL f0 g0 ns σ1 (ms2) (sm wt ms2 + v.toNatClampNeg) (sm wr ms2 + v.toNatClampNeg) (s2) ∧ TI σ1 sz bd ms2 s2 a2))) := by
  refine mv_C.ofV (cc := b_Exprs_goOn) (nL := 4) (ret := (Option.some Jvm.ClassFile.FieldType.int)) (by decide +kernel) rfl hi (Nat.le_of_ble_eq_true rfl) ?_
  intro p e s m below meth c B hNs hr hnm hno
  have hP : PQ 32 := by unfold PQ; omega
  have hR := hB0.1
  have hF : RF 32 σ σ := RF0
  have hT : mv_i σ 3 = mv_i σ 3 := rfl
  have hsz := hB0.2.1.2.2.2.2.2
  have hsz2 := hB0.2.1.2.2.2.1
  have hI5 := hI.2.2.2.2.1
  have ha9 := hI.2.2.2.2.2.1
  have pl := hI.len hX
  have hm8 := hX.1.1
  have t7 := hI.1
  have hw9 := hI.2.1
  have t9 : (mv_i σ 3 9).toInt = (mv_i σ 3 9).toInt := rfl
  have hd8 := hI.2.2.1
  have hd9 := hI.2.2.2.1
  have hWm := hI.2.2.2.2.2.2
  have kp : mv_a σ 4 = mv_a σ 4 := rfl
  have t8 : (mv_i σ 3 8).toInt = (mv_i σ 3 8).toInt := rfl
  obtain ⟨p1, p2, p3, p4⟩ := hX.top
  have g1 : sm wt (((k8, w8) : Mk) :: ms) = wt (k8, w8) + sm wt ms := rfl
  have g2 : sm wr (((k8, w8) : Mk) :: ms) = wr (k8, w8) + sm wr ms := rfl
  have g3 : sm wd (((k8, w8) : Mk) :: ms) = wd (k8, w8) + sm wd ms := rfl
  have g4 : sm wc (((k8, w8) : Mk) :: ms) = wc (k8, w8) + sm wc ms := rfl
  have gl : ((((k8, w8)) : Mk) :: ms).length = ms.length + 1 := rfl
  have j32 : ∀ (fl : Int32) (hfl : (fl = 1 ∧ w8 = 0) ∨ (fl = 0 ∧ ¬ w8 = 0)), mv_V p l e ({ frames := 4, cells := 0, slots := 0, locals := 89 }) s m ([.ref (al 22), .int k9] : List Value).toArray below meth c (mg dA D al ext) 4 0 0 (mv_Q (mg dA D al ext) below s 0 0 (mv_Ri (fun v σ1 => RF 32 σ σ1 ∧ Mt (mv_a σ1 24) ∧ (v = 0 ∨ v = 1) ∧ (0 ≤ (mv_i σ1 3 9).toInt ∨ ∃ ms2 s2 a2, a < a2 ∧ XM 32 th e0 bs BL f0 g0 ns σ1 (ms2) (sm wt ms2 + v.toNatClampNeg) (sm wr ms2 + v.toNatClampNeg) (s2) ∧ TI σ1 sz bd ms2 s2 a2)))) σ 32 [(3, .int fl), (2, .int k8), (0, .ref (al 22)), (1, .int k9)] [] := by
    intro fl hfl
    have j265 : mv_V p l e ({ frames := 4, cells := 0, slots := 0, locals := 89 }) s m ([.ref (al 22), .int k9] : List Value).toArray below meth c (mg dA D al ext) 4 0 0 (mv_Q (mg dA D al ext) below s 0 0 (mv_Ri (fun v σ1 => RF 32 σ σ1 ∧ Mt (mv_a σ1 24) ∧ (v = 0 ∨ v = 1) ∧ (0 ≤ (mv_i σ1 3 9).toInt ∨ ∃ ms2 s2 a2, a < a2 ∧ XM 32 th e0 bs BL f0 g0 ns σ1 (ms2) (sm wt ms2 + v.toNatClampNeg) (sm wr ms2 + v.toNatClampNeg) (s2) ∧ TI σ1 sz bd ms2 s2 a2)))) σ 265 [(3, .int fl), (2, .int k8), (0, .ref (al 22)), (1, .int k9)] [] := by
      refine mv_aload_n (pc := 265) B d_Exprs_goOn_265 rfl 2 rfl ?_
      refine mv_getR (pc := 266) (ci := 6) (C := R_Exprs) (T := F_Exprs) (N := 11) B 0 rfl rfl (by decide) i_Exprs (B.2.2.2.1 _ k_193) rfl (hR.1 _ 0 _ rfl) d_Exprs_goOn_266 ?_
      refine mv_callVv (pc := 269) (n := 0) (ci := 2) (C := R_Tokens) B (mK_ok sk sv) hNs rfl rfl (c_Tokens_wrongN l hi _ hR.1 hB0.2.1 (by omega) (by omega)) rfl (ma_goodc kc_Tokens_wrong) (B.2.2.2.1 _ k_1459) (B.2.2.2.1 _ k_1275) (B.2.2.2.1 _ k_1276) (B.2.2.2.1 _ k_3) ⟨by decide +kernel, by decide +kernel, by decide +kernel⟩ rfl d_Exprs_goOn_269 rfl (Nat.le_of_ble_eq_true rfl) ⟨by decide, by decide⟩ ⟨by decide, by decide⟩ ⟨by decide, by decide⟩ (mv_noH hno _) (fun σ269 h269 => ?_)
      obtain ⟨w18, e18, z18⟩ := h269
      subst e18
      refine mv_gen (fun S272 eS272 => ?_)
      have hR : Rw 32 (mv_r S272) := by rw [eS272]; exact hR
      have hF : RF 32 σ S272 := by rw [eS272]; exact hF.tk3 _ _ _
      have hX : XM 32 th e0 bs BL f0 g0 ns S272 (((k8, w8) : Mk) :: ms) (sm wt (((k8, w8) : Mk) :: ms) + 1) (sm wr (((k8, w8) : Mk) :: ms) + 1) (s0) := by rw [eS272]; exact hX.tk3 hP _ _ _
      have hend : 0 ≤ (mv_i S272 3 9).toInt := by rw [eS272]; exact z18
      clear eS272
      refine mv_iconst (pc := 272) (v := 1) B d_Exprs_goOn_272 (by decide) ?_
      exact mv_iret (pc := 273) B hr rfl d_Exprs_goOn_273 (Nat.le_refl _) (Nat.le_refl _) ⟨_, rfl, hF, hX.1.2.2.2.1, Or.inr rfl, Or.inl hend⟩
    have j204 : mv_V p l e ({ frames := 4, cells := 0, slots := 0, locals := 89 }) s m ([.ref (al 22), .int k9] : List Value).toArray below meth c (mg dA D al ext) 4 0 0 (mv_Q (mg dA D al ext) below s 0 0 (mv_Ri (fun v σ1 => RF 32 σ σ1 ∧ Mt (mv_a σ1 24) ∧ (v = 0 ∨ v = 1) ∧ (0 ≤ (mv_i σ1 3 9).toInt ∨ ∃ ms2 s2 a2, a < a2 ∧ XM 32 th e0 bs BL f0 g0 ns σ1 (ms2) (sm wt ms2 + v.toNatClampNeg) (sm wr ms2 + v.toNatClampNeg) (s2) ∧ TI σ1 sz bd ms2 s2 a2)))) σ 204 [(3, .int fl), (2, .int k8), (0, .ref (al 22)), (1, .int k9)] [] := by
      refine mv_iload_n (pc := 204) B d_Exprs_goOn_204 rfl 1 rfl ?_
      refine mv_sipush (pc := 205) (v := 213) B d_Exprs_goOn_205 (by decide) ?_
      refine mv_icmp_lt (pc := 208) (tgt := 265) B d_Exprs_goOn_208 rfl (fun h208 => ?_) (fun h208 => ?_)
      · skip
        refine mv_lpick [0, 1, 2, 3] rfl ?_
        exact j265
      · skip
        refine mv_iload_n (pc := 211) B d_Exprs_goOn_211 rfl 1 rfl ?_
        refine mv_sipush (pc := 212) (v := 216) B d_Exprs_goOn_212 (by decide) ?_
        refine mv_icmp_gt (pc := 215) (tgt := 265) B d_Exprs_goOn_215 rfl (fun h215 => ?_) (fun h215 => ?_)
        · skip
          refine mv_lpick [0, 1, 2, 3] rfl ?_
          exact j265
        · skip
          refine mv_iload_n (pc := 218) B d_Exprs_goOn_218 rfl 3 rfl ?_
          refine mv_bipush (pc := 219) (v := 41) B d_Exprs_goOn_219 (by decide) ?_
          refine mv_icmp_ne (pc := 221) (tgt := 265) B d_Exprs_goOn_221 rfl (fun h221 => ?_) (fun h221 => ?_)
          · skip
            refine mv_lpick [0, 1, 2, 3] rfl ?_
            exact j265
          · skip
            refine mv_iload_n (pc := 224) B d_Exprs_goOn_224 rfl 0 rfl ?_
            refine mv_if_ne (pc := 225) (tgt := 265) B d_Exprs_goOn_225 rfl (fun h225 => ?_) (fun h225 => ?_)
            · skip
              refine mv_lpick [0, 1, 2, 3] rfl ?_
              exact j265
            · skip
              rw [Int32.lt_iff_toInt_lt] at h208
              simp only [Int32.reduceToInt] at h208
              rw [Int32.lt_iff_toInt_lt] at h215
              simp only [Int32.reduceToInt] at h215
              have hk4 : k8 = 213 ∨ k8 = 214 ∨ k8 = 215 ∨ k8 = 216 := by simp only [← Int32.toInt_inj, Int32.reduceToInt]; omega
              have hk5 : wd (k8, w8) = 1 ∧ wc (k8, w8) = 0 := by rcases hk4 with rfl | rfl | rfl | rfl <;> exact ⟨rfl, rfl⟩
              have hk6 : ¬ k8 = 63 ∧ ¬ k8 = 58 ∧ ¬ k8 = 91 := by rcases hk4 with rfl | rfl | rfl | rfl <;> decide
              have hk7 : ∀ y : Int32, wt (k8, y) = (if y = 0 then 0 else 1) ∧ wr (k8, y) = (if y = 0 then 0 else 1) := fun y => by rcases hk4 with rfl | rfl | rfl | rfl <;> exact ⟨rfl, rfl⟩
              have hk8 : wd (k8, 1) = 1 ∧ wc (k8, 1) = 0 ∧ ¬ k8 = 123 := by rcases hk4 with rfl | rfl | rfl | rfl <;> exact ⟨rfl, rfl, by decide⟩
              have hw0 : ¬ w8 = 0 := hfl.elim (fun q => absurd (q.1.symm.trans h225) (by decide)) (fun q => q.2)
              have x1 : wt (k8, w8) = 1 := (hk7 w8).1.trans (if_neg hw0)
              have x2 : wr (k8, w8) = 1 := (hk7 w8).2.trans (if_neg hw0)
              rw [g1, g2, x1, x2, show 1 + sm wt ms + 1 = sm wt ms + 2 by omega, show 1 + sm wr ms + 1 = sm wr ms + 2 by omega] at hX
              rw [h221] at hk3
              refine mv_aload_n (pc := 228) B d_Exprs_goOn_228 rfl 2 rfl ?_
              refine mv_getR (pc := 229) (ci := 6) (C := R_Exprs) (T := F_Exprs) (N := 11) B 0 rfl rfl (by decide) i_Exprs (B.2.2.2.1 _ k_193) rfl (hR.1 _ 0 _ rfl) d_Exprs_goOn_229 ?_
              refine mv_bipush (pc := 232) (v := 41) B d_Exprs_goOn_232 (by decide) ?_
              refine mv_callVi (pc := 234) (n := 1) (ci := 2) (C := R_Tokens) B (mK_ok sk sv) hNs rfl rfl (c_Tokens_closeN l hi _ _ hR.1 (hB0.rf hF hP ht2).2.1 (by omega) (by omega) (by decide)) rfl (ma_goodc kc_Tokens_close) (B.2.2.2.1 _ k_1468) (B.2.2.2.1 _ k_1397) (B.2.2.2.1 _ k_1398) (B.2.2.2.1 _ k_3) ⟨by decide +kernel, by decide +kernel, by decide +kernel⟩ rfl d_Exprs_goOn_234 rfl (Nat.le_of_ble_eq_true rfl) ⟨by decide, by decide⟩ ⟨by decide, by decide⟩ ⟨by decide, by decide⟩ (mv_noH hno _) (fun v234 σ234 h234 => ?_)
              obtain ⟨a234, w234, e234, r234⟩ := h234
              have q234 := r234.1
              have z234 := fun q => (r234.2.1 q).1
              have y234 := And.intro r234.2.2.2.1 r234.2.2.2.2.1
              subst e234
              have hw6 := r234.2.2.1 hw9 hk3 trivial
              refine mv_gen (fun S237 eS237 => ?_)
              have hR : Rw 32 (mv_r S237) := by rw [eS237]; exact hR
              have hF : RF 32 σ S237 := by rw [eS237]; exact hF.tk3 _ _ _
              have hX : XM 32 th e0 bs BL f0 g0 ns S237 (((k8, w8) : Mk) :: ms) (sm wt ms + 2) (sm wr ms + 2) (s0) := by rw [eS237]; exact hX.tk3 hP _ _ _
              have t7 : (mv_i S237 3 7).toInt = a234.toInt := by rw [eS237]; rfl
              have t8 : (mv_i S237 3 8).toInt = (mv_i σ 3 8).toInt - 1 := by rw [eS237]; first | exact t8 | exact (sub_one (by omega)).trans (by omega) | exact (i32_inc (by omega)).trans (by omega)
              have t9 : (mv_i S237 3 9).toInt = w234.toInt := by rw [eS237]; rfl
              have kS237 : mv_a S237 4 = mv_a σ 4 := by rw [eS237]; first | rfl | exact kp
              have kp := kS237
              clear eS237
              refine mv_pop (pc := 237) B d_Exprs_goOn_237 rfl ?_
              refine mv_aload_n (pc := 238) B d_Exprs_goOn_238 rfl 2 rfl ?_
              refine mv_dup (pc := 239) B d_Exprs_goOn_239 rfl ?_
              refine mv_getI (pc := 240) (ci := 6) (C := R_Exprs) (T := F_Exprs) (N := 11) B 8 rfl rfl (by decide) i_Exprs (B.2.2.2.1 _ k_202) rfl d_Exprs_goOn_240 ?_
              refine mv_iconst (pc := 243) (v := 1) B d_Exprs_goOn_243 (by decide) ?_
              refine mv_isub (pc := 244) B d_Exprs_goOn_244 ?_
              refine mv_putI (pc := 245) (ci := 6) (C := R_Exprs) (T := F_Exprs) (N := 11) B 8 rfl rfl (by decide) i_Exprs t_Exprs_ok n_Exprs (B.2.2.2.1 _ k_202) rfl rfl rfl rfl d_Exprs_goOn_245 ?_
              refine mv_gen (fun S248 eS248 => ?_)
              have hR : Rw 32 (mv_r S248) := by rw [eS248]; exact hR
              have hF : RF 32 σ S248 := by rw [eS248]; exact hF.pop
              have hX : XM 32 th e0 bs BL f0 g0 ns S248 (ms) (sm wt ms + 2) (sm wr ms + 2) (s0) := by rw [eS248]; exact hX.pop hP ⟨hk6.1, hk6.2.1⟩
              have t7 := Eq.trans (congrArg Int32.toInt (show mv_i S248 3 7 = mv_i _ 3 7 by rw [eS248]; rfl)) t7
              have t8 := Eq.trans (congrArg Int32.toInt (show mv_i S248 3 8 = mv_i _ 3 8 by rw [eS248]; rfl)) t8
              have t9 := Eq.trans (congrArg Int32.toInt (show mv_i S248 3 9 = mv_i _ 3 9 by rw [eS248]; rfl)) t9
              have kp := Eq.trans (show mv_a S248 4 = mv_a _ 4 by rw [eS248]; rfl) kp
              have hk9 := hX.tok (i := (mv_i S248 22 8).toNatClampNeg) (by have := hX.n; omega)
              clear eS248
              refine mv_aload_n (pc := 248) B d_Exprs_goOn_248 rfl 2 rfl ?_
              refine mv_iload_n (pc := 249) B d_Exprs_goOn_249 rfl 1 rfl ?_
              refine mv_aload_n (pc := 250) B d_Exprs_goOn_250 rfl 2 rfl ?_
              refine mv_getR (pc := 251) (ci := 6) (C := R_Exprs) (T := F_Exprs) (N := 11) B 5 rfl rfl (by decide) i_Exprs (B.2.2.2.1 _ k_199) rfl (hR.1 _ 5 _ rfl) d_Exprs_goOn_251 ?_
              refine mv_aload_n (pc := 254) B d_Exprs_goOn_254 rfl 2 rfl ?_
              refine mv_getI (pc := 255) (ci := 6) (C := R_Exprs) (T := F_Exprs) (N := 11) B 8 rfl rfl (by decide) i_Exprs (B.2.2.2.1 _ k_202) rfl d_Exprs_goOn_255 ?_
              refine mv_iald (pc := 258) B rfl (i32_in (show 0 ≤ (mv_i S248 22 8).toInt by have := hX.1.1; omega) (show (mv_i S248 22 8).toInt < 1024 by have := hX.1.1; omega)) d_Exprs_goOn_258 ?_
              refine mv_callVv (pc := 259) (n := 2) (ci := 6) (C := R_Exprs) B (mK_ok sk sv) hNs rfl rfl (c_Exprs_ofTwo_a l hi _ _ _ (hB0.rf hF hP ht2) ht2 hX (Or.inr hk4) hk9.1 hk9.2 (by omega) (by omega) (by omega)) rfl (ma_goodc kc_Exprs_ofTwo) (B.2.2.2.1 _ k_1489) (B.2.2.2.1 _ k_1491) (B.2.2.2.1 _ ks_57) (B.2.2.2.1 _ k_7) ⟨by decide +kernel, by decide +kernel, by decide +kernel⟩ rfl d_Exprs_goOn_259 rfl (Nat.le_of_ble_eq_true rfl) ⟨by decide, by decide⟩ ⟨by decide, by decide⟩ ⟨by decide, by decide⟩ (mv_noH hno _) (fun σ259 h259 => ?_)
              obtain ⟨f259, x259, t259⟩ := h259
              refine mv_gen (fun S272 eS272 => ?_)
              subst eS272
              refine mv_goto (pc := 262) (tgt := 272) B d_Exprs_goOn_262 rfl ?_
              refine mv_iconst (pc := 272) (v := 1) B d_Exprs_goOn_272 (by decide) ?_
              exact mv_iret (pc := 273) B hr rfl d_Exprs_goOn_273 (Nat.le_refl _) (Nat.le_refl _) ⟨_, rfl, hF.tr f259, x259.1.2.2.2.1, Or.inr rfl, Or.inr ⟨ms, s0 + 1, a + 1, by omega, x259, by rw [t259]; omega, by rw [t259]; omega, by rw [t259]; omega, by rw [t259]; omega, by omega, by omega, hWm.tail.up (by omega)⟩⟩
    have j156 : mv_V p l e ({ frames := 4, cells := 0, slots := 0, locals := 89 }) s m ([.ref (al 22), .int k9] : List Value).toArray below meth c (mg dA D al ext) 4 0 0 (mv_Q (mg dA D al ext) below s 0 0 (mv_Ri (fun v σ1 => RF 32 σ σ1 ∧ Mt (mv_a σ1 24) ∧ (v = 0 ∨ v = 1) ∧ (0 ≤ (mv_i σ1 3 9).toInt ∨ ∃ ms2 s2 a2, a < a2 ∧ XM 32 th e0 bs BL f0 g0 ns σ1 (ms2) (sm wt ms2 + v.toNatClampNeg) (sm wr ms2 + v.toNatClampNeg) (s2) ∧ TI σ1 sz bd ms2 s2 a2)))) σ 156 [(3, .int fl), (2, .int k8), (0, .ref (al 22)), (1, .int k9)] [] := by
      refine mv_iload_n (pc := 156) B d_Exprs_goOn_156 rfl 1 rfl ?_
      refine mv_sipush (pc := 157) (v := 213) B d_Exprs_goOn_157 (by decide) ?_
      refine mv_icmp_lt (pc := 160) (tgt := 204) B d_Exprs_goOn_160 rfl (fun h160 => ?_) (fun h160 => ?_)
      · skip
        refine mv_lpick [0, 1, 2, 3] rfl ?_
        exact j204
      · skip
        refine mv_iload_n (pc := 163) B d_Exprs_goOn_163 rfl 1 rfl ?_
        refine mv_sipush (pc := 164) (v := 216) B d_Exprs_goOn_164 (by decide) ?_
        refine mv_icmp_gt (pc := 167) (tgt := 204) B d_Exprs_goOn_167 rfl (fun h167 => ?_) (fun h167 => ?_)
        · skip
          refine mv_lpick [0, 1, 2, 3] rfl ?_
          exact j204
        · skip
          refine mv_iload_n (pc := 170) B d_Exprs_goOn_170 rfl 3 rfl ?_
          refine mv_bipush (pc := 171) (v := 44) B d_Exprs_goOn_171 (by decide) ?_
          refine mv_icmp_ne (pc := 173) (tgt := 204) B d_Exprs_goOn_173 rfl (fun h173 => ?_) (fun h173 => ?_)
          · skip
            refine mv_lpick [0, 1, 2, 3] rfl ?_
            exact j204
          · skip
            refine mv_iload_n (pc := 176) B d_Exprs_goOn_176 rfl 0 rfl ?_
            refine mv_if_eq (pc := 177) (tgt := 204) B d_Exprs_goOn_177 rfl (fun h177 => ?_) (fun h177 => ?_)
            · skip
              refine mv_lpick [0, 1, 2, 3] rfl ?_
              exact j204
            · skip
              rw [Int32.lt_iff_toInt_lt] at h160
              simp only [Int32.reduceToInt] at h160
              rw [Int32.lt_iff_toInt_lt] at h167
              simp only [Int32.reduceToInt] at h167
              have hk4 : k8 = 213 ∨ k8 = 214 ∨ k8 = 215 ∨ k8 = 216 := by simp only [← Int32.toInt_inj, Int32.reduceToInt]; omega
              have hk5 : wd (k8, w8) = 1 ∧ wc (k8, w8) = 0 := by rcases hk4 with rfl | rfl | rfl | rfl <;> exact ⟨rfl, rfl⟩
              have hk6 : ¬ k8 = 63 ∧ ¬ k8 = 58 ∧ ¬ k8 = 91 := by rcases hk4 with rfl | rfl | rfl | rfl <;> decide
              have hk7 : ∀ y : Int32, wt (k8, y) = (if y = 0 then 0 else 1) ∧ wr (k8, y) = (if y = 0 then 0 else 1) := fun y => by rcases hk4 with rfl | rfl | rfl | rfl <;> exact ⟨rfl, rfl⟩
              have hk8 : wd (k8, 1) = 1 ∧ wc (k8, 1) = 0 ∧ ¬ k8 = 123 := by rcases hk4 with rfl | rfl | rfl | rfl <;> exact ⟨rfl, rfl, by decide⟩
              have hw0 : w8 = 0 := hfl.elim (fun q => q.2) (fun q => absurd q.1 h177)
              rw [h173] at hk3
              have x1 : wt (k8, w8) = 0 := (hk7 w8).1.trans (if_pos hw0)
              have x2 : wr (k8, w8) = 0 := (hk7 w8).2.trans (if_pos hw0)
              rw [g1, g2, x1, x2, Nat.zero_add, Nat.zero_add] at hX
              refine mv_aload_n (pc := 180) B d_Exprs_goOn_180 rfl 2 rfl ?_
              refine mv_getR (pc := 181) (ci := 6) (C := R_Exprs) (T := F_Exprs) (N := 11) B 0 rfl rfl (by decide) i_Exprs (B.2.2.2.1 _ k_193) rfl (hR.1 _ 0 _ rfl) d_Exprs_goOn_181 ?_
              refine mv_bipush (pc := 184) (v := 44) B d_Exprs_goOn_184 (by decide) ?_
              refine mv_callVi (pc := 186) (n := 1) (ci := 2) (C := R_Tokens) B (mK_ok sk sv) hNs rfl rfl (c_Tokens_takeN l hi _ _ hR.1 (hB0.rf hF hP ht2).2.1 (by omega) (by omega) (by decide)) rfl (ma_goodc kc_Tokens_take) (B.2.2.2.1 _ k_1424) (B.2.2.2.1 _ k_1267) (B.2.2.2.1 _ k_1268) (B.2.2.2.1 _ k_3) ⟨by decide +kernel, by decide +kernel, by decide +kernel⟩ rfl d_Exprs_goOn_186 rfl (Nat.le_of_ble_eq_true rfl) ⟨by decide, by decide⟩ ⟨by decide, by decide⟩ ⟨by decide, by decide⟩ (mv_noH hno _) (fun v186 σ186 h186 => ?_)
              obtain ⟨a186, w186, e186, r186⟩ := h186
              have q186 := r186.1
              have z186 := fun q => (r186.2.1 q).1
              have y186 := And.intro r186.2.2.2.1 r186.2.2.2.2.1
              subst e186
              have hw6 := r186.2.2.1 hw9 hk3 trivial
              refine mv_gen (fun S189 eS189 => ?_)
              have hR : Rw 32 (mv_r S189) := by rw [eS189]; exact hR
              have hF : RF 32 σ S189 := by rw [eS189]; exact hF.tk3 _ _ _
              have hX : XM 32 th e0 bs BL f0 g0 ns S189 (((k8, w8) : Mk) :: ms) (sm wt ms + 1) (sm wr ms + 1) (s0) := by rw [eS189]; exact hX.tk3 hP _ _ _
              have t7 : (mv_i S189 3 7).toInt = a186.toInt := by rw [eS189]; rfl
              have t8 : (mv_i S189 3 8).toInt = (mv_i σ 3 8).toInt := by rw [eS189]; first | exact t8 | exact (sub_one (by omega)).trans (by omega) | exact (i32_inc (by omega)).trans (by omega)
              have t9 : (mv_i S189 3 9).toInt = w186.toInt := by rw [eS189]; rfl
              have kS189 : mv_a S189 4 = mv_a σ 4 := by rw [eS189]; first | rfl | exact kp
              have kp := kS189
              obtain ⟨p1, p2, p3, p4⟩ := hX.top
              clear eS189
              refine mv_pop (pc := 189) B d_Exprs_goOn_189 rfl ?_
              refine mv_aload_n (pc := 190) B d_Exprs_goOn_190 rfl 2 rfl ?_
              refine mv_getR (pc := 191) (ci := 6) (C := R_Exprs) (T := F_Exprs) (N := 11) B 6 rfl rfl (by decide) i_Exprs (B.2.2.2.1 _ k_200) rfl (hR.1 _ 6 _ rfl) d_Exprs_goOn_191 ?_
              refine mv_aload_n (pc := 194) B d_Exprs_goOn_194 rfl 2 rfl ?_
              refine mv_getI (pc := 195) (ci := 6) (C := R_Exprs) (T := F_Exprs) (N := 11) B 8 rfl rfl (by decide) i_Exprs (B.2.2.2.1 _ k_202) rfl d_Exprs_goOn_195 ?_
              refine mv_iconst (pc := 198) (v := 1) B d_Exprs_goOn_198 (by decide) ?_
              refine mv_isub (pc := 199) B d_Exprs_goOn_199 ?_
              refine mv_iconst (pc := 200) (v := 1) B d_Exprs_goOn_200 (by decide) ?_
              refine mv_iast (pc := 201) B rfl (i32_in (by omega) (by omega)) d_Exprs_goOn_201 ?_
              refine mv_gen (fun S202 eS202 => ?_)
              have hR : Rw 32 (mv_r S202) := by rw [eS202]; exact hR
              have hF : RF 32 σ S202 := by rw [eS202]; exact hF.row ⟨by omega, by omega⟩ _ _
              have hX : XM 32 th e0 bs BL f0 g0 ns S202 (((k8, 1) : Mk) :: ms) (sm wt ms + 1) (sm wr ms + 1) (s0) := by rw [eS202]; exact hX.with hP p2 hk6
              have t7 := Eq.trans (congrArg Int32.toInt (show mv_i S202 3 7 = mv_i _ 3 7 by rw [eS202]; rfl)) t7
              have t8 := Eq.trans (congrArg Int32.toInt (show mv_i S202 3 8 = mv_i _ 3 8 by rw [eS202]; rfl)) t8
              have t9 := Eq.trans (congrArg Int32.toInt (show mv_i S202 3 9 = mv_i _ 3 9 by rw [eS202]; rfl)) t9
              have kp := Eq.trans (show mv_a S202 4 = mv_a _ 4 by rw [eS202]; rfl) kp
              have y1 : sm wt (((k8, 1) : Mk) :: ms) = wt (k8, 1) + sm wt ms := rfl
              have y2 : sm wr (((k8, 1) : Mk) :: ms) = wr (k8, 1) + sm wr ms := rfl
              have y3 : sm wd (((k8, 1) : Mk) :: ms) = wd (k8, 1) + sm wd ms := rfl
              have y4 : sm wc (((k8, 1) : Mk) :: ms) = wc (k8, 1) + sm wc ms := rfl
              have x3 : wt (k8, 1) = 1 := (hk7 1).1
              have x4 : wr (k8, 1) = 1 := (hk7 1).2
              clear eS202
              refine mv_iconst (pc := 202) (v := 0) B d_Exprs_goOn_202 (by decide) ?_
              exact mv_iret (pc := 203) B hr rfl d_Exprs_goOn_203 (Nat.le_refl _) (Nat.le_refl _) ⟨_, rfl, hF, hX.1.2.2.2.1, Or.inl rfl, Or.inr ⟨((k8, 1) : Mk) :: ms, s0, a + 1, by omega, by rw [y1, y2, x3, x4, Nat.add_comm 1, Nat.add_comm 1]; exact hX, by omega, by omega, by omega, by omega, by omega, by omega, (hWm.tail.up (by omega)).cons (fun q => absurd q hk8.2.2)⟩⟩
    have j128 : mv_V p l e ({ frames := 4, cells := 0, slots := 0, locals := 89 }) s m ([.ref (al 22), .int k9] : List Value).toArray below meth c (mg dA D al ext) 4 0 0 (mv_Q (mg dA D al ext) below s 0 0 (mv_Ri (fun v σ1 => RF 32 σ σ1 ∧ Mt (mv_a σ1 24) ∧ (v = 0 ∨ v = 1) ∧ (0 ≤ (mv_i σ1 3 9).toInt ∨ ∃ ms2 s2 a2, a < a2 ∧ XM 32 th e0 bs BL f0 g0 ns σ1 (ms2) (sm wt ms2 + v.toNatClampNeg) (sm wr ms2 + v.toNatClampNeg) (s2) ∧ TI σ1 sz bd ms2 s2 a2)))) σ 128 [(3, .int fl), (2, .int k8), (0, .ref (al 22)), (1, .int k9)] [] := by
      refine mv_iload_n (pc := 128) B d_Exprs_goOn_128 rfl 1 rfl ?_
      refine mv_sipush (pc := 129) (v := 211) B d_Exprs_goOn_129 (by decide) ?_
      refine mv_icmp_eq (pc := 132) (tgt := 142) B d_Exprs_goOn_132 rfl (fun h132 => ?_) (fun h132 => ?_)
      · skip
        have hk2 : k8 = 211 ∨ k8 = 212 := Or.inl h132
        refine mv_iload_n (pc := 142) B d_Exprs_goOn_142 rfl 3 rfl ?_
        refine mv_bipush (pc := 143) (v := 44) B d_Exprs_goOn_143 (by decide) ?_
        refine mv_icmp_ne (pc := 145) (tgt := 156) B d_Exprs_goOn_145 rfl (fun h145 => ?_) (fun h145 => ?_)
        · skip
          refine mv_lpick [0, 1, 2, 3] rfl ?_
          exact j156
        · skip
          rw [h145] at hk3
          refine mv_aload_n (pc := 148) B d_Exprs_goOn_148 rfl 2 rfl ?_
          refine mv_iload_n (pc := 149) B d_Exprs_goOn_149 rfl 1 rfl ?_
          refine mv_callVv (pc := 150) (n := 1) (ci := 6) (C := R_Exprs) B (mK_ok sk sv) hNs rfl rfl (c_Exprs_widen_a l hi _ _ _ hB0 ht2 hX hI hlen hbs hk3 hk2) rfl (ma_goodc kc_Exprs_widen) (B.2.2.2.1 _ k_1518) (B.2.2.2.1 _ k_1520) (B.2.2.2.1 _ ks_64) (B.2.2.2.1 _ k_7) ⟨by decide +kernel, by decide +kernel, by decide +kernel⟩ rfl d_Exprs_goOn_150 rfl (Nat.le_of_ble_eq_true rfl) ⟨by decide, by decide⟩ ⟨by decide, by decide⟩ ⟨by decide, by decide⟩ (mv_noH hno _) (fun σ150 h150 => ?_)
          refine mv_goto (pc := 153) (tgt := 272) B d_Exprs_goOn_153 rfl ?_
          refine mv_iconst (pc := 272) (v := 1) B d_Exprs_goOn_272 (by decide) ?_
          exact mv_iret (pc := 273) B hr rfl d_Exprs_goOn_273 (Nat.le_refl _) (Nat.le_refl _) ⟨_, rfl, h150.1, h150.2.1, Or.inr rfl, h150.2.2⟩
      · skip
        refine mv_iload_n (pc := 135) B d_Exprs_goOn_135 rfl 1 rfl ?_
        refine mv_sipush (pc := 136) (v := 212) B d_Exprs_goOn_136 (by decide) ?_
        refine mv_icmp_ne (pc := 139) (tgt := 156) B d_Exprs_goOn_139 rfl (fun h139 => ?_) (fun h139 => ?_)
        · skip
          refine mv_lpick [0, 1, 2, 3] rfl ?_
          exact j156
        · skip
          have hk2 : k8 = 211 ∨ k8 = 212 := Or.inr h139
          refine mv_iload_n (pc := 142) B d_Exprs_goOn_142 rfl 3 rfl ?_
          refine mv_bipush (pc := 143) (v := 44) B d_Exprs_goOn_143 (by decide) ?_
          refine mv_icmp_ne (pc := 145) (tgt := 156) B d_Exprs_goOn_145 rfl (fun h145 => ?_) (fun h145 => ?_)
          · skip
            refine mv_lpick [0, 1, 2, 3] rfl ?_
            exact j156
          · skip
            rw [h145] at hk3
            refine mv_aload_n (pc := 148) B d_Exprs_goOn_148 rfl 2 rfl ?_
            refine mv_iload_n (pc := 149) B d_Exprs_goOn_149 rfl 1 rfl ?_
            refine mv_callVv (pc := 150) (n := 1) (ci := 6) (C := R_Exprs) B (mK_ok sk sv) hNs rfl rfl (c_Exprs_widen_a l hi _ _ _ hB0 ht2 hX hI hlen hbs hk3 hk2) rfl (ma_goodc kc_Exprs_widen) (B.2.2.2.1 _ k_1518) (B.2.2.2.1 _ k_1520) (B.2.2.2.1 _ ks_64) (B.2.2.2.1 _ k_7) ⟨by decide +kernel, by decide +kernel, by decide +kernel⟩ rfl d_Exprs_goOn_150 rfl (Nat.le_of_ble_eq_true rfl) ⟨by decide, by decide⟩ ⟨by decide, by decide⟩ ⟨by decide, by decide⟩ (mv_noH hno _) (fun σ150 h150 => ?_)
            refine mv_goto (pc := 153) (tgt := 272) B d_Exprs_goOn_153 rfl ?_
            refine mv_iconst (pc := 272) (v := 1) B d_Exprs_goOn_272 (by decide) ?_
            exact mv_iret (pc := 273) B hr rfl d_Exprs_goOn_273 (Nat.le_refl _) (Nat.le_refl _) ⟨_, rfl, h150.1, h150.2.1, Or.inr rfl, h150.2.2⟩
    have j93 : mv_V p l e ({ frames := 4, cells := 0, slots := 0, locals := 89 }) s m ([.ref (al 22), .int k9] : List Value).toArray below meth c (mg dA D al ext) 4 0 0 (mv_Q (mg dA D al ext) below s 0 0 (mv_Ri (fun v σ1 => RF 32 σ σ1 ∧ Mt (mv_a σ1 24) ∧ (v = 0 ∨ v = 1) ∧ (0 ≤ (mv_i σ1 3 9).toInt ∨ ∃ ms2 s2 a2, a < a2 ∧ XM 32 th e0 bs BL f0 g0 ns σ1 (ms2) (sm wt ms2 + v.toNatClampNeg) (sm wr ms2 + v.toNatClampNeg) (s2) ∧ TI σ1 sz bd ms2 s2 a2)))) σ 93 [(3, .int fl), (2, .int k8), (0, .ref (al 22)), (1, .int k9)] [] := by
      refine mv_iload_n (pc := 93) B d_Exprs_goOn_93 rfl 1 rfl ?_
      refine mv_bipush (pc := 94) (v := 40) B d_Exprs_goOn_94 (by decide) ?_
      refine mv_icmp_ne (pc := 96) (tgt := 128) B d_Exprs_goOn_96 rfl (fun h96 => ?_) (fun h96 => ?_)
      · skip
        refine mv_lpick [0, 1, 2, 3] rfl ?_
        exact j128
      · skip
        refine mv_iload_n (pc := 99) B d_Exprs_goOn_99 rfl 3 rfl ?_
        refine mv_bipush (pc := 100) (v := 41) B d_Exprs_goOn_100 (by decide) ?_
        refine mv_icmp_ne (pc := 102) (tgt := 128) B d_Exprs_goOn_102 rfl (fun h102 => ?_) (fun h102 => ?_)
        · skip
          refine mv_lpick [0, 1, 2, 3] rfl ?_
          exact j128
        · skip
          rw [h102] at hk3
          subst h96
          have x1 : wt (40, w8) = 0 := rfl
          have x2 : wr (40, w8) = 0 := rfl
          have x3 : wd (40, w8) = 1 := rfl
          have x4 : wc (40, w8) = 0 := rfl
          rw [g1, g2, x1, x2, Nat.zero_add, Nat.zero_add] at hX
          refine mv_aload_n (pc := 105) B d_Exprs_goOn_105 rfl 2 rfl ?_
          refine mv_getR (pc := 106) (ci := 6) (C := R_Exprs) (T := F_Exprs) (N := 11) B 0 rfl rfl (by decide) i_Exprs (B.2.2.2.1 _ k_193) rfl (hR.1 _ 0 _ rfl) d_Exprs_goOn_106 ?_
          refine mv_bipush (pc := 109) (v := 41) B d_Exprs_goOn_109 (by decide) ?_
          refine mv_callVi (pc := 111) (n := 1) (ci := 2) (C := R_Tokens) B (mK_ok sk sv) hNs rfl rfl (c_Tokens_closeN l hi _ _ hR.1 (hB0.rf hF hP ht2).2.1 (by omega) (by omega) (by decide)) rfl (ma_goodc kc_Tokens_close) (B.2.2.2.1 _ k_1468) (B.2.2.2.1 _ k_1397) (B.2.2.2.1 _ k_1398) (B.2.2.2.1 _ k_3) ⟨by decide +kernel, by decide +kernel, by decide +kernel⟩ rfl d_Exprs_goOn_111 rfl (Nat.le_of_ble_eq_true rfl) ⟨by decide, by decide⟩ ⟨by decide, by decide⟩ ⟨by decide, by decide⟩ (mv_noH hno _) (fun v111 σ111 h111 => ?_)
          obtain ⟨a111, w111, e111, r111⟩ := h111
          have q111 := r111.1
          have z111 := fun q => (r111.2.1 q).1
          have y111 := And.intro r111.2.2.2.1 r111.2.2.2.2.1
          subst e111
          have hw6 := r111.2.2.1 hw9 hk3 trivial
          refine mv_gen (fun S114 eS114 => ?_)
          have hR : Rw 32 (mv_r S114) := by rw [eS114]; exact hR
          have hF : RF 32 σ S114 := by rw [eS114]; exact hF.tk3 _ _ _
          have hX : XM 32 th e0 bs BL f0 g0 ns S114 (((40, w8) : Mk) :: ms) (sm wt ms + 1) (sm wr ms + 1) (s0) := by rw [eS114]; exact hX.tk3 hP _ _ _
          have t7 : (mv_i S114 3 7).toInt = a111.toInt := by rw [eS114]; rfl
          have t8 : (mv_i S114 3 8).toInt = (mv_i σ 3 8).toInt - 1 := by rw [eS114]; first | exact t8 | exact (sub_one (by omega)).trans (by omega) | exact (i32_inc (by omega)).trans (by omega)
          have t9 : (mv_i S114 3 9).toInt = w111.toInt := by rw [eS114]; rfl
          have kS114 : mv_a S114 4 = mv_a σ 4 := by rw [eS114]; first | rfl | exact kp
          have kp := kS114
          clear eS114
          refine mv_pop (pc := 114) B d_Exprs_goOn_114 rfl ?_
          refine mv_aload_n (pc := 115) B d_Exprs_goOn_115 rfl 2 rfl ?_
          refine mv_dup (pc := 116) B d_Exprs_goOn_116 rfl ?_
          refine mv_getI (pc := 117) (ci := 6) (C := R_Exprs) (T := F_Exprs) (N := 11) B 8 rfl rfl (by decide) i_Exprs (B.2.2.2.1 _ k_202) rfl d_Exprs_goOn_117 ?_
          refine mv_iconst (pc := 120) (v := 1) B d_Exprs_goOn_120 (by decide) ?_
          refine mv_isub (pc := 121) B d_Exprs_goOn_121 ?_
          refine mv_putI (pc := 122) (ci := 6) (C := R_Exprs) (T := F_Exprs) (N := 11) B 8 rfl rfl (by decide) i_Exprs t_Exprs_ok n_Exprs (B.2.2.2.1 _ k_202) rfl rfl rfl rfl d_Exprs_goOn_122 ?_
          refine mv_gen (fun S125 eS125 => ?_)
          have hR : Rw 32 (mv_r S125) := by rw [eS125]; exact hR
          have hF : RF 32 σ S125 := by rw [eS125]; exact hF.pop
          have hX : XM 32 th e0 bs BL f0 g0 ns S125 (ms) (sm wt ms + 1) (sm wr ms + 1) (s0) := by rw [eS125]; exact hX.pop hP ⟨show ¬ (40 : Int32) = 63 by decide, show ¬ (40 : Int32) = 58 by decide⟩
          have t7 := Eq.trans (congrArg Int32.toInt (show mv_i S125 3 7 = mv_i _ 3 7 by rw [eS125]; rfl)) t7
          have t8 := Eq.trans (congrArg Int32.toInt (show mv_i S125 3 8 = mv_i _ 3 8 by rw [eS125]; rfl)) t8
          have t9 := Eq.trans (congrArg Int32.toInt (show mv_i S125 3 9 = mv_i _ 3 9 by rw [eS125]; rfl)) t9
          have kp := Eq.trans (show mv_a S125 4 = mv_a _ 4 by rw [eS125]; rfl) kp
          clear eS125
          refine mv_goto (pc := 125) (tgt := 272) B d_Exprs_goOn_125 rfl ?_
          refine mv_iconst (pc := 272) (v := 1) B d_Exprs_goOn_272 (by decide) ?_
          exact mv_iret (pc := 273) B hr rfl d_Exprs_goOn_273 (Nat.le_refl _) (Nat.le_refl _) ⟨_, rfl, hF, hX.1.2.2.2.1, Or.inr rfl, Or.inr ⟨ms, s0, a + 1, by omega, hX, by omega, by omega, by omega, by omega, by omega, by omega, hWm.tail.up (by omega)⟩⟩
    have j74 : mv_V p l e ({ frames := 4, cells := 0, slots := 0, locals := 89 }) s m ([.ref (al 22), .int k9] : List Value).toArray below meth c (mg dA D al ext) 4 0 0 (mv_Q (mg dA D al ext) below s 0 0 (mv_Ri (fun v σ1 => RF 32 σ σ1 ∧ Mt (mv_a σ1 24) ∧ (v = 0 ∨ v = 1) ∧ (0 ≤ (mv_i σ1 3 9).toInt ∨ ∃ ms2 s2 a2, a < a2 ∧ XM 32 th e0 bs BL f0 g0 ns σ1 (ms2) (sm wt ms2 + v.toNatClampNeg) (sm wr ms2 + v.toNatClampNeg) (s2) ∧ TI σ1 sz bd ms2 s2 a2)))) σ 74 [(3, .int fl), (2, .int k8), (0, .ref (al 22)), (1, .int k9)] [] := by
      refine mv_iload_n (pc := 74) B d_Exprs_goOn_74 rfl 1 rfl ?_
      refine mv_bipush (pc := 75) (v := 91) B d_Exprs_goOn_75 (by decide) ?_
      refine mv_icmp_ne (pc := 77) (tgt := 93) B d_Exprs_goOn_77 rfl (fun h77 => ?_) (fun h77 => ?_)
      · skip
        refine mv_lpick [0, 1, 2, 3] rfl ?_
        exact j93
      · skip
        refine mv_iload_n (pc := 80) B d_Exprs_goOn_80 rfl 3 rfl ?_
        refine mv_bipush (pc := 81) (v := 93) B d_Exprs_goOn_81 (by decide) ?_
        refine mv_icmp_ne (pc := 83) (tgt := 93) B d_Exprs_goOn_83 rfl (fun h83 => ?_) (fun h83 => ?_)
        · skip
          refine mv_lpick [0, 1, 2, 3] rfl ?_
          exact j93
        · skip
          rw [h83] at hk3
          subst h77
          refine mv_aload_n (pc := 86) B d_Exprs_goOn_86 rfl 2 rfl ?_
          refine mv_callVv (pc := 87) (n := 0) (ci := 6) (C := R_Exprs) B (mK_ok sk sv) hNs rfl rfl (c_Exprs_cell_a l hi _ _ hB0 ht2 hX hI hlen hbs hk3) rfl (ma_goodc kc_Exprs_cell) (B.2.2.2.1 _ k_1514) (B.2.2.2.1 _ k_1516) (B.2.2.2.1 _ ks_63) (B.2.2.2.1 _ k_7) ⟨by decide +kernel, by decide +kernel, by decide +kernel⟩ rfl d_Exprs_goOn_87 rfl (Nat.le_of_ble_eq_true rfl) ⟨by decide, by decide⟩ ⟨by decide, by decide⟩ ⟨by decide, by decide⟩ (mv_noH hno _) (fun σ87 h87 => ?_)
          refine mv_goto (pc := 90) (tgt := 272) B d_Exprs_goOn_90 rfl ?_
          refine mv_iconst (pc := 272) (v := 1) B d_Exprs_goOn_272 (by decide) ?_
          exact mv_iret (pc := 273) B hr rfl d_Exprs_goOn_273 (Nat.le_refl _) (Nat.le_refl _) ⟨_, rfl, h87.1, h87.2.1, Or.inr rfl, h87.2.2⟩
    have j50 : mv_V p l e ({ frames := 4, cells := 0, slots := 0, locals := 89 }) s m ([.ref (al 22), .int k9] : List Value).toArray below meth c (mg dA D al ext) 4 0 0 (mv_Q (mg dA D al ext) below s 0 0 (mv_Ri (fun v σ1 => RF 32 σ σ1 ∧ Mt (mv_a σ1 24) ∧ (v = 0 ∨ v = 1) ∧ (0 ≤ (mv_i σ1 3 9).toInt ∨ ∃ ms2 s2 a2, a < a2 ∧ XM 32 th e0 bs BL f0 g0 ns σ1 (ms2) (sm wt ms2 + v.toNatClampNeg) (sm wr ms2 + v.toNatClampNeg) (s2) ∧ TI σ1 sz bd ms2 s2 a2)))) σ 50 [(3, .int fl), (2, .int k8), (0, .ref (al 22)), (1, .int k9)] [] := by
      refine mv_iload_n (pc := 50) B d_Exprs_goOn_50 rfl 1 rfl ?_
      refine mv_bipush (pc := 51) (v := 123) B d_Exprs_goOn_51 (by decide) ?_
      refine mv_icmp_ne (pc := 53) (tgt := 74) B d_Exprs_goOn_53 rfl (fun h53 => ?_) (fun h53 => ?_)
      · skip
        refine mv_lpick [0, 1, 2, 3] rfl ?_
        exact j74
      · skip
        refine mv_iload_n (pc := 56) B d_Exprs_goOn_56 rfl 3 rfl ?_
        refine mv_bipush (pc := 57) (v := 44) B d_Exprs_goOn_57 (by decide) ?_
        refine mv_icmp_eq (pc := 59) (tgt := 68) B d_Exprs_goOn_59 rfl (fun h59 => ?_) (fun h59 => ?_)
        · skip
          subst h53
          have hkd : k9 = 44 ∨ k9 = 125 := Or.inl h59
          refine mv_aload_n (pc := 68) B d_Exprs_goOn_68 rfl 2 rfl ?_
          refine mv_iload_n (pc := 69) B d_Exprs_goOn_69 rfl 3 rfl ?_
          refine mv_callVi (pc := 70) (n := 1) (ci := 6) (C := R_Exprs) B (mK_ok sk sv) hNs rfl rfl (c_Exprs_join_a l hi _ _ _ hB0 ht2 hX hI hlen hbs hk3 hkd) rfl (ma_goodc kc_Exprs_join) (B.2.2.2.1 _ k_1510) (B.2.2.2.1 _ k_1512) (B.2.2.2.1 _ ks_62) (B.2.2.2.1 _ k_7) ⟨by decide +kernel, by decide +kernel, by decide +kernel⟩ rfl d_Exprs_goOn_70 rfl (Nat.le_of_ble_eq_true rfl) ⟨by decide, by decide⟩ ⟨by decide, by decide⟩ ⟨by decide, by decide⟩ (mv_noH hno _) (fun v70 σ70 h70 => ?_)
          exact mv_iret (pc := 73) B hr rfl d_Exprs_goOn_73 (Nat.le_refl _) (Nat.le_refl _) ⟨_, rfl, h70⟩
        · skip
          refine mv_iload_n (pc := 62) B d_Exprs_goOn_62 rfl 3 rfl ?_
          refine mv_bipush (pc := 63) (v := 125) B d_Exprs_goOn_63 (by decide) ?_
          refine mv_icmp_ne (pc := 65) (tgt := 74) B d_Exprs_goOn_65 rfl (fun h65 => ?_) (fun h65 => ?_)
          · skip
            refine mv_lpick [0, 1, 2, 3] rfl ?_
            exact j74
          · skip
            subst h53
            have hkd : k9 = 44 ∨ k9 = 125 := Or.inr h65
            refine mv_aload_n (pc := 68) B d_Exprs_goOn_68 rfl 2 rfl ?_
            refine mv_iload_n (pc := 69) B d_Exprs_goOn_69 rfl 3 rfl ?_
            refine mv_callVi (pc := 70) (n := 1) (ci := 6) (C := R_Exprs) B (mK_ok sk sv) hNs rfl rfl (c_Exprs_join_a l hi _ _ _ hB0 ht2 hX hI hlen hbs hk3 hkd) rfl (ma_goodc kc_Exprs_join) (B.2.2.2.1 _ k_1510) (B.2.2.2.1 _ k_1512) (B.2.2.2.1 _ ks_62) (B.2.2.2.1 _ k_7) ⟨by decide +kernel, by decide +kernel, by decide +kernel⟩ rfl d_Exprs_goOn_70 rfl (Nat.le_of_ble_eq_true rfl) ⟨by decide, by decide⟩ ⟨by decide, by decide⟩ ⟨by decide, by decide⟩ (mv_noH hno _) (fun v70 σ70 h70 => ?_)
            exact mv_iret (pc := 73) B hr rfl d_Exprs_goOn_73 (Nat.le_refl _) (Nat.le_refl _) ⟨_, rfl, h70⟩
    refine mv_iload_n (pc := 32) B d_Exprs_goOn_32 rfl 1 rfl ?_
    refine mv_bipush (pc := 33) (v := 63) B d_Exprs_goOn_33 (by decide) ?_
    refine mv_icmp_ne (pc := 35) (tgt := 50) B d_Exprs_goOn_35 rfl (fun h35 => ?_) (fun h35 => ?_)
    · skip
      refine mv_lpick [0, 1, 2, 3] rfl ?_
      exact j50
    · skip
      refine mv_iload_n (pc := 38) B d_Exprs_goOn_38 rfl 3 rfl ?_
      refine mv_bipush (pc := 39) (v := 58) B d_Exprs_goOn_39 (by decide) ?_
      refine mv_icmp_ne (pc := 41) (tgt := 50) B d_Exprs_goOn_41 rfl (fun h41 => ?_) (fun h41 => ?_)
      · skip
        refine mv_lpick [0, 1, 2, 3] rfl ?_
        exact j50
      · skip
        rw [h41] at hk3
        subst h35
        refine mv_aload_n (pc := 44) B d_Exprs_goOn_44 rfl 2 rfl ?_
        refine mv_callVv (pc := 45) (n := 0) (ci := 6) (C := R_Exprs) B (mK_ok sk sv) hNs rfl rfl (c_Exprs_otherwise_a l hi _ _ hB0 ht2 hX hI hlen hbs hk3) rfl (ma_goodc kc_Exprs_otherwise) (B.2.2.2.1 _ k_1506) (B.2.2.2.1 _ k_1508) (B.2.2.2.1 _ ks_61) (B.2.2.2.1 _ k_7) ⟨by decide +kernel, by decide +kernel, by decide +kernel⟩ rfl d_Exprs_goOn_45 rfl (Nat.le_of_ble_eq_true rfl) ⟨by decide, by decide⟩ ⟨by decide, by decide⟩ ⟨by decide, by decide⟩ (mv_noH hno _) (fun σ45 h45 => ?_)
        refine mv_iconst (pc := 48) (v := 0) B d_Exprs_goOn_48 (by decide) ?_
        exact mv_iret (pc := 49) B hr rfl d_Exprs_goOn_49 (Nat.le_refl _) (Nat.le_refl _) ⟨_, rfl, h45.1, h45.2.1, Or.inl rfl, h45.2.2⟩
  refine mv_aload_n (pc := 0) B d_Exprs_goOn_0 rfl 0 rfl ?_
  refine mv_getR (pc := 1) (ci := 6) (C := R_Exprs) (T := F_Exprs) (N := 11) B 4 rfl rfl (by decide) i_Exprs (B.2.2.2.1 _ k_198) rfl (hR.1 _ 4 _ rfl) d_Exprs_goOn_1 ?_
  refine mv_aload_n (pc := 4) B d_Exprs_goOn_4 rfl 0 rfl ?_
  refine mv_getI (pc := 5) (ci := 6) (C := R_Exprs) (T := F_Exprs) (N := 11) B 8 rfl rfl (by decide) i_Exprs (B.2.2.2.1 _ k_202) rfl d_Exprs_goOn_5 ?_
  refine mv_iconst (pc := 8) (v := 1) B d_Exprs_goOn_8 (by decide) ?_
  refine mv_isub (pc := 9) B d_Exprs_goOn_9 ?_
  refine mv_iald (pc := 10) B rfl (i32_in (by omega) (by omega)) d_Exprs_goOn_10 ?_
  rw [p3]
  refine mv_istore_n (pc := 11) B d_Exprs_goOn_11 rfl (by decide) rfl ?_
  refine mv_aload_n (pc := 12) B d_Exprs_goOn_12 rfl 1 rfl ?_
  refine mv_getR (pc := 13) (ci := 6) (C := R_Exprs) (T := F_Exprs) (N := 11) B 6 rfl rfl (by decide) i_Exprs (B.2.2.2.1 _ k_200) rfl (hR.1 _ 6 _ rfl) d_Exprs_goOn_13 ?_
  refine mv_aload_n (pc := 16) B d_Exprs_goOn_16 rfl 1 rfl ?_
  refine mv_getI (pc := 17) (ci := 6) (C := R_Exprs) (T := F_Exprs) (N := 11) B 8 rfl rfl (by decide) i_Exprs (B.2.2.2.1 _ k_202) rfl d_Exprs_goOn_17 ?_
  refine mv_iconst (pc := 20) (v := 1) B d_Exprs_goOn_20 (by decide) ?_
  refine mv_isub (pc := 21) B d_Exprs_goOn_21 ?_
  refine mv_iald (pc := 22) B rfl (i32_in (by omega) (by omega)) d_Exprs_goOn_22 ?_
  rw [p4]
  refine mv_if_ne (pc := 23) (tgt := 30) B d_Exprs_goOn_23 rfl (fun h23 => ?_) (fun h23 => ?_)
  · skip
    have hfl : ((0 : Int32) = 1 ∧ w8 = 0) ∨ ((0 : Int32) = 0 ∧ ¬ w8 = 0) := Or.inr ⟨rfl, h23⟩
    refine mv_iconst (pc := 30) (v := 0) B d_Exprs_goOn_30 (by decide) ?_
    refine mv_istore_n (pc := 31) B d_Exprs_goOn_31 rfl (by decide) rfl ?_
    refine mv_lpick [0, 1, 2, 3] rfl ?_
    exact j32 _ hfl
  · skip
    have hfl : ((1 : Int32) = 1 ∧ w8 = 0) ∨ ((1 : Int32) = 0 ∧ ¬ w8 = 0) := Or.inl ⟨rfl, h23⟩
    refine mv_iconst (pc := 26) (v := 1) B d_Exprs_goOn_26 (by decide) ?_
    refine mv_goto (pc := 27) (tgt := 31) B d_Exprs_goOn_27 rfl ?_
    refine mv_istore_n (pc := 31) B d_Exprs_goOn_31 rfl (by decide) rfl ?_
    refine mv_lpick [0, 1, 2, 3] rfl ?_
    exact j32 _ hfl
set_option maxHeartbeats 4000000 in
set_option maxRecDepth 100000 in
theorem c_Exprs_goOn_b (l : Launch) {dA : FieldType → ClassId} {D : va_G} {al : Nat → Nat} {ext : mv_Sh} {sk sv : Nat → Nat} (hi : mv_inj (mg dA D al ext)) (σ : mv_H) (k9 k8 w8 : Int32) {t len n z sz th sl e0 bs ns : Nat} {BL : (Nat → Nat) → Prop} {f0 : Nat → Int32} {g0 : Nat → Int64} {ms : List Mk} {s0 bd a : Nat} (hB0 : SB 48 σ t len n z sz th sl) (ht2 : t = 1 ∨ t = 144) (hX : XM 48 th e0 bs BL f0 g0 ns σ (((k8, w8) : Mk) :: ms) (sm wt (((k8, w8) : Mk) :: ms) + 1) (sm wr (((k8, w8) : Mk) :: ms) + 1) (s0)) (hI : TI σ sz bd (((k8, w8) : Mk) :: ms) s0 a) (hlen : len ≤ 32768) (hbs : bs ≤ 1) (hk3 : mv_a σ 4 (mv_i σ 3 7).toNatClampNeg = k9) : mv_C l y_Exprs_goOn (Cond.code y_Exprs_goOn b_Exprs_goOn 4 (Option.some Jvm.ClassFile.FieldType.int) :: ma) ({ frames := 4, cells := 0, slots := 0, locals := 89 }) (mg dA D al ext) (mK sk sv) [.ref (al 22), .int k9] σ (mv_Ri (fun v σ1 => RF 48 σ σ1 ∧ Mt (mv_a σ1 24) ∧ (v = 0 ∨ v = 1) ∧ (0 ≤ (mv_i σ1 3 9).toInt ∨ ∃ ms2 s2 a2, a < a2 ∧ XM 48 th e0 bs BL f0 g0 ns σ1 (ms2) (sm wt ms2 + v.toNatClampNeg) (sm wr ms2 + v.toNatClampNeg) (s2) ∧ TI σ1 sz bd ms2 s2 a2))) := by
  refine mv_C.ofV (cc := b_Exprs_goOn) (nL := 4) (ret := (Option.some Jvm.ClassFile.FieldType.int)) (by decide +kernel) rfl hi (Nat.le_of_ble_eq_true rfl) ?_
  intro p e s m below meth c B hNs hr hnm hno
  have hP : PQ 48 := by unfold PQ; omega
  have hR := hB0.1
  have hF : RF 48 σ σ := RF0
  have hT : mv_i σ 3 = mv_i σ 3 := rfl
  have hsz := hB0.2.1.2.2.2.2.2
  have hsz2 := hB0.2.1.2.2.2.1
  have hI5 := hI.2.2.2.2.1
  have ha9 := hI.2.2.2.2.2.1
  have pl := hI.len hX
  have hm8 := hX.1.1
  have t7 := hI.1
  have hw9 := hI.2.1
  have t9 : (mv_i σ 3 9).toInt = (mv_i σ 3 9).toInt := rfl
  have hd8 := hI.2.2.1
  have hd9 := hI.2.2.2.1
  have hWm := hI.2.2.2.2.2.2
  have kp : mv_a σ 4 = mv_a σ 4 := rfl
  have t8 : (mv_i σ 3 8).toInt = (mv_i σ 3 8).toInt := rfl
  obtain ⟨p1, p2, p3, p4⟩ := hX.top
  have g1 : sm wt (((k8, w8) : Mk) :: ms) = wt (k8, w8) + sm wt ms := rfl
  have g2 : sm wr (((k8, w8) : Mk) :: ms) = wr (k8, w8) + sm wr ms := rfl
  have g3 : sm wd (((k8, w8) : Mk) :: ms) = wd (k8, w8) + sm wd ms := rfl
  have g4 : sm wc (((k8, w8) : Mk) :: ms) = wc (k8, w8) + sm wc ms := rfl
  have gl : ((((k8, w8)) : Mk) :: ms).length = ms.length + 1 := rfl
  have j32 : ∀ (fl : Int32) (hfl : (fl = 1 ∧ w8 = 0) ∨ (fl = 0 ∧ ¬ w8 = 0)), mv_V p l e ({ frames := 4, cells := 0, slots := 0, locals := 89 }) s m ([.ref (al 22), .int k9] : List Value).toArray below meth c (mg dA D al ext) 4 0 0 (mv_Q (mg dA D al ext) below s 0 0 (mv_Ri (fun v σ1 => RF 48 σ σ1 ∧ Mt (mv_a σ1 24) ∧ (v = 0 ∨ v = 1) ∧ (0 ≤ (mv_i σ1 3 9).toInt ∨ ∃ ms2 s2 a2, a < a2 ∧ XM 48 th e0 bs BL f0 g0 ns σ1 (ms2) (sm wt ms2 + v.toNatClampNeg) (sm wr ms2 + v.toNatClampNeg) (s2) ∧ TI σ1 sz bd ms2 s2 a2)))) σ 32 [(3, .int fl), (2, .int k8), (0, .ref (al 22)), (1, .int k9)] [] := by
    intro fl hfl
    have j265 : mv_V p l e ({ frames := 4, cells := 0, slots := 0, locals := 89 }) s m ([.ref (al 22), .int k9] : List Value).toArray below meth c (mg dA D al ext) 4 0 0 (mv_Q (mg dA D al ext) below s 0 0 (mv_Ri (fun v σ1 => RF 48 σ σ1 ∧ Mt (mv_a σ1 24) ∧ (v = 0 ∨ v = 1) ∧ (0 ≤ (mv_i σ1 3 9).toInt ∨ ∃ ms2 s2 a2, a < a2 ∧ XM 48 th e0 bs BL f0 g0 ns σ1 (ms2) (sm wt ms2 + v.toNatClampNeg) (sm wr ms2 + v.toNatClampNeg) (s2) ∧ TI σ1 sz bd ms2 s2 a2)))) σ 265 [(3, .int fl), (2, .int k8), (0, .ref (al 22)), (1, .int k9)] [] := by
      refine mv_aload_n (pc := 265) B d_Exprs_goOn_265 rfl 2 rfl ?_
      refine mv_getR (pc := 266) (ci := 6) (C := R_Exprs) (T := F_Exprs) (N := 11) B 0 rfl rfl (by decide) i_Exprs (B.2.2.2.1 _ k_193) rfl (hR.1 _ 0 _ rfl) d_Exprs_goOn_266 ?_
      refine mv_callVv (pc := 269) (n := 0) (ci := 2) (C := R_Tokens) B (mK_ok sk sv) hNs rfl rfl (c_Tokens_wrongN l hi _ hR.1 hB0.2.1 (by omega) (by omega)) rfl (ma_goodc kc_Tokens_wrong) (B.2.2.2.1 _ k_1459) (B.2.2.2.1 _ k_1275) (B.2.2.2.1 _ k_1276) (B.2.2.2.1 _ k_3) ⟨by decide +kernel, by decide +kernel, by decide +kernel⟩ rfl d_Exprs_goOn_269 rfl (Nat.le_of_ble_eq_true rfl) ⟨by decide, by decide⟩ ⟨by decide, by decide⟩ ⟨by decide, by decide⟩ (mv_noH hno _) (fun σ269 h269 => ?_)
      obtain ⟨w18, e18, z18⟩ := h269
      subst e18
      refine mv_gen (fun S272 eS272 => ?_)
      have hR : Rw 48 (mv_r S272) := by rw [eS272]; exact hR
      have hF : RF 48 σ S272 := by rw [eS272]; exact hF.tk3 _ _ _
      have hX : XM 48 th e0 bs BL f0 g0 ns S272 (((k8, w8) : Mk) :: ms) (sm wt (((k8, w8) : Mk) :: ms) + 1) (sm wr (((k8, w8) : Mk) :: ms) + 1) (s0) := by rw [eS272]; exact hX.tk3 hP _ _ _
      have hend : 0 ≤ (mv_i S272 3 9).toInt := by rw [eS272]; exact z18
      clear eS272
      refine mv_iconst (pc := 272) (v := 1) B d_Exprs_goOn_272 (by decide) ?_
      exact mv_iret (pc := 273) B hr rfl d_Exprs_goOn_273 (Nat.le_refl _) (Nat.le_refl _) ⟨_, rfl, hF, hX.1.2.2.2.1, Or.inr rfl, Or.inl hend⟩
    have j204 : mv_V p l e ({ frames := 4, cells := 0, slots := 0, locals := 89 }) s m ([.ref (al 22), .int k9] : List Value).toArray below meth c (mg dA D al ext) 4 0 0 (mv_Q (mg dA D al ext) below s 0 0 (mv_Ri (fun v σ1 => RF 48 σ σ1 ∧ Mt (mv_a σ1 24) ∧ (v = 0 ∨ v = 1) ∧ (0 ≤ (mv_i σ1 3 9).toInt ∨ ∃ ms2 s2 a2, a < a2 ∧ XM 48 th e0 bs BL f0 g0 ns σ1 (ms2) (sm wt ms2 + v.toNatClampNeg) (sm wr ms2 + v.toNatClampNeg) (s2) ∧ TI σ1 sz bd ms2 s2 a2)))) σ 204 [(3, .int fl), (2, .int k8), (0, .ref (al 22)), (1, .int k9)] [] := by
      refine mv_iload_n (pc := 204) B d_Exprs_goOn_204 rfl 1 rfl ?_
      refine mv_sipush (pc := 205) (v := 213) B d_Exprs_goOn_205 (by decide) ?_
      refine mv_icmp_lt (pc := 208) (tgt := 265) B d_Exprs_goOn_208 rfl (fun h208 => ?_) (fun h208 => ?_)
      · skip
        refine mv_lpick [0, 1, 2, 3] rfl ?_
        exact j265
      · skip
        refine mv_iload_n (pc := 211) B d_Exprs_goOn_211 rfl 1 rfl ?_
        refine mv_sipush (pc := 212) (v := 216) B d_Exprs_goOn_212 (by decide) ?_
        refine mv_icmp_gt (pc := 215) (tgt := 265) B d_Exprs_goOn_215 rfl (fun h215 => ?_) (fun h215 => ?_)
        · skip
          refine mv_lpick [0, 1, 2, 3] rfl ?_
          exact j265
        · skip
          refine mv_iload_n (pc := 218) B d_Exprs_goOn_218 rfl 3 rfl ?_
          refine mv_bipush (pc := 219) (v := 41) B d_Exprs_goOn_219 (by decide) ?_
          refine mv_icmp_ne (pc := 221) (tgt := 265) B d_Exprs_goOn_221 rfl (fun h221 => ?_) (fun h221 => ?_)
          · skip
            refine mv_lpick [0, 1, 2, 3] rfl ?_
            exact j265
          · skip
            refine mv_iload_n (pc := 224) B d_Exprs_goOn_224 rfl 0 rfl ?_
            refine mv_if_ne (pc := 225) (tgt := 265) B d_Exprs_goOn_225 rfl (fun h225 => ?_) (fun h225 => ?_)
            · skip
              refine mv_lpick [0, 1, 2, 3] rfl ?_
              exact j265
            · skip
              rw [Int32.lt_iff_toInt_lt] at h208
              simp only [Int32.reduceToInt] at h208
              rw [Int32.lt_iff_toInt_lt] at h215
              simp only [Int32.reduceToInt] at h215
              have hk4 : k8 = 213 ∨ k8 = 214 ∨ k8 = 215 ∨ k8 = 216 := by simp only [← Int32.toInt_inj, Int32.reduceToInt]; omega
              have hk5 : wd (k8, w8) = 1 ∧ wc (k8, w8) = 0 := by rcases hk4 with rfl | rfl | rfl | rfl <;> exact ⟨rfl, rfl⟩
              have hk6 : ¬ k8 = 63 ∧ ¬ k8 = 58 ∧ ¬ k8 = 91 := by rcases hk4 with rfl | rfl | rfl | rfl <;> decide
              have hk7 : ∀ y : Int32, wt (k8, y) = (if y = 0 then 0 else 1) ∧ wr (k8, y) = (if y = 0 then 0 else 1) := fun y => by rcases hk4 with rfl | rfl | rfl | rfl <;> exact ⟨rfl, rfl⟩
              have hk8 : wd (k8, 1) = 1 ∧ wc (k8, 1) = 0 ∧ ¬ k8 = 123 := by rcases hk4 with rfl | rfl | rfl | rfl <;> exact ⟨rfl, rfl, by decide⟩
              have hw0 : ¬ w8 = 0 := hfl.elim (fun q => absurd (q.1.symm.trans h225) (by decide)) (fun q => q.2)
              have x1 : wt (k8, w8) = 1 := (hk7 w8).1.trans (if_neg hw0)
              have x2 : wr (k8, w8) = 1 := (hk7 w8).2.trans (if_neg hw0)
              rw [g1, g2, x1, x2, show 1 + sm wt ms + 1 = sm wt ms + 2 by omega, show 1 + sm wr ms + 1 = sm wr ms + 2 by omega] at hX
              rw [h221] at hk3
              refine mv_aload_n (pc := 228) B d_Exprs_goOn_228 rfl 2 rfl ?_
              refine mv_getR (pc := 229) (ci := 6) (C := R_Exprs) (T := F_Exprs) (N := 11) B 0 rfl rfl (by decide) i_Exprs (B.2.2.2.1 _ k_193) rfl (hR.1 _ 0 _ rfl) d_Exprs_goOn_229 ?_
              refine mv_bipush (pc := 232) (v := 41) B d_Exprs_goOn_232 (by decide) ?_
              refine mv_callVi (pc := 234) (n := 1) (ci := 2) (C := R_Tokens) B (mK_ok sk sv) hNs rfl rfl (c_Tokens_closeN l hi _ _ hR.1 (hB0.rf hF hP ht2).2.1 (by omega) (by omega) (by decide)) rfl (ma_goodc kc_Tokens_close) (B.2.2.2.1 _ k_1468) (B.2.2.2.1 _ k_1397) (B.2.2.2.1 _ k_1398) (B.2.2.2.1 _ k_3) ⟨by decide +kernel, by decide +kernel, by decide +kernel⟩ rfl d_Exprs_goOn_234 rfl (Nat.le_of_ble_eq_true rfl) ⟨by decide, by decide⟩ ⟨by decide, by decide⟩ ⟨by decide, by decide⟩ (mv_noH hno _) (fun v234 σ234 h234 => ?_)
              obtain ⟨a234, w234, e234, r234⟩ := h234
              have q234 := r234.1
              have z234 := fun q => (r234.2.1 q).1
              have y234 := And.intro r234.2.2.2.1 r234.2.2.2.2.1
              subst e234
              have hw6 := r234.2.2.1 hw9 hk3 trivial
              refine mv_gen (fun S237 eS237 => ?_)
              have hR : Rw 48 (mv_r S237) := by rw [eS237]; exact hR
              have hF : RF 48 σ S237 := by rw [eS237]; exact hF.tk3 _ _ _
              have hX : XM 48 th e0 bs BL f0 g0 ns S237 (((k8, w8) : Mk) :: ms) (sm wt ms + 2) (sm wr ms + 2) (s0) := by rw [eS237]; exact hX.tk3 hP _ _ _
              have t7 : (mv_i S237 3 7).toInt = a234.toInt := by rw [eS237]; rfl
              have t8 : (mv_i S237 3 8).toInt = (mv_i σ 3 8).toInt - 1 := by rw [eS237]; first | exact t8 | exact (sub_one (by omega)).trans (by omega) | exact (i32_inc (by omega)).trans (by omega)
              have t9 : (mv_i S237 3 9).toInt = w234.toInt := by rw [eS237]; rfl
              have kS237 : mv_a S237 4 = mv_a σ 4 := by rw [eS237]; first | rfl | exact kp
              have kp := kS237
              clear eS237
              refine mv_pop (pc := 237) B d_Exprs_goOn_237 rfl ?_
              refine mv_aload_n (pc := 238) B d_Exprs_goOn_238 rfl 2 rfl ?_
              refine mv_dup (pc := 239) B d_Exprs_goOn_239 rfl ?_
              refine mv_getI (pc := 240) (ci := 6) (C := R_Exprs) (T := F_Exprs) (N := 11) B 8 rfl rfl (by decide) i_Exprs (B.2.2.2.1 _ k_202) rfl d_Exprs_goOn_240 ?_
              refine mv_iconst (pc := 243) (v := 1) B d_Exprs_goOn_243 (by decide) ?_
              refine mv_isub (pc := 244) B d_Exprs_goOn_244 ?_
              refine mv_putI (pc := 245) (ci := 6) (C := R_Exprs) (T := F_Exprs) (N := 11) B 8 rfl rfl (by decide) i_Exprs t_Exprs_ok n_Exprs (B.2.2.2.1 _ k_202) rfl rfl rfl rfl d_Exprs_goOn_245 ?_
              refine mv_gen (fun S248 eS248 => ?_)
              have hR : Rw 48 (mv_r S248) := by rw [eS248]; exact hR
              have hF : RF 48 σ S248 := by rw [eS248]; exact hF.pop
              have hX : XM 48 th e0 bs BL f0 g0 ns S248 (ms) (sm wt ms + 2) (sm wr ms + 2) (s0) := by rw [eS248]; exact hX.pop hP ⟨hk6.1, hk6.2.1⟩
              have t7 := Eq.trans (congrArg Int32.toInt (show mv_i S248 3 7 = mv_i _ 3 7 by rw [eS248]; rfl)) t7
              have t8 := Eq.trans (congrArg Int32.toInt (show mv_i S248 3 8 = mv_i _ 3 8 by rw [eS248]; rfl)) t8
              have t9 := Eq.trans (congrArg Int32.toInt (show mv_i S248 3 9 = mv_i _ 3 9 by rw [eS248]; rfl)) t9
              have kp := Eq.trans (show mv_a S248 4 = mv_a _ 4 by rw [eS248]; rfl) kp
              have hk9 := hX.tok (i := (mv_i S248 22 8).toNatClampNeg) (by have := hX.n; omega)
              clear eS248
              refine mv_aload_n (pc := 248) B d_Exprs_goOn_248 rfl 2 rfl ?_
              refine mv_iload_n (pc := 249) B d_Exprs_goOn_249 rfl 1 rfl ?_
              refine mv_aload_n (pc := 250) B d_Exprs_goOn_250 rfl 2 rfl ?_
              refine mv_getR (pc := 251) (ci := 6) (C := R_Exprs) (T := F_Exprs) (N := 11) B 5 rfl rfl (by decide) i_Exprs (B.2.2.2.1 _ k_199) rfl (hR.1 _ 5 _ rfl) d_Exprs_goOn_251 ?_
              refine mv_aload_n (pc := 254) B d_Exprs_goOn_254 rfl 2 rfl ?_
              refine mv_getI (pc := 255) (ci := 6) (C := R_Exprs) (T := F_Exprs) (N := 11) B 8 rfl rfl (by decide) i_Exprs (B.2.2.2.1 _ k_202) rfl d_Exprs_goOn_255 ?_
              refine mv_iald (pc := 258) B rfl (i32_in (show 0 ≤ (mv_i S248 22 8).toInt by have := hX.1.1; omega) (show (mv_i S248 22 8).toInt < 1024 by have := hX.1.1; omega)) d_Exprs_goOn_258 ?_
              refine mv_callVv (pc := 259) (n := 2) (ci := 6) (C := R_Exprs) B (mK_ok sk sv) hNs rfl rfl (c_Exprs_ofTwo_b l hi _ _ _ (hB0.rf hF hP ht2) ht2 hX (Or.inr hk4) hk9.1 hk9.2 (by omega) (by omega) (by omega)) rfl (ma_goodc kc_Exprs_ofTwo) (B.2.2.2.1 _ k_1489) (B.2.2.2.1 _ k_1491) (B.2.2.2.1 _ ks_57) (B.2.2.2.1 _ k_7) ⟨by decide +kernel, by decide +kernel, by decide +kernel⟩ rfl d_Exprs_goOn_259 rfl (Nat.le_of_ble_eq_true rfl) ⟨by decide, by decide⟩ ⟨by decide, by decide⟩ ⟨by decide, by decide⟩ (mv_noH hno _) (fun σ259 h259 => ?_)
              obtain ⟨f259, x259, t259⟩ := h259
              refine mv_gen (fun S272 eS272 => ?_)
              subst eS272
              refine mv_goto (pc := 262) (tgt := 272) B d_Exprs_goOn_262 rfl ?_
              refine mv_iconst (pc := 272) (v := 1) B d_Exprs_goOn_272 (by decide) ?_
              exact mv_iret (pc := 273) B hr rfl d_Exprs_goOn_273 (Nat.le_refl _) (Nat.le_refl _) ⟨_, rfl, hF.tr f259, x259.1.2.2.2.1, Or.inr rfl, Or.inr ⟨ms, s0 + 1, a + 1, by omega, x259, by rw [t259]; omega, by rw [t259]; omega, by rw [t259]; omega, by rw [t259]; omega, by omega, by omega, hWm.tail.up (by omega)⟩⟩
    have j156 : mv_V p l e ({ frames := 4, cells := 0, slots := 0, locals := 89 }) s m ([.ref (al 22), .int k9] : List Value).toArray below meth c (mg dA D al ext) 4 0 0 (mv_Q (mg dA D al ext) below s 0 0 (mv_Ri (fun v σ1 => RF 48 σ σ1 ∧ Mt (mv_a σ1 24) ∧ (v = 0 ∨ v = 1) ∧ (0 ≤ (mv_i σ1 3 9).toInt ∨ ∃ ms2 s2 a2, a < a2 ∧ XM 48 th e0 bs BL f0 g0 ns σ1 (ms2) (sm wt ms2 + v.toNatClampNeg) (sm wr ms2 + v.toNatClampNeg) (s2) ∧ TI σ1 sz bd ms2 s2 a2)))) σ 156 [(3, .int fl), (2, .int k8), (0, .ref (al 22)), (1, .int k9)] [] := by
      refine mv_iload_n (pc := 156) B d_Exprs_goOn_156 rfl 1 rfl ?_
      refine mv_sipush (pc := 157) (v := 213) B d_Exprs_goOn_157 (by decide) ?_
      refine mv_icmp_lt (pc := 160) (tgt := 204) B d_Exprs_goOn_160 rfl (fun h160 => ?_) (fun h160 => ?_)
      · skip
        refine mv_lpick [0, 1, 2, 3] rfl ?_
        exact j204
      · skip
        refine mv_iload_n (pc := 163) B d_Exprs_goOn_163 rfl 1 rfl ?_
        refine mv_sipush (pc := 164) (v := 216) B d_Exprs_goOn_164 (by decide) ?_
        refine mv_icmp_gt (pc := 167) (tgt := 204) B d_Exprs_goOn_167 rfl (fun h167 => ?_) (fun h167 => ?_)
        · skip
          refine mv_lpick [0, 1, 2, 3] rfl ?_
          exact j204
        · skip
          refine mv_iload_n (pc := 170) B d_Exprs_goOn_170 rfl 3 rfl ?_
          refine mv_bipush (pc := 171) (v := 44) B d_Exprs_goOn_171 (by decide) ?_
          refine mv_icmp_ne (pc := 173) (tgt := 204) B d_Exprs_goOn_173 rfl (fun h173 => ?_) (fun h173 => ?_)
          · skip
            refine mv_lpick [0, 1, 2, 3] rfl ?_
            exact j204
          · skip
            refine mv_iload_n (pc := 176) B d_Exprs_goOn_176 rfl 0 rfl ?_
            refine mv_if_eq (pc := 177) (tgt := 204) B d_Exprs_goOn_177 rfl (fun h177 => ?_) (fun h177 => ?_)
            · skip
              refine mv_lpick [0, 1, 2, 3] rfl ?_
              exact j204
            · skip
              rw [Int32.lt_iff_toInt_lt] at h160
              simp only [Int32.reduceToInt] at h160
              rw [Int32.lt_iff_toInt_lt] at h167
              simp only [Int32.reduceToInt] at h167
              have hk4 : k8 = 213 ∨ k8 = 214 ∨ k8 = 215 ∨ k8 = 216 := by simp only [← Int32.toInt_inj, Int32.reduceToInt]; omega
              have hk5 : wd (k8, w8) = 1 ∧ wc (k8, w8) = 0 := by rcases hk4 with rfl | rfl | rfl | rfl <;> exact ⟨rfl, rfl⟩
              have hk6 : ¬ k8 = 63 ∧ ¬ k8 = 58 ∧ ¬ k8 = 91 := by rcases hk4 with rfl | rfl | rfl | rfl <;> decide
              have hk7 : ∀ y : Int32, wt (k8, y) = (if y = 0 then 0 else 1) ∧ wr (k8, y) = (if y = 0 then 0 else 1) := fun y => by rcases hk4 with rfl | rfl | rfl | rfl <;> exact ⟨rfl, rfl⟩
              have hk8 : wd (k8, 1) = 1 ∧ wc (k8, 1) = 0 ∧ ¬ k8 = 123 := by rcases hk4 with rfl | rfl | rfl | rfl <;> exact ⟨rfl, rfl, by decide⟩
              have hw0 : w8 = 0 := hfl.elim (fun q => q.2) (fun q => absurd q.1 h177)
              rw [h173] at hk3
              have x1 : wt (k8, w8) = 0 := (hk7 w8).1.trans (if_pos hw0)
              have x2 : wr (k8, w8) = 0 := (hk7 w8).2.trans (if_pos hw0)
              rw [g1, g2, x1, x2, Nat.zero_add, Nat.zero_add] at hX
              refine mv_aload_n (pc := 180) B d_Exprs_goOn_180 rfl 2 rfl ?_
              refine mv_getR (pc := 181) (ci := 6) (C := R_Exprs) (T := F_Exprs) (N := 11) B 0 rfl rfl (by decide) i_Exprs (B.2.2.2.1 _ k_193) rfl (hR.1 _ 0 _ rfl) d_Exprs_goOn_181 ?_
              refine mv_bipush (pc := 184) (v := 44) B d_Exprs_goOn_184 (by decide) ?_
              refine mv_callVi (pc := 186) (n := 1) (ci := 2) (C := R_Tokens) B (mK_ok sk sv) hNs rfl rfl (c_Tokens_takeN l hi _ _ hR.1 (hB0.rf hF hP ht2).2.1 (by omega) (by omega) (by decide)) rfl (ma_goodc kc_Tokens_take) (B.2.2.2.1 _ k_1424) (B.2.2.2.1 _ k_1267) (B.2.2.2.1 _ k_1268) (B.2.2.2.1 _ k_3) ⟨by decide +kernel, by decide +kernel, by decide +kernel⟩ rfl d_Exprs_goOn_186 rfl (Nat.le_of_ble_eq_true rfl) ⟨by decide, by decide⟩ ⟨by decide, by decide⟩ ⟨by decide, by decide⟩ (mv_noH hno _) (fun v186 σ186 h186 => ?_)
              obtain ⟨a186, w186, e186, r186⟩ := h186
              have q186 := r186.1
              have z186 := fun q => (r186.2.1 q).1
              have y186 := And.intro r186.2.2.2.1 r186.2.2.2.2.1
              subst e186
              have hw6 := r186.2.2.1 hw9 hk3 trivial
              refine mv_gen (fun S189 eS189 => ?_)
              have hR : Rw 48 (mv_r S189) := by rw [eS189]; exact hR
              have hF : RF 48 σ S189 := by rw [eS189]; exact hF.tk3 _ _ _
              have hX : XM 48 th e0 bs BL f0 g0 ns S189 (((k8, w8) : Mk) :: ms) (sm wt ms + 1) (sm wr ms + 1) (s0) := by rw [eS189]; exact hX.tk3 hP _ _ _
              have t7 : (mv_i S189 3 7).toInt = a186.toInt := by rw [eS189]; rfl
              have t8 : (mv_i S189 3 8).toInt = (mv_i σ 3 8).toInt := by rw [eS189]; first | exact t8 | exact (sub_one (by omega)).trans (by omega) | exact (i32_inc (by omega)).trans (by omega)
              have t9 : (mv_i S189 3 9).toInt = w186.toInt := by rw [eS189]; rfl
              have kS189 : mv_a S189 4 = mv_a σ 4 := by rw [eS189]; first | rfl | exact kp
              have kp := kS189
              obtain ⟨p1, p2, p3, p4⟩ := hX.top
              clear eS189
              refine mv_pop (pc := 189) B d_Exprs_goOn_189 rfl ?_
              refine mv_aload_n (pc := 190) B d_Exprs_goOn_190 rfl 2 rfl ?_
              refine mv_getR (pc := 191) (ci := 6) (C := R_Exprs) (T := F_Exprs) (N := 11) B 6 rfl rfl (by decide) i_Exprs (B.2.2.2.1 _ k_200) rfl (hR.1 _ 6 _ rfl) d_Exprs_goOn_191 ?_
              refine mv_aload_n (pc := 194) B d_Exprs_goOn_194 rfl 2 rfl ?_
              refine mv_getI (pc := 195) (ci := 6) (C := R_Exprs) (T := F_Exprs) (N := 11) B 8 rfl rfl (by decide) i_Exprs (B.2.2.2.1 _ k_202) rfl d_Exprs_goOn_195 ?_
              refine mv_iconst (pc := 198) (v := 1) B d_Exprs_goOn_198 (by decide) ?_
              refine mv_isub (pc := 199) B d_Exprs_goOn_199 ?_
              refine mv_iconst (pc := 200) (v := 1) B d_Exprs_goOn_200 (by decide) ?_
              refine mv_iast (pc := 201) B rfl (i32_in (by omega) (by omega)) d_Exprs_goOn_201 ?_
              refine mv_gen (fun S202 eS202 => ?_)
              have hR : Rw 48 (mv_r S202) := by rw [eS202]; exact hR
              have hF : RF 48 σ S202 := by rw [eS202]; exact hF.row ⟨by omega, by omega⟩ _ _
              have hX : XM 48 th e0 bs BL f0 g0 ns S202 (((k8, 1) : Mk) :: ms) (sm wt ms + 1) (sm wr ms + 1) (s0) := by rw [eS202]; exact hX.with hP p2 hk6
              have t7 := Eq.trans (congrArg Int32.toInt (show mv_i S202 3 7 = mv_i _ 3 7 by rw [eS202]; rfl)) t7
              have t8 := Eq.trans (congrArg Int32.toInt (show mv_i S202 3 8 = mv_i _ 3 8 by rw [eS202]; rfl)) t8
              have t9 := Eq.trans (congrArg Int32.toInt (show mv_i S202 3 9 = mv_i _ 3 9 by rw [eS202]; rfl)) t9
              have kp := Eq.trans (show mv_a S202 4 = mv_a _ 4 by rw [eS202]; rfl) kp
              have y1 : sm wt (((k8, 1) : Mk) :: ms) = wt (k8, 1) + sm wt ms := rfl
              have y2 : sm wr (((k8, 1) : Mk) :: ms) = wr (k8, 1) + sm wr ms := rfl
              have y3 : sm wd (((k8, 1) : Mk) :: ms) = wd (k8, 1) + sm wd ms := rfl
              have y4 : sm wc (((k8, 1) : Mk) :: ms) = wc (k8, 1) + sm wc ms := rfl
              have x3 : wt (k8, 1) = 1 := (hk7 1).1
              have x4 : wr (k8, 1) = 1 := (hk7 1).2
              clear eS202
              refine mv_iconst (pc := 202) (v := 0) B d_Exprs_goOn_202 (by decide) ?_
              exact mv_iret (pc := 203) B hr rfl d_Exprs_goOn_203 (Nat.le_refl _) (Nat.le_refl _) ⟨_, rfl, hF, hX.1.2.2.2.1, Or.inl rfl, Or.inr ⟨((k8, 1) : Mk) :: ms, s0, a + 1, by omega, by rw [y1, y2, x3, x4, Nat.add_comm 1, Nat.add_comm 1]; exact hX, by omega, by omega, by omega, by omega, by omega, by omega, (hWm.tail.up (by omega)).cons (fun q => absurd q hk8.2.2)⟩⟩
    have j128 : mv_V p l e ({ frames := 4, cells := 0, slots := 0, locals := 89 }) s m ([.ref (al 22), .int k9] : List Value).toArray below meth c (mg dA D al ext) 4 0 0 (mv_Q (mg dA D al ext) below s 0 0 (mv_Ri (fun v σ1 => RF 48 σ σ1 ∧ Mt (mv_a σ1 24) ∧ (v = 0 ∨ v = 1) ∧ (0 ≤ (mv_i σ1 3 9).toInt ∨ ∃ ms2 s2 a2, a < a2 ∧ XM 48 th e0 bs BL f0 g0 ns σ1 (ms2) (sm wt ms2 + v.toNatClampNeg) (sm wr ms2 + v.toNatClampNeg) (s2) ∧ TI σ1 sz bd ms2 s2 a2)))) σ 128 [(3, .int fl), (2, .int k8), (0, .ref (al 22)), (1, .int k9)] [] := by
      refine mv_iload_n (pc := 128) B d_Exprs_goOn_128 rfl 1 rfl ?_
      refine mv_sipush (pc := 129) (v := 211) B d_Exprs_goOn_129 (by decide) ?_
      refine mv_icmp_eq (pc := 132) (tgt := 142) B d_Exprs_goOn_132 rfl (fun h132 => ?_) (fun h132 => ?_)
      · skip
        have hk2 : k8 = 211 ∨ k8 = 212 := Or.inl h132
        refine mv_iload_n (pc := 142) B d_Exprs_goOn_142 rfl 3 rfl ?_
        refine mv_bipush (pc := 143) (v := 44) B d_Exprs_goOn_143 (by decide) ?_
        refine mv_icmp_ne (pc := 145) (tgt := 156) B d_Exprs_goOn_145 rfl (fun h145 => ?_) (fun h145 => ?_)
        · skip
          refine mv_lpick [0, 1, 2, 3] rfl ?_
          exact j156
        · skip
          rw [h145] at hk3
          refine mv_aload_n (pc := 148) B d_Exprs_goOn_148 rfl 2 rfl ?_
          refine mv_iload_n (pc := 149) B d_Exprs_goOn_149 rfl 1 rfl ?_
          refine mv_callVv (pc := 150) (n := 1) (ci := 6) (C := R_Exprs) B (mK_ok sk sv) hNs rfl rfl (c_Exprs_widen_b l hi _ _ _ hB0 ht2 hX hI hlen hbs hk3 hk2) rfl (ma_goodc kc_Exprs_widen) (B.2.2.2.1 _ k_1518) (B.2.2.2.1 _ k_1520) (B.2.2.2.1 _ ks_64) (B.2.2.2.1 _ k_7) ⟨by decide +kernel, by decide +kernel, by decide +kernel⟩ rfl d_Exprs_goOn_150 rfl (Nat.le_of_ble_eq_true rfl) ⟨by decide, by decide⟩ ⟨by decide, by decide⟩ ⟨by decide, by decide⟩ (mv_noH hno _) (fun σ150 h150 => ?_)
          refine mv_goto (pc := 153) (tgt := 272) B d_Exprs_goOn_153 rfl ?_
          refine mv_iconst (pc := 272) (v := 1) B d_Exprs_goOn_272 (by decide) ?_
          exact mv_iret (pc := 273) B hr rfl d_Exprs_goOn_273 (Nat.le_refl _) (Nat.le_refl _) ⟨_, rfl, h150.1, h150.2.1, Or.inr rfl, h150.2.2⟩
      · skip
        refine mv_iload_n (pc := 135) B d_Exprs_goOn_135 rfl 1 rfl ?_
        refine mv_sipush (pc := 136) (v := 212) B d_Exprs_goOn_136 (by decide) ?_
        refine mv_icmp_ne (pc := 139) (tgt := 156) B d_Exprs_goOn_139 rfl (fun h139 => ?_) (fun h139 => ?_)
        · skip
          refine mv_lpick [0, 1, 2, 3] rfl ?_
          exact j156
        · skip
          have hk2 : k8 = 211 ∨ k8 = 212 := Or.inr h139
          refine mv_iload_n (pc := 142) B d_Exprs_goOn_142 rfl 3 rfl ?_
          refine mv_bipush (pc := 143) (v := 44) B d_Exprs_goOn_143 (by decide) ?_
          refine mv_icmp_ne (pc := 145) (tgt := 156) B d_Exprs_goOn_145 rfl (fun h145 => ?_) (fun h145 => ?_)
          · skip
            refine mv_lpick [0, 1, 2, 3] rfl ?_
            exact j156
          · skip
            rw [h145] at hk3
            refine mv_aload_n (pc := 148) B d_Exprs_goOn_148 rfl 2 rfl ?_
            refine mv_iload_n (pc := 149) B d_Exprs_goOn_149 rfl 1 rfl ?_
            refine mv_callVv (pc := 150) (n := 1) (ci := 6) (C := R_Exprs) B (mK_ok sk sv) hNs rfl rfl (c_Exprs_widen_b l hi _ _ _ hB0 ht2 hX hI hlen hbs hk3 hk2) rfl (ma_goodc kc_Exprs_widen) (B.2.2.2.1 _ k_1518) (B.2.2.2.1 _ k_1520) (B.2.2.2.1 _ ks_64) (B.2.2.2.1 _ k_7) ⟨by decide +kernel, by decide +kernel, by decide +kernel⟩ rfl d_Exprs_goOn_150 rfl (Nat.le_of_ble_eq_true rfl) ⟨by decide, by decide⟩ ⟨by decide, by decide⟩ ⟨by decide, by decide⟩ (mv_noH hno _) (fun σ150 h150 => ?_)
            refine mv_goto (pc := 153) (tgt := 272) B d_Exprs_goOn_153 rfl ?_
            refine mv_iconst (pc := 272) (v := 1) B d_Exprs_goOn_272 (by decide) ?_
            exact mv_iret (pc := 273) B hr rfl d_Exprs_goOn_273 (Nat.le_refl _) (Nat.le_refl _) ⟨_, rfl, h150.1, h150.2.1, Or.inr rfl, h150.2.2⟩
    have j93 : mv_V p l e ({ frames := 4, cells := 0, slots := 0, locals := 89 }) s m ([.ref (al 22), .int k9] : List Value).toArray below meth c (mg dA D al ext) 4 0 0 (mv_Q (mg dA D al ext) below s 0 0 (mv_Ri (fun v σ1 => RF 48 σ σ1 ∧ Mt (mv_a σ1 24) ∧ (v = 0 ∨ v = 1) ∧ (0 ≤ (mv_i σ1 3 9).toInt ∨ ∃ ms2 s2 a2, a < a2 ∧ XM 48 th e0 bs BL f0 g0 ns σ1 (ms2) (sm wt ms2 + v.toNatClampNeg) (sm wr ms2 + v.toNatClampNeg) (s2) ∧ TI σ1 sz bd ms2 s2 a2)))) σ 93 [(3, .int fl), (2, .int k8), (0, .ref (al 22)), (1, .int k9)] [] := by
      refine mv_iload_n (pc := 93) B d_Exprs_goOn_93 rfl 1 rfl ?_
      refine mv_bipush (pc := 94) (v := 40) B d_Exprs_goOn_94 (by decide) ?_
      refine mv_icmp_ne (pc := 96) (tgt := 128) B d_Exprs_goOn_96 rfl (fun h96 => ?_) (fun h96 => ?_)
      · skip
        refine mv_lpick [0, 1, 2, 3] rfl ?_
        exact j128
      · skip
        refine mv_iload_n (pc := 99) B d_Exprs_goOn_99 rfl 3 rfl ?_
        refine mv_bipush (pc := 100) (v := 41) B d_Exprs_goOn_100 (by decide) ?_
        refine mv_icmp_ne (pc := 102) (tgt := 128) B d_Exprs_goOn_102 rfl (fun h102 => ?_) (fun h102 => ?_)
        · skip
          refine mv_lpick [0, 1, 2, 3] rfl ?_
          exact j128
        · skip
          rw [h102] at hk3
          subst h96
          have x1 : wt (40, w8) = 0 := rfl
          have x2 : wr (40, w8) = 0 := rfl
          have x3 : wd (40, w8) = 1 := rfl
          have x4 : wc (40, w8) = 0 := rfl
          rw [g1, g2, x1, x2, Nat.zero_add, Nat.zero_add] at hX
          refine mv_aload_n (pc := 105) B d_Exprs_goOn_105 rfl 2 rfl ?_
          refine mv_getR (pc := 106) (ci := 6) (C := R_Exprs) (T := F_Exprs) (N := 11) B 0 rfl rfl (by decide) i_Exprs (B.2.2.2.1 _ k_193) rfl (hR.1 _ 0 _ rfl) d_Exprs_goOn_106 ?_
          refine mv_bipush (pc := 109) (v := 41) B d_Exprs_goOn_109 (by decide) ?_
          refine mv_callVi (pc := 111) (n := 1) (ci := 2) (C := R_Tokens) B (mK_ok sk sv) hNs rfl rfl (c_Tokens_closeN l hi _ _ hR.1 (hB0.rf hF hP ht2).2.1 (by omega) (by omega) (by decide)) rfl (ma_goodc kc_Tokens_close) (B.2.2.2.1 _ k_1468) (B.2.2.2.1 _ k_1397) (B.2.2.2.1 _ k_1398) (B.2.2.2.1 _ k_3) ⟨by decide +kernel, by decide +kernel, by decide +kernel⟩ rfl d_Exprs_goOn_111 rfl (Nat.le_of_ble_eq_true rfl) ⟨by decide, by decide⟩ ⟨by decide, by decide⟩ ⟨by decide, by decide⟩ (mv_noH hno _) (fun v111 σ111 h111 => ?_)
          obtain ⟨a111, w111, e111, r111⟩ := h111
          have q111 := r111.1
          have z111 := fun q => (r111.2.1 q).1
          have y111 := And.intro r111.2.2.2.1 r111.2.2.2.2.1
          subst e111
          have hw6 := r111.2.2.1 hw9 hk3 trivial
          refine mv_gen (fun S114 eS114 => ?_)
          have hR : Rw 48 (mv_r S114) := by rw [eS114]; exact hR
          have hF : RF 48 σ S114 := by rw [eS114]; exact hF.tk3 _ _ _
          have hX : XM 48 th e0 bs BL f0 g0 ns S114 (((40, w8) : Mk) :: ms) (sm wt ms + 1) (sm wr ms + 1) (s0) := by rw [eS114]; exact hX.tk3 hP _ _ _
          have t7 : (mv_i S114 3 7).toInt = a111.toInt := by rw [eS114]; rfl
          have t8 : (mv_i S114 3 8).toInt = (mv_i σ 3 8).toInt - 1 := by rw [eS114]; first | exact t8 | exact (sub_one (by omega)).trans (by omega) | exact (i32_inc (by omega)).trans (by omega)
          have t9 : (mv_i S114 3 9).toInt = w111.toInt := by rw [eS114]; rfl
          have kS114 : mv_a S114 4 = mv_a σ 4 := by rw [eS114]; first | rfl | exact kp
          have kp := kS114
          clear eS114
          refine mv_pop (pc := 114) B d_Exprs_goOn_114 rfl ?_
          refine mv_aload_n (pc := 115) B d_Exprs_goOn_115 rfl 2 rfl ?_
          refine mv_dup (pc := 116) B d_Exprs_goOn_116 rfl ?_
          refine mv_getI (pc := 117) (ci := 6) (C := R_Exprs) (T := F_Exprs) (N := 11) B 8 rfl rfl (by decide) i_Exprs (B.2.2.2.1 _ k_202) rfl d_Exprs_goOn_117 ?_
          refine mv_iconst (pc := 120) (v := 1) B d_Exprs_goOn_120 (by decide) ?_
          refine mv_isub (pc := 121) B d_Exprs_goOn_121 ?_
          refine mv_putI (pc := 122) (ci := 6) (C := R_Exprs) (T := F_Exprs) (N := 11) B 8 rfl rfl (by decide) i_Exprs t_Exprs_ok n_Exprs (B.2.2.2.1 _ k_202) rfl rfl rfl rfl d_Exprs_goOn_122 ?_
          refine mv_gen (fun S125 eS125 => ?_)
          have hR : Rw 48 (mv_r S125) := by rw [eS125]; exact hR
          have hF : RF 48 σ S125 := by rw [eS125]; exact hF.pop
          have hX : XM 48 th e0 bs BL f0 g0 ns S125 (ms) (sm wt ms + 1) (sm wr ms + 1) (s0) := by rw [eS125]; exact hX.pop hP ⟨show ¬ (40 : Int32) = 63 by decide, show ¬ (40 : Int32) = 58 by decide⟩
          have t7 := Eq.trans (congrArg Int32.toInt (show mv_i S125 3 7 = mv_i _ 3 7 by rw [eS125]; rfl)) t7
          have t8 := Eq.trans (congrArg Int32.toInt (show mv_i S125 3 8 = mv_i _ 3 8 by rw [eS125]; rfl)) t8
          have t9 := Eq.trans (congrArg Int32.toInt (show mv_i S125 3 9 = mv_i _ 3 9 by rw [eS125]; rfl)) t9
          have kp := Eq.trans (show mv_a S125 4 = mv_a _ 4 by rw [eS125]; rfl) kp
          clear eS125
          refine mv_goto (pc := 125) (tgt := 272) B d_Exprs_goOn_125 rfl ?_
          refine mv_iconst (pc := 272) (v := 1) B d_Exprs_goOn_272 (by decide) ?_
          exact mv_iret (pc := 273) B hr rfl d_Exprs_goOn_273 (Nat.le_refl _) (Nat.le_refl _) ⟨_, rfl, hF, hX.1.2.2.2.1, Or.inr rfl, Or.inr ⟨ms, s0, a + 1, by omega, hX, by omega, by omega, by omega, by omega, by omega, by omega, hWm.tail.up (by omega)⟩⟩
    have j74 : mv_V p l e ({ frames := 4, cells := 0, slots := 0, locals := 89 }) s m ([.ref (al 22), .int k9] : List Value).toArray below meth c (mg dA D al ext) 4 0 0 (mv_Q (mg dA D al ext) below s 0 0 (mv_Ri (fun v σ1 => RF 48 σ σ1 ∧ Mt (mv_a σ1 24) ∧ (v = 0 ∨ v = 1) ∧ (0 ≤ (mv_i σ1 3 9).toInt ∨ ∃ ms2 s2 a2, a < a2 ∧ XM 48 th e0 bs BL f0 g0 ns σ1 (ms2) (sm wt ms2 + v.toNatClampNeg) (sm wr ms2 + v.toNatClampNeg) (s2) ∧ TI σ1 sz bd ms2 s2 a2)))) σ 74 [(3, .int fl), (2, .int k8), (0, .ref (al 22)), (1, .int k9)] [] := by
      refine mv_iload_n (pc := 74) B d_Exprs_goOn_74 rfl 1 rfl ?_
      refine mv_bipush (pc := 75) (v := 91) B d_Exprs_goOn_75 (by decide) ?_
      refine mv_icmp_ne (pc := 77) (tgt := 93) B d_Exprs_goOn_77 rfl (fun h77 => ?_) (fun h77 => ?_)
      · skip
        refine mv_lpick [0, 1, 2, 3] rfl ?_
        exact j93
      · skip
        refine mv_iload_n (pc := 80) B d_Exprs_goOn_80 rfl 3 rfl ?_
        refine mv_bipush (pc := 81) (v := 93) B d_Exprs_goOn_81 (by decide) ?_
        refine mv_icmp_ne (pc := 83) (tgt := 93) B d_Exprs_goOn_83 rfl (fun h83 => ?_) (fun h83 => ?_)
        · skip
          refine mv_lpick [0, 1, 2, 3] rfl ?_
          exact j93
        · skip
          rw [h83] at hk3
          subst h77
          refine mv_aload_n (pc := 86) B d_Exprs_goOn_86 rfl 2 rfl ?_
          refine mv_callVv (pc := 87) (n := 0) (ci := 6) (C := R_Exprs) B (mK_ok sk sv) hNs rfl rfl (c_Exprs_cell_b l hi _ _ hB0 ht2 hX hI hlen hbs hk3) rfl (ma_goodc kc_Exprs_cell) (B.2.2.2.1 _ k_1514) (B.2.2.2.1 _ k_1516) (B.2.2.2.1 _ ks_63) (B.2.2.2.1 _ k_7) ⟨by decide +kernel, by decide +kernel, by decide +kernel⟩ rfl d_Exprs_goOn_87 rfl (Nat.le_of_ble_eq_true rfl) ⟨by decide, by decide⟩ ⟨by decide, by decide⟩ ⟨by decide, by decide⟩ (mv_noH hno _) (fun σ87 h87 => ?_)
          refine mv_goto (pc := 90) (tgt := 272) B d_Exprs_goOn_90 rfl ?_
          refine mv_iconst (pc := 272) (v := 1) B d_Exprs_goOn_272 (by decide) ?_
          exact mv_iret (pc := 273) B hr rfl d_Exprs_goOn_273 (Nat.le_refl _) (Nat.le_refl _) ⟨_, rfl, h87.1, h87.2.1, Or.inr rfl, h87.2.2⟩
    have j50 : mv_V p l e ({ frames := 4, cells := 0, slots := 0, locals := 89 }) s m ([.ref (al 22), .int k9] : List Value).toArray below meth c (mg dA D al ext) 4 0 0 (mv_Q (mg dA D al ext) below s 0 0 (mv_Ri (fun v σ1 => RF 48 σ σ1 ∧ Mt (mv_a σ1 24) ∧ (v = 0 ∨ v = 1) ∧ (0 ≤ (mv_i σ1 3 9).toInt ∨ ∃ ms2 s2 a2, a < a2 ∧ XM 48 th e0 bs BL f0 g0 ns σ1 (ms2) (sm wt ms2 + v.toNatClampNeg) (sm wr ms2 + v.toNatClampNeg) (s2) ∧ TI σ1 sz bd ms2 s2 a2)))) σ 50 [(3, .int fl), (2, .int k8), (0, .ref (al 22)), (1, .int k9)] [] := by
      refine mv_iload_n (pc := 50) B d_Exprs_goOn_50 rfl 1 rfl ?_
      refine mv_bipush (pc := 51) (v := 123) B d_Exprs_goOn_51 (by decide) ?_
      refine mv_icmp_ne (pc := 53) (tgt := 74) B d_Exprs_goOn_53 rfl (fun h53 => ?_) (fun h53 => ?_)
      · skip
        refine mv_lpick [0, 1, 2, 3] rfl ?_
        exact j74
      · skip
        refine mv_iload_n (pc := 56) B d_Exprs_goOn_56 rfl 3 rfl ?_
        refine mv_bipush (pc := 57) (v := 44) B d_Exprs_goOn_57 (by decide) ?_
        refine mv_icmp_eq (pc := 59) (tgt := 68) B d_Exprs_goOn_59 rfl (fun h59 => ?_) (fun h59 => ?_)
        · skip
          subst h53
          have hkd : k9 = 44 ∨ k9 = 125 := Or.inl h59
          refine mv_aload_n (pc := 68) B d_Exprs_goOn_68 rfl 2 rfl ?_
          refine mv_iload_n (pc := 69) B d_Exprs_goOn_69 rfl 3 rfl ?_
          refine mv_callVi (pc := 70) (n := 1) (ci := 6) (C := R_Exprs) B (mK_ok sk sv) hNs rfl rfl (c_Exprs_join_b l hi _ _ _ hB0 ht2 hX hI hlen hbs hk3 hkd) rfl (ma_goodc kc_Exprs_join) (B.2.2.2.1 _ k_1510) (B.2.2.2.1 _ k_1512) (B.2.2.2.1 _ ks_62) (B.2.2.2.1 _ k_7) ⟨by decide +kernel, by decide +kernel, by decide +kernel⟩ rfl d_Exprs_goOn_70 rfl (Nat.le_of_ble_eq_true rfl) ⟨by decide, by decide⟩ ⟨by decide, by decide⟩ ⟨by decide, by decide⟩ (mv_noH hno _) (fun v70 σ70 h70 => ?_)
          exact mv_iret (pc := 73) B hr rfl d_Exprs_goOn_73 (Nat.le_refl _) (Nat.le_refl _) ⟨_, rfl, h70⟩
        · skip
          refine mv_iload_n (pc := 62) B d_Exprs_goOn_62 rfl 3 rfl ?_
          refine mv_bipush (pc := 63) (v := 125) B d_Exprs_goOn_63 (by decide) ?_
          refine mv_icmp_ne (pc := 65) (tgt := 74) B d_Exprs_goOn_65 rfl (fun h65 => ?_) (fun h65 => ?_)
          · skip
            refine mv_lpick [0, 1, 2, 3] rfl ?_
            exact j74
          · skip
            subst h53
            have hkd : k9 = 44 ∨ k9 = 125 := Or.inr h65
            refine mv_aload_n (pc := 68) B d_Exprs_goOn_68 rfl 2 rfl ?_
            refine mv_iload_n (pc := 69) B d_Exprs_goOn_69 rfl 3 rfl ?_
            refine mv_callVi (pc := 70) (n := 1) (ci := 6) (C := R_Exprs) B (mK_ok sk sv) hNs rfl rfl (c_Exprs_join_b l hi _ _ _ hB0 ht2 hX hI hlen hbs hk3 hkd) rfl (ma_goodc kc_Exprs_join) (B.2.2.2.1 _ k_1510) (B.2.2.2.1 _ k_1512) (B.2.2.2.1 _ ks_62) (B.2.2.2.1 _ k_7) ⟨by decide +kernel, by decide +kernel, by decide +kernel⟩ rfl d_Exprs_goOn_70 rfl (Nat.le_of_ble_eq_true rfl) ⟨by decide, by decide⟩ ⟨by decide, by decide⟩ ⟨by decide, by decide⟩ (mv_noH hno _) (fun v70 σ70 h70 => ?_)
            exact mv_iret (pc := 73) B hr rfl d_Exprs_goOn_73 (Nat.le_refl _) (Nat.le_refl _) ⟨_, rfl, h70⟩
    refine mv_iload_n (pc := 32) B d_Exprs_goOn_32 rfl 1 rfl ?_
    refine mv_bipush (pc := 33) (v := 63) B d_Exprs_goOn_33 (by decide) ?_
    refine mv_icmp_ne (pc := 35) (tgt := 50) B d_Exprs_goOn_35 rfl (fun h35 => ?_) (fun h35 => ?_)
    · skip
      refine mv_lpick [0, 1, 2, 3] rfl ?_
      exact j50
    · skip
      refine mv_iload_n (pc := 38) B d_Exprs_goOn_38 rfl 3 rfl ?_
      refine mv_bipush (pc := 39) (v := 58) B d_Exprs_goOn_39 (by decide) ?_
      refine mv_icmp_ne (pc := 41) (tgt := 50) B d_Exprs_goOn_41 rfl (fun h41 => ?_) (fun h41 => ?_)
      · skip
        refine mv_lpick [0, 1, 2, 3] rfl ?_
        exact j50
      · skip
        rw [h41] at hk3
        subst h35
        refine mv_aload_n (pc := 44) B d_Exprs_goOn_44 rfl 2 rfl ?_
        refine mv_callVv (pc := 45) (n := 0) (ci := 6) (C := R_Exprs) B (mK_ok sk sv) hNs rfl rfl (c_Exprs_otherwise_b l hi _ _ hB0 ht2 hX hI hlen hbs hk3) rfl (ma_goodc kc_Exprs_otherwise) (B.2.2.2.1 _ k_1506) (B.2.2.2.1 _ k_1508) (B.2.2.2.1 _ ks_61) (B.2.2.2.1 _ k_7) ⟨by decide +kernel, by decide +kernel, by decide +kernel⟩ rfl d_Exprs_goOn_45 rfl (Nat.le_of_ble_eq_true rfl) ⟨by decide, by decide⟩ ⟨by decide, by decide⟩ ⟨by decide, by decide⟩ (mv_noH hno _) (fun σ45 h45 => ?_)
        refine mv_iconst (pc := 48) (v := 0) B d_Exprs_goOn_48 (by decide) ?_
        exact mv_iret (pc := 49) B hr rfl d_Exprs_goOn_49 (Nat.le_refl _) (Nat.le_refl _) ⟨_, rfl, h45.1, h45.2.1, Or.inl rfl, h45.2.2⟩
  refine mv_aload_n (pc := 0) B d_Exprs_goOn_0 rfl 0 rfl ?_
  refine mv_getR (pc := 1) (ci := 6) (C := R_Exprs) (T := F_Exprs) (N := 11) B 4 rfl rfl (by decide) i_Exprs (B.2.2.2.1 _ k_198) rfl (hR.1 _ 4 _ rfl) d_Exprs_goOn_1 ?_
  refine mv_aload_n (pc := 4) B d_Exprs_goOn_4 rfl 0 rfl ?_
  refine mv_getI (pc := 5) (ci := 6) (C := R_Exprs) (T := F_Exprs) (N := 11) B 8 rfl rfl (by decide) i_Exprs (B.2.2.2.1 _ k_202) rfl d_Exprs_goOn_5 ?_
  refine mv_iconst (pc := 8) (v := 1) B d_Exprs_goOn_8 (by decide) ?_
  refine mv_isub (pc := 9) B d_Exprs_goOn_9 ?_
  refine mv_iald (pc := 10) B rfl (i32_in (by omega) (by omega)) d_Exprs_goOn_10 ?_
  rw [p3]
  refine mv_istore_n (pc := 11) B d_Exprs_goOn_11 rfl (by decide) rfl ?_
  refine mv_aload_n (pc := 12) B d_Exprs_goOn_12 rfl 1 rfl ?_
  refine mv_getR (pc := 13) (ci := 6) (C := R_Exprs) (T := F_Exprs) (N := 11) B 6 rfl rfl (by decide) i_Exprs (B.2.2.2.1 _ k_200) rfl (hR.1 _ 6 _ rfl) d_Exprs_goOn_13 ?_
  refine mv_aload_n (pc := 16) B d_Exprs_goOn_16 rfl 1 rfl ?_
  refine mv_getI (pc := 17) (ci := 6) (C := R_Exprs) (T := F_Exprs) (N := 11) B 8 rfl rfl (by decide) i_Exprs (B.2.2.2.1 _ k_202) rfl d_Exprs_goOn_17 ?_
  refine mv_iconst (pc := 20) (v := 1) B d_Exprs_goOn_20 (by decide) ?_
  refine mv_isub (pc := 21) B d_Exprs_goOn_21 ?_
  refine mv_iald (pc := 22) B rfl (i32_in (by omega) (by omega)) d_Exprs_goOn_22 ?_
  rw [p4]
  refine mv_if_ne (pc := 23) (tgt := 30) B d_Exprs_goOn_23 rfl (fun h23 => ?_) (fun h23 => ?_)
  · skip
    have hfl : ((0 : Int32) = 1 ∧ w8 = 0) ∨ ((0 : Int32) = 0 ∧ ¬ w8 = 0) := Or.inr ⟨rfl, h23⟩
    refine mv_iconst (pc := 30) (v := 0) B d_Exprs_goOn_30 (by decide) ?_
    refine mv_istore_n (pc := 31) B d_Exprs_goOn_31 rfl (by decide) rfl ?_
    refine mv_lpick [0, 1, 2, 3] rfl ?_
    exact j32 _ hfl
  · skip
    have hfl : ((1 : Int32) = 1 ∧ w8 = 0) ∨ ((1 : Int32) = 0 ∧ ¬ w8 = 0) := Or.inl ⟨rfl, h23⟩
    refine mv_iconst (pc := 26) (v := 1) B d_Exprs_goOn_26 (by decide) ?_
    refine mv_goto (pc := 27) (tgt := 31) B d_Exprs_goOn_27 rfl ?_
    refine mv_istore_n (pc := 31) B d_Exprs_goOn_31 rfl (by decide) rfl ?_
    refine mv_lpick [0, 1, 2, 3] rfl ?_
    exact j32 _ hfl
set_option maxHeartbeats 4000000 in
set_option maxRecDepth 100000 in
theorem c_Exprs_goOn_c (l : Launch) {dA : FieldType → ClassId} {D : va_G} {al : Nat → Nat} {sk sv : Nat → Nat} (hi : mv_inj (mg dA D al me)) (σ : mv_H) (k9 k8 w8 : Int32) {t len n z sz th sl e0 bs ns : Nat} {BL : (Nat → Nat) → Prop} {f0 : Nat → Int32} {g0 : Nat → Int64} {ms : List Mk} {s0 bd a : Nat} (hB0 : SB 145 σ t len n z sz th sl) (ht2 : t = 1 ∨ t = 144) (hX : XM 145 th e0 bs BL f0 g0 ns σ (((k8, w8) : Mk) :: ms) (sm wt (((k8, w8) : Mk) :: ms) + 1) (sm wr (((k8, w8) : Mk) :: ms) + 1) (s0)) (hI : TI σ sz bd (((k8, w8) : Mk) :: ms) s0 a) (hlen : len ≤ 8192) (hbs : bs ≤ 1) (hk3 : mv_a σ 4 (mv_i σ 3 7).toNatClampNeg = k9) : mv_C l y_Exprs_goOn (Cond.code y_Exprs_goOn b_Exprs_goOn 4 (Option.some Jvm.ClassFile.FieldType.int) :: ma) ({ frames := 4, cells := 0, slots := 0, locals := 89 }) (mg dA D al me) (mK sk sv) [.ref (al 22), .int k9] σ (mv_Ri (fun v σ1 => RF 145 σ σ1 ∧ Mt (mv_a σ1 24) ∧ (v = 0 ∨ v = 1) ∧ (0 ≤ (mv_i σ1 3 9).toInt ∨ ∃ ms2 s2 a2, a < a2 ∧ XM 145 th e0 bs BL f0 g0 ns σ1 (ms2) (sm wt ms2 + v.toNatClampNeg) (sm wr ms2 + v.toNatClampNeg) (s2) ∧ TI σ1 sz bd ms2 s2 a2))) := by
  refine mv_C.ofV (cc := b_Exprs_goOn) (nL := 4) (ret := (Option.some Jvm.ClassFile.FieldType.int)) (by decide +kernel) rfl hi (Nat.le_of_ble_eq_true rfl) ?_
  intro p e s m below meth c B hNs hr hnm hno
  have hP : PQ 145 := by unfold PQ; omega
  have hR := hB0.1
  have hF : RF 145 σ σ := RF0
  have hT : mv_i σ 3 = mv_i σ 3 := rfl
  have hsz := hB0.2.1.2.2.2.2.2
  have hsz2 := hB0.2.1.2.2.2.1
  have hI5 := hI.2.2.2.2.1
  have ha9 := hI.2.2.2.2.2.1
  have pl := hI.len hX
  have hm8 := hX.1.1
  have t7 := hI.1
  have hw9 := hI.2.1
  have t9 : (mv_i σ 3 9).toInt = (mv_i σ 3 9).toInt := rfl
  have hd8 := hI.2.2.1
  have hd9 := hI.2.2.2.1
  have hWm := hI.2.2.2.2.2.2
  have kp : mv_a σ 4 = mv_a σ 4 := rfl
  have t8 : (mv_i σ 3 8).toInt = (mv_i σ 3 8).toInt := rfl
  obtain ⟨p1, p2, p3, p4⟩ := hX.top
  have g1 : sm wt (((k8, w8) : Mk) :: ms) = wt (k8, w8) + sm wt ms := rfl
  have g2 : sm wr (((k8, w8) : Mk) :: ms) = wr (k8, w8) + sm wr ms := rfl
  have g3 : sm wd (((k8, w8) : Mk) :: ms) = wd (k8, w8) + sm wd ms := rfl
  have g4 : sm wc (((k8, w8) : Mk) :: ms) = wc (k8, w8) + sm wc ms := rfl
  have gl : ((((k8, w8)) : Mk) :: ms).length = ms.length + 1 := rfl
  have j32 : ∀ (fl : Int32) (hfl : (fl = 1 ∧ w8 = 0) ∨ (fl = 0 ∧ ¬ w8 = 0)), mv_V p l e ({ frames := 4, cells := 0, slots := 0, locals := 89 }) s m ([.ref (al 22), .int k9] : List Value).toArray below meth c (mg dA D al me) 4 0 0 (mv_Q (mg dA D al me) below s 0 0 (mv_Ri (fun v σ1 => RF 145 σ σ1 ∧ Mt (mv_a σ1 24) ∧ (v = 0 ∨ v = 1) ∧ (0 ≤ (mv_i σ1 3 9).toInt ∨ ∃ ms2 s2 a2, a < a2 ∧ XM 145 th e0 bs BL f0 g0 ns σ1 (ms2) (sm wt ms2 + v.toNatClampNeg) (sm wr ms2 + v.toNatClampNeg) (s2) ∧ TI σ1 sz bd ms2 s2 a2)))) σ 32 [(3, .int fl), (2, .int k8), (0, .ref (al 22)), (1, .int k9)] [] := by
    intro fl hfl
    have j265 : mv_V p l e ({ frames := 4, cells := 0, slots := 0, locals := 89 }) s m ([.ref (al 22), .int k9] : List Value).toArray below meth c (mg dA D al me) 4 0 0 (mv_Q (mg dA D al me) below s 0 0 (mv_Ri (fun v σ1 => RF 145 σ σ1 ∧ Mt (mv_a σ1 24) ∧ (v = 0 ∨ v = 1) ∧ (0 ≤ (mv_i σ1 3 9).toInt ∨ ∃ ms2 s2 a2, a < a2 ∧ XM 145 th e0 bs BL f0 g0 ns σ1 (ms2) (sm wt ms2 + v.toNatClampNeg) (sm wr ms2 + v.toNatClampNeg) (s2) ∧ TI σ1 sz bd ms2 s2 a2)))) σ 265 [(3, .int fl), (2, .int k8), (0, .ref (al 22)), (1, .int k9)] [] := by
      refine mv_aload_n (pc := 265) B d_Exprs_goOn_265 rfl 2 rfl ?_
      refine mv_getR (pc := 266) (ci := 6) (C := R_Exprs) (T := F_Exprs) (N := 11) B 0 rfl rfl (by decide) i_Exprs (B.2.2.2.1 _ k_193) rfl (hR.1 _ 0 _ rfl) d_Exprs_goOn_266 ?_
      refine mv_callVv (pc := 269) (n := 0) (ci := 2) (C := R_Tokens) B (mK_ok sk sv) hNs rfl rfl (c_Tokens_wrongN l hi _ hR.1 hB0.2.1 (by omega) (by omega)) rfl (ma_goodc kc_Tokens_wrong) (B.2.2.2.1 _ k_1459) (B.2.2.2.1 _ k_1275) (B.2.2.2.1 _ k_1276) (B.2.2.2.1 _ k_3) ⟨by decide +kernel, by decide +kernel, by decide +kernel⟩ rfl d_Exprs_goOn_269 rfl (Nat.le_of_ble_eq_true rfl) ⟨by decide, by decide⟩ ⟨by decide, by decide⟩ ⟨by decide, by decide⟩ (mv_noH hno _) (fun σ269 h269 => ?_)
      obtain ⟨w18, e18, z18⟩ := h269
      subst e18
      refine mv_gen (fun S272 eS272 => ?_)
      have hR : Rw 145 (mv_r S272) := by rw [eS272]; exact hR
      have hF : RF 145 σ S272 := by rw [eS272]; exact hF.tk3 _ _ _
      have hX : XM 145 th e0 bs BL f0 g0 ns S272 (((k8, w8) : Mk) :: ms) (sm wt (((k8, w8) : Mk) :: ms) + 1) (sm wr (((k8, w8) : Mk) :: ms) + 1) (s0) := by rw [eS272]; exact hX.tk3 hP _ _ _
      have hend : 0 ≤ (mv_i S272 3 9).toInt := by rw [eS272]; exact z18
      clear eS272
      refine mv_iconst (pc := 272) (v := 1) B d_Exprs_goOn_272 (by decide) ?_
      exact mv_iret (pc := 273) B hr rfl d_Exprs_goOn_273 (Nat.le_refl _) (Nat.le_refl _) ⟨_, rfl, hF, hX.1.2.2.2.1, Or.inr rfl, Or.inl hend⟩
    have j204 : mv_V p l e ({ frames := 4, cells := 0, slots := 0, locals := 89 }) s m ([.ref (al 22), .int k9] : List Value).toArray below meth c (mg dA D al me) 4 0 0 (mv_Q (mg dA D al me) below s 0 0 (mv_Ri (fun v σ1 => RF 145 σ σ1 ∧ Mt (mv_a σ1 24) ∧ (v = 0 ∨ v = 1) ∧ (0 ≤ (mv_i σ1 3 9).toInt ∨ ∃ ms2 s2 a2, a < a2 ∧ XM 145 th e0 bs BL f0 g0 ns σ1 (ms2) (sm wt ms2 + v.toNatClampNeg) (sm wr ms2 + v.toNatClampNeg) (s2) ∧ TI σ1 sz bd ms2 s2 a2)))) σ 204 [(3, .int fl), (2, .int k8), (0, .ref (al 22)), (1, .int k9)] [] := by
      refine mv_iload_n (pc := 204) B d_Exprs_goOn_204 rfl 1 rfl ?_
      refine mv_sipush (pc := 205) (v := 213) B d_Exprs_goOn_205 (by decide) ?_
      refine mv_icmp_lt (pc := 208) (tgt := 265) B d_Exprs_goOn_208 rfl (fun h208 => ?_) (fun h208 => ?_)
      · skip
        refine mv_lpick [0, 1, 2, 3] rfl ?_
        exact j265
      · skip
        refine mv_iload_n (pc := 211) B d_Exprs_goOn_211 rfl 1 rfl ?_
        refine mv_sipush (pc := 212) (v := 216) B d_Exprs_goOn_212 (by decide) ?_
        refine mv_icmp_gt (pc := 215) (tgt := 265) B d_Exprs_goOn_215 rfl (fun h215 => ?_) (fun h215 => ?_)
        · skip
          refine mv_lpick [0, 1, 2, 3] rfl ?_
          exact j265
        · skip
          refine mv_iload_n (pc := 218) B d_Exprs_goOn_218 rfl 3 rfl ?_
          refine mv_bipush (pc := 219) (v := 41) B d_Exprs_goOn_219 (by decide) ?_
          refine mv_icmp_ne (pc := 221) (tgt := 265) B d_Exprs_goOn_221 rfl (fun h221 => ?_) (fun h221 => ?_)
          · skip
            refine mv_lpick [0, 1, 2, 3] rfl ?_
            exact j265
          · skip
            refine mv_iload_n (pc := 224) B d_Exprs_goOn_224 rfl 0 rfl ?_
            refine mv_if_ne (pc := 225) (tgt := 265) B d_Exprs_goOn_225 rfl (fun h225 => ?_) (fun h225 => ?_)
            · skip
              refine mv_lpick [0, 1, 2, 3] rfl ?_
              exact j265
            · skip
              rw [Int32.lt_iff_toInt_lt] at h208
              simp only [Int32.reduceToInt] at h208
              rw [Int32.lt_iff_toInt_lt] at h215
              simp only [Int32.reduceToInt] at h215
              have hk4 : k8 = 213 ∨ k8 = 214 ∨ k8 = 215 ∨ k8 = 216 := by simp only [← Int32.toInt_inj, Int32.reduceToInt]; omega
              have hk5 : wd (k8, w8) = 1 ∧ wc (k8, w8) = 0 := by rcases hk4 with rfl | rfl | rfl | rfl <;> exact ⟨rfl, rfl⟩
              have hk6 : ¬ k8 = 63 ∧ ¬ k8 = 58 ∧ ¬ k8 = 91 := by rcases hk4 with rfl | rfl | rfl | rfl <;> decide
              have hk7 : ∀ y : Int32, wt (k8, y) = (if y = 0 then 0 else 1) ∧ wr (k8, y) = (if y = 0 then 0 else 1) := fun y => by rcases hk4 with rfl | rfl | rfl | rfl <;> exact ⟨rfl, rfl⟩
              have hk8 : wd (k8, 1) = 1 ∧ wc (k8, 1) = 0 ∧ ¬ k8 = 123 := by rcases hk4 with rfl | rfl | rfl | rfl <;> exact ⟨rfl, rfl, by decide⟩
              have hw0 : ¬ w8 = 0 := hfl.elim (fun q => absurd (q.1.symm.trans h225) (by decide)) (fun q => q.2)
              have x1 : wt (k8, w8) = 1 := (hk7 w8).1.trans (if_neg hw0)
              have x2 : wr (k8, w8) = 1 := (hk7 w8).2.trans (if_neg hw0)
              rw [g1, g2, x1, x2, show 1 + sm wt ms + 1 = sm wt ms + 2 by omega, show 1 + sm wr ms + 1 = sm wr ms + 2 by omega] at hX
              rw [h221] at hk3
              refine mv_aload_n (pc := 228) B d_Exprs_goOn_228 rfl 2 rfl ?_
              refine mv_getR (pc := 229) (ci := 6) (C := R_Exprs) (T := F_Exprs) (N := 11) B 0 rfl rfl (by decide) i_Exprs (B.2.2.2.1 _ k_193) rfl (hR.1 _ 0 _ rfl) d_Exprs_goOn_229 ?_
              refine mv_bipush (pc := 232) (v := 41) B d_Exprs_goOn_232 (by decide) ?_
              refine mv_callVi (pc := 234) (n := 1) (ci := 2) (C := R_Tokens) B (mK_ok sk sv) hNs rfl rfl (c_Tokens_closeN l hi _ _ hR.1 (hB0.rf hF hP ht2).2.1 (by omega) (by omega) (by decide)) rfl (ma_goodc kc_Tokens_close) (B.2.2.2.1 _ k_1468) (B.2.2.2.1 _ k_1397) (B.2.2.2.1 _ k_1398) (B.2.2.2.1 _ k_3) ⟨by decide +kernel, by decide +kernel, by decide +kernel⟩ rfl d_Exprs_goOn_234 rfl (Nat.le_of_ble_eq_true rfl) ⟨by decide, by decide⟩ ⟨by decide, by decide⟩ ⟨by decide, by decide⟩ (mv_noH hno _) (fun v234 σ234 h234 => ?_)
              obtain ⟨a234, w234, e234, r234⟩ := h234
              have q234 := r234.1
              have z234 := fun q => (r234.2.1 q).1
              have y234 := And.intro r234.2.2.2.1 r234.2.2.2.2.1
              subst e234
              have hw6 := r234.2.2.1 hw9 hk3 trivial
              refine mv_gen (fun S237 eS237 => ?_)
              have hR : Rw 145 (mv_r S237) := by rw [eS237]; exact hR
              have hF : RF 145 σ S237 := by rw [eS237]; exact hF.tk3 _ _ _
              have hX : XM 145 th e0 bs BL f0 g0 ns S237 (((k8, w8) : Mk) :: ms) (sm wt ms + 2) (sm wr ms + 2) (s0) := by rw [eS237]; exact hX.tk3 hP _ _ _
              have t7 : (mv_i S237 3 7).toInt = a234.toInt := by rw [eS237]; rfl
              have t8 : (mv_i S237 3 8).toInt = (mv_i σ 3 8).toInt - 1 := by rw [eS237]; first | exact t8 | exact (sub_one (by omega)).trans (by omega) | exact (i32_inc (by omega)).trans (by omega)
              have t9 : (mv_i S237 3 9).toInt = w234.toInt := by rw [eS237]; rfl
              have kS237 : mv_a S237 4 = mv_a σ 4 := by rw [eS237]; first | rfl | exact kp
              have kp := kS237
              clear eS237
              refine mv_pop (pc := 237) B d_Exprs_goOn_237 rfl ?_
              refine mv_aload_n (pc := 238) B d_Exprs_goOn_238 rfl 2 rfl ?_
              refine mv_dup (pc := 239) B d_Exprs_goOn_239 rfl ?_
              refine mv_getI (pc := 240) (ci := 6) (C := R_Exprs) (T := F_Exprs) (N := 11) B 8 rfl rfl (by decide) i_Exprs (B.2.2.2.1 _ k_202) rfl d_Exprs_goOn_240 ?_
              refine mv_iconst (pc := 243) (v := 1) B d_Exprs_goOn_243 (by decide) ?_
              refine mv_isub (pc := 244) B d_Exprs_goOn_244 ?_
              refine mv_putI (pc := 245) (ci := 6) (C := R_Exprs) (T := F_Exprs) (N := 11) B 8 rfl rfl (by decide) i_Exprs t_Exprs_ok n_Exprs (B.2.2.2.1 _ k_202) rfl rfl rfl rfl d_Exprs_goOn_245 ?_
              refine mv_gen (fun S248 eS248 => ?_)
              have hR : Rw 145 (mv_r S248) := by rw [eS248]; exact hR
              have hF : RF 145 σ S248 := by rw [eS248]; exact hF.pop
              have hX : XM 145 th e0 bs BL f0 g0 ns S248 (ms) (sm wt ms + 2) (sm wr ms + 2) (s0) := by rw [eS248]; exact hX.pop hP ⟨hk6.1, hk6.2.1⟩
              have t7 := Eq.trans (congrArg Int32.toInt (show mv_i S248 3 7 = mv_i _ 3 7 by rw [eS248]; rfl)) t7
              have t8 := Eq.trans (congrArg Int32.toInt (show mv_i S248 3 8 = mv_i _ 3 8 by rw [eS248]; rfl)) t8
              have t9 := Eq.trans (congrArg Int32.toInt (show mv_i S248 3 9 = mv_i _ 3 9 by rw [eS248]; rfl)) t9
              have kp := Eq.trans (show mv_a S248 4 = mv_a _ 4 by rw [eS248]; rfl) kp
              have hk9 := hX.tok (i := (mv_i S248 22 8).toNatClampNeg) (by have := hX.n; omega)
              clear eS248
              refine mv_aload_n (pc := 248) B d_Exprs_goOn_248 rfl 2 rfl ?_
              refine mv_iload_n (pc := 249) B d_Exprs_goOn_249 rfl 1 rfl ?_
              refine mv_aload_n (pc := 250) B d_Exprs_goOn_250 rfl 2 rfl ?_
              refine mv_getR (pc := 251) (ci := 6) (C := R_Exprs) (T := F_Exprs) (N := 11) B 5 rfl rfl (by decide) i_Exprs (B.2.2.2.1 _ k_199) rfl (hR.1 _ 5 _ rfl) d_Exprs_goOn_251 ?_
              refine mv_aload_n (pc := 254) B d_Exprs_goOn_254 rfl 2 rfl ?_
              refine mv_getI (pc := 255) (ci := 6) (C := R_Exprs) (T := F_Exprs) (N := 11) B 8 rfl rfl (by decide) i_Exprs (B.2.2.2.1 _ k_202) rfl d_Exprs_goOn_255 ?_
              refine mv_iald (pc := 258) B rfl (i32_in (show 0 ≤ (mv_i S248 22 8).toInt by have := hX.1.1; omega) (show (mv_i S248 22 8).toInt < 1024 by have := hX.1.1; omega)) d_Exprs_goOn_258 ?_
              refine mv_callVv (pc := 259) (n := 2) (ci := 6) (C := R_Exprs) B (mK_ok sk sv) hNs rfl rfl (c_Exprs_ofTwo_c l hi _ _ _ (hB0.rf hF hP ht2) ht2 hX (Or.inr hk4) hk9.1 hk9.2 (by omega) (by omega) (by omega)) rfl (ma_goodc kc_Exprs_ofTwo) (B.2.2.2.1 _ k_1489) (B.2.2.2.1 _ k_1491) (B.2.2.2.1 _ ks_57) (B.2.2.2.1 _ k_7) ⟨by decide +kernel, by decide +kernel, by decide +kernel⟩ rfl d_Exprs_goOn_259 rfl (Nat.le_of_ble_eq_true rfl) ⟨by decide, by decide⟩ ⟨by decide, by decide⟩ ⟨by decide, by decide⟩ (mv_noH hno _) (fun σ259 h259 => ?_)
              obtain ⟨f259, x259, t259⟩ := h259
              refine mv_gen (fun S272 eS272 => ?_)
              subst eS272
              refine mv_goto (pc := 262) (tgt := 272) B d_Exprs_goOn_262 rfl ?_
              refine mv_iconst (pc := 272) (v := 1) B d_Exprs_goOn_272 (by decide) ?_
              exact mv_iret (pc := 273) B hr rfl d_Exprs_goOn_273 (Nat.le_refl _) (Nat.le_refl _) ⟨_, rfl, hF.tr f259, x259.1.2.2.2.1, Or.inr rfl, Or.inr ⟨ms, s0 + 1, a + 1, by omega, x259, by rw [t259]; omega, by rw [t259]; omega, by rw [t259]; omega, by rw [t259]; omega, by omega, by omega, hWm.tail.up (by omega)⟩⟩
    have j156 : mv_V p l e ({ frames := 4, cells := 0, slots := 0, locals := 89 }) s m ([.ref (al 22), .int k9] : List Value).toArray below meth c (mg dA D al me) 4 0 0 (mv_Q (mg dA D al me) below s 0 0 (mv_Ri (fun v σ1 => RF 145 σ σ1 ∧ Mt (mv_a σ1 24) ∧ (v = 0 ∨ v = 1) ∧ (0 ≤ (mv_i σ1 3 9).toInt ∨ ∃ ms2 s2 a2, a < a2 ∧ XM 145 th e0 bs BL f0 g0 ns σ1 (ms2) (sm wt ms2 + v.toNatClampNeg) (sm wr ms2 + v.toNatClampNeg) (s2) ∧ TI σ1 sz bd ms2 s2 a2)))) σ 156 [(3, .int fl), (2, .int k8), (0, .ref (al 22)), (1, .int k9)] [] := by
      refine mv_iload_n (pc := 156) B d_Exprs_goOn_156 rfl 1 rfl ?_
      refine mv_sipush (pc := 157) (v := 213) B d_Exprs_goOn_157 (by decide) ?_
      refine mv_icmp_lt (pc := 160) (tgt := 204) B d_Exprs_goOn_160 rfl (fun h160 => ?_) (fun h160 => ?_)
      · skip
        refine mv_lpick [0, 1, 2, 3] rfl ?_
        exact j204
      · skip
        refine mv_iload_n (pc := 163) B d_Exprs_goOn_163 rfl 1 rfl ?_
        refine mv_sipush (pc := 164) (v := 216) B d_Exprs_goOn_164 (by decide) ?_
        refine mv_icmp_gt (pc := 167) (tgt := 204) B d_Exprs_goOn_167 rfl (fun h167 => ?_) (fun h167 => ?_)
        · skip
          refine mv_lpick [0, 1, 2, 3] rfl ?_
          exact j204
        · skip
          refine mv_iload_n (pc := 170) B d_Exprs_goOn_170 rfl 3 rfl ?_
          refine mv_bipush (pc := 171) (v := 44) B d_Exprs_goOn_171 (by decide) ?_
          refine mv_icmp_ne (pc := 173) (tgt := 204) B d_Exprs_goOn_173 rfl (fun h173 => ?_) (fun h173 => ?_)
          · skip
            refine mv_lpick [0, 1, 2, 3] rfl ?_
            exact j204
          · skip
            refine mv_iload_n (pc := 176) B d_Exprs_goOn_176 rfl 0 rfl ?_
            refine mv_if_eq (pc := 177) (tgt := 204) B d_Exprs_goOn_177 rfl (fun h177 => ?_) (fun h177 => ?_)
            · skip
              refine mv_lpick [0, 1, 2, 3] rfl ?_
              exact j204
            · skip
              rw [Int32.lt_iff_toInt_lt] at h160
              simp only [Int32.reduceToInt] at h160
              rw [Int32.lt_iff_toInt_lt] at h167
              simp only [Int32.reduceToInt] at h167
              have hk4 : k8 = 213 ∨ k8 = 214 ∨ k8 = 215 ∨ k8 = 216 := by simp only [← Int32.toInt_inj, Int32.reduceToInt]; omega
              have hk5 : wd (k8, w8) = 1 ∧ wc (k8, w8) = 0 := by rcases hk4 with rfl | rfl | rfl | rfl <;> exact ⟨rfl, rfl⟩
              have hk6 : ¬ k8 = 63 ∧ ¬ k8 = 58 ∧ ¬ k8 = 91 := by rcases hk4 with rfl | rfl | rfl | rfl <;> decide
              have hk7 : ∀ y : Int32, wt (k8, y) = (if y = 0 then 0 else 1) ∧ wr (k8, y) = (if y = 0 then 0 else 1) := fun y => by rcases hk4 with rfl | rfl | rfl | rfl <;> exact ⟨rfl, rfl⟩
              have hk8 : wd (k8, 1) = 1 ∧ wc (k8, 1) = 0 ∧ ¬ k8 = 123 := by rcases hk4 with rfl | rfl | rfl | rfl <;> exact ⟨rfl, rfl, by decide⟩
              have hw0 : w8 = 0 := hfl.elim (fun q => q.2) (fun q => absurd q.1 h177)
              rw [h173] at hk3
              have x1 : wt (k8, w8) = 0 := (hk7 w8).1.trans (if_pos hw0)
              have x2 : wr (k8, w8) = 0 := (hk7 w8).2.trans (if_pos hw0)
              rw [g1, g2, x1, x2, Nat.zero_add, Nat.zero_add] at hX
              refine mv_aload_n (pc := 180) B d_Exprs_goOn_180 rfl 2 rfl ?_
              refine mv_getR (pc := 181) (ci := 6) (C := R_Exprs) (T := F_Exprs) (N := 11) B 0 rfl rfl (by decide) i_Exprs (B.2.2.2.1 _ k_193) rfl (hR.1 _ 0 _ rfl) d_Exprs_goOn_181 ?_
              refine mv_bipush (pc := 184) (v := 44) B d_Exprs_goOn_184 (by decide) ?_
              refine mv_callVi (pc := 186) (n := 1) (ci := 2) (C := R_Tokens) B (mK_ok sk sv) hNs rfl rfl (c_Tokens_takeN l hi _ _ hR.1 (hB0.rf hF hP ht2).2.1 (by omega) (by omega) (by decide)) rfl (ma_goodc kc_Tokens_take) (B.2.2.2.1 _ k_1424) (B.2.2.2.1 _ k_1267) (B.2.2.2.1 _ k_1268) (B.2.2.2.1 _ k_3) ⟨by decide +kernel, by decide +kernel, by decide +kernel⟩ rfl d_Exprs_goOn_186 rfl (Nat.le_of_ble_eq_true rfl) ⟨by decide, by decide⟩ ⟨by decide, by decide⟩ ⟨by decide, by decide⟩ (mv_noH hno _) (fun v186 σ186 h186 => ?_)
              obtain ⟨a186, w186, e186, r186⟩ := h186
              have q186 := r186.1
              have z186 := fun q => (r186.2.1 q).1
              have y186 := And.intro r186.2.2.2.1 r186.2.2.2.2.1
              subst e186
              have hw6 := r186.2.2.1 hw9 hk3 trivial
              refine mv_gen (fun S189 eS189 => ?_)
              have hR : Rw 145 (mv_r S189) := by rw [eS189]; exact hR
              have hF : RF 145 σ S189 := by rw [eS189]; exact hF.tk3 _ _ _
              have hX : XM 145 th e0 bs BL f0 g0 ns S189 (((k8, w8) : Mk) :: ms) (sm wt ms + 1) (sm wr ms + 1) (s0) := by rw [eS189]; exact hX.tk3 hP _ _ _
              have t7 : (mv_i S189 3 7).toInt = a186.toInt := by rw [eS189]; rfl
              have t8 : (mv_i S189 3 8).toInt = (mv_i σ 3 8).toInt := by rw [eS189]; first | exact t8 | exact (sub_one (by omega)).trans (by omega) | exact (i32_inc (by omega)).trans (by omega)
              have t9 : (mv_i S189 3 9).toInt = w186.toInt := by rw [eS189]; rfl
              have kS189 : mv_a S189 4 = mv_a σ 4 := by rw [eS189]; first | rfl | exact kp
              have kp := kS189
              obtain ⟨p1, p2, p3, p4⟩ := hX.top
              clear eS189
              refine mv_pop (pc := 189) B d_Exprs_goOn_189 rfl ?_
              refine mv_aload_n (pc := 190) B d_Exprs_goOn_190 rfl 2 rfl ?_
              refine mv_getR (pc := 191) (ci := 6) (C := R_Exprs) (T := F_Exprs) (N := 11) B 6 rfl rfl (by decide) i_Exprs (B.2.2.2.1 _ k_200) rfl (hR.1 _ 6 _ rfl) d_Exprs_goOn_191 ?_
              refine mv_aload_n (pc := 194) B d_Exprs_goOn_194 rfl 2 rfl ?_
              refine mv_getI (pc := 195) (ci := 6) (C := R_Exprs) (T := F_Exprs) (N := 11) B 8 rfl rfl (by decide) i_Exprs (B.2.2.2.1 _ k_202) rfl d_Exprs_goOn_195 ?_
              refine mv_iconst (pc := 198) (v := 1) B d_Exprs_goOn_198 (by decide) ?_
              refine mv_isub (pc := 199) B d_Exprs_goOn_199 ?_
              refine mv_iconst (pc := 200) (v := 1) B d_Exprs_goOn_200 (by decide) ?_
              refine mv_iast (pc := 201) B rfl (i32_in (by omega) (by omega)) d_Exprs_goOn_201 ?_
              refine mv_gen (fun S202 eS202 => ?_)
              have hR : Rw 145 (mv_r S202) := by rw [eS202]; exact hR
              have hF : RF 145 σ S202 := by rw [eS202]; exact hF.row ⟨by omega, by omega⟩ _ _
              have hX : XM 145 th e0 bs BL f0 g0 ns S202 (((k8, 1) : Mk) :: ms) (sm wt ms + 1) (sm wr ms + 1) (s0) := by rw [eS202]; exact hX.with hP p2 hk6
              have t7 := Eq.trans (congrArg Int32.toInt (show mv_i S202 3 7 = mv_i _ 3 7 by rw [eS202]; rfl)) t7
              have t8 := Eq.trans (congrArg Int32.toInt (show mv_i S202 3 8 = mv_i _ 3 8 by rw [eS202]; rfl)) t8
              have t9 := Eq.trans (congrArg Int32.toInt (show mv_i S202 3 9 = mv_i _ 3 9 by rw [eS202]; rfl)) t9
              have kp := Eq.trans (show mv_a S202 4 = mv_a _ 4 by rw [eS202]; rfl) kp
              have y1 : sm wt (((k8, 1) : Mk) :: ms) = wt (k8, 1) + sm wt ms := rfl
              have y2 : sm wr (((k8, 1) : Mk) :: ms) = wr (k8, 1) + sm wr ms := rfl
              have y3 : sm wd (((k8, 1) : Mk) :: ms) = wd (k8, 1) + sm wd ms := rfl
              have y4 : sm wc (((k8, 1) : Mk) :: ms) = wc (k8, 1) + sm wc ms := rfl
              have x3 : wt (k8, 1) = 1 := (hk7 1).1
              have x4 : wr (k8, 1) = 1 := (hk7 1).2
              clear eS202
              refine mv_iconst (pc := 202) (v := 0) B d_Exprs_goOn_202 (by decide) ?_
              exact mv_iret (pc := 203) B hr rfl d_Exprs_goOn_203 (Nat.le_refl _) (Nat.le_refl _) ⟨_, rfl, hF, hX.1.2.2.2.1, Or.inl rfl, Or.inr ⟨((k8, 1) : Mk) :: ms, s0, a + 1, by omega, by rw [y1, y2, x3, x4, Nat.add_comm 1, Nat.add_comm 1]; exact hX, by omega, by omega, by omega, by omega, by omega, by omega, (hWm.tail.up (by omega)).cons (fun q => absurd q hk8.2.2)⟩⟩
    have j128 : mv_V p l e ({ frames := 4, cells := 0, slots := 0, locals := 89 }) s m ([.ref (al 22), .int k9] : List Value).toArray below meth c (mg dA D al me) 4 0 0 (mv_Q (mg dA D al me) below s 0 0 (mv_Ri (fun v σ1 => RF 145 σ σ1 ∧ Mt (mv_a σ1 24) ∧ (v = 0 ∨ v = 1) ∧ (0 ≤ (mv_i σ1 3 9).toInt ∨ ∃ ms2 s2 a2, a < a2 ∧ XM 145 th e0 bs BL f0 g0 ns σ1 (ms2) (sm wt ms2 + v.toNatClampNeg) (sm wr ms2 + v.toNatClampNeg) (s2) ∧ TI σ1 sz bd ms2 s2 a2)))) σ 128 [(3, .int fl), (2, .int k8), (0, .ref (al 22)), (1, .int k9)] [] := by
      refine mv_iload_n (pc := 128) B d_Exprs_goOn_128 rfl 1 rfl ?_
      refine mv_sipush (pc := 129) (v := 211) B d_Exprs_goOn_129 (by decide) ?_
      refine mv_icmp_eq (pc := 132) (tgt := 142) B d_Exprs_goOn_132 rfl (fun h132 => ?_) (fun h132 => ?_)
      · skip
        have hk2 : k8 = 211 ∨ k8 = 212 := Or.inl h132
        refine mv_iload_n (pc := 142) B d_Exprs_goOn_142 rfl 3 rfl ?_
        refine mv_bipush (pc := 143) (v := 44) B d_Exprs_goOn_143 (by decide) ?_
        refine mv_icmp_ne (pc := 145) (tgt := 156) B d_Exprs_goOn_145 rfl (fun h145 => ?_) (fun h145 => ?_)
        · skip
          refine mv_lpick [0, 1, 2, 3] rfl ?_
          exact j156
        · skip
          rw [h145] at hk3
          refine mv_aload_n (pc := 148) B d_Exprs_goOn_148 rfl 2 rfl ?_
          refine mv_iload_n (pc := 149) B d_Exprs_goOn_149 rfl 1 rfl ?_
          refine mv_callVv (pc := 150) (n := 1) (ci := 6) (C := R_Exprs) B (mK_ok sk sv) hNs rfl rfl (c_Exprs_widen_c l hi _ _ _ hB0 ht2 hX hI hlen hbs hk3 hk2) rfl (ma_goodc kc_Exprs_widen) (B.2.2.2.1 _ k_1518) (B.2.2.2.1 _ k_1520) (B.2.2.2.1 _ ks_64) (B.2.2.2.1 _ k_7) ⟨by decide +kernel, by decide +kernel, by decide +kernel⟩ rfl d_Exprs_goOn_150 rfl (Nat.le_of_ble_eq_true rfl) ⟨by decide, by decide⟩ ⟨by decide, by decide⟩ ⟨by decide, by decide⟩ (mv_noH hno _) (fun σ150 h150 => ?_)
          refine mv_goto (pc := 153) (tgt := 272) B d_Exprs_goOn_153 rfl ?_
          refine mv_iconst (pc := 272) (v := 1) B d_Exprs_goOn_272 (by decide) ?_
          exact mv_iret (pc := 273) B hr rfl d_Exprs_goOn_273 (Nat.le_refl _) (Nat.le_refl _) ⟨_, rfl, h150.1, h150.2.1, Or.inr rfl, h150.2.2⟩
      · skip
        refine mv_iload_n (pc := 135) B d_Exprs_goOn_135 rfl 1 rfl ?_
        refine mv_sipush (pc := 136) (v := 212) B d_Exprs_goOn_136 (by decide) ?_
        refine mv_icmp_ne (pc := 139) (tgt := 156) B d_Exprs_goOn_139 rfl (fun h139 => ?_) (fun h139 => ?_)
        · skip
          refine mv_lpick [0, 1, 2, 3] rfl ?_
          exact j156
        · skip
          have hk2 : k8 = 211 ∨ k8 = 212 := Or.inr h139
          refine mv_iload_n (pc := 142) B d_Exprs_goOn_142 rfl 3 rfl ?_
          refine mv_bipush (pc := 143) (v := 44) B d_Exprs_goOn_143 (by decide) ?_
          refine mv_icmp_ne (pc := 145) (tgt := 156) B d_Exprs_goOn_145 rfl (fun h145 => ?_) (fun h145 => ?_)
          · skip
            refine mv_lpick [0, 1, 2, 3] rfl ?_
            exact j156
          · skip
            rw [h145] at hk3
            refine mv_aload_n (pc := 148) B d_Exprs_goOn_148 rfl 2 rfl ?_
            refine mv_iload_n (pc := 149) B d_Exprs_goOn_149 rfl 1 rfl ?_
            refine mv_callVv (pc := 150) (n := 1) (ci := 6) (C := R_Exprs) B (mK_ok sk sv) hNs rfl rfl (c_Exprs_widen_c l hi _ _ _ hB0 ht2 hX hI hlen hbs hk3 hk2) rfl (ma_goodc kc_Exprs_widen) (B.2.2.2.1 _ k_1518) (B.2.2.2.1 _ k_1520) (B.2.2.2.1 _ ks_64) (B.2.2.2.1 _ k_7) ⟨by decide +kernel, by decide +kernel, by decide +kernel⟩ rfl d_Exprs_goOn_150 rfl (Nat.le_of_ble_eq_true rfl) ⟨by decide, by decide⟩ ⟨by decide, by decide⟩ ⟨by decide, by decide⟩ (mv_noH hno _) (fun σ150 h150 => ?_)
            refine mv_goto (pc := 153) (tgt := 272) B d_Exprs_goOn_153 rfl ?_
            refine mv_iconst (pc := 272) (v := 1) B d_Exprs_goOn_272 (by decide) ?_
            exact mv_iret (pc := 273) B hr rfl d_Exprs_goOn_273 (Nat.le_refl _) (Nat.le_refl _) ⟨_, rfl, h150.1, h150.2.1, Or.inr rfl, h150.2.2⟩
    have j93 : mv_V p l e ({ frames := 4, cells := 0, slots := 0, locals := 89 }) s m ([.ref (al 22), .int k9] : List Value).toArray below meth c (mg dA D al me) 4 0 0 (mv_Q (mg dA D al me) below s 0 0 (mv_Ri (fun v σ1 => RF 145 σ σ1 ∧ Mt (mv_a σ1 24) ∧ (v = 0 ∨ v = 1) ∧ (0 ≤ (mv_i σ1 3 9).toInt ∨ ∃ ms2 s2 a2, a < a2 ∧ XM 145 th e0 bs BL f0 g0 ns σ1 (ms2) (sm wt ms2 + v.toNatClampNeg) (sm wr ms2 + v.toNatClampNeg) (s2) ∧ TI σ1 sz bd ms2 s2 a2)))) σ 93 [(3, .int fl), (2, .int k8), (0, .ref (al 22)), (1, .int k9)] [] := by
      refine mv_iload_n (pc := 93) B d_Exprs_goOn_93 rfl 1 rfl ?_
      refine mv_bipush (pc := 94) (v := 40) B d_Exprs_goOn_94 (by decide) ?_
      refine mv_icmp_ne (pc := 96) (tgt := 128) B d_Exprs_goOn_96 rfl (fun h96 => ?_) (fun h96 => ?_)
      · skip
        refine mv_lpick [0, 1, 2, 3] rfl ?_
        exact j128
      · skip
        refine mv_iload_n (pc := 99) B d_Exprs_goOn_99 rfl 3 rfl ?_
        refine mv_bipush (pc := 100) (v := 41) B d_Exprs_goOn_100 (by decide) ?_
        refine mv_icmp_ne (pc := 102) (tgt := 128) B d_Exprs_goOn_102 rfl (fun h102 => ?_) (fun h102 => ?_)
        · skip
          refine mv_lpick [0, 1, 2, 3] rfl ?_
          exact j128
        · skip
          rw [h102] at hk3
          subst h96
          have x1 : wt (40, w8) = 0 := rfl
          have x2 : wr (40, w8) = 0 := rfl
          have x3 : wd (40, w8) = 1 := rfl
          have x4 : wc (40, w8) = 0 := rfl
          rw [g1, g2, x1, x2, Nat.zero_add, Nat.zero_add] at hX
          refine mv_aload_n (pc := 105) B d_Exprs_goOn_105 rfl 2 rfl ?_
          refine mv_getR (pc := 106) (ci := 6) (C := R_Exprs) (T := F_Exprs) (N := 11) B 0 rfl rfl (by decide) i_Exprs (B.2.2.2.1 _ k_193) rfl (hR.1 _ 0 _ rfl) d_Exprs_goOn_106 ?_
          refine mv_bipush (pc := 109) (v := 41) B d_Exprs_goOn_109 (by decide) ?_
          refine mv_callVi (pc := 111) (n := 1) (ci := 2) (C := R_Tokens) B (mK_ok sk sv) hNs rfl rfl (c_Tokens_closeN l hi _ _ hR.1 (hB0.rf hF hP ht2).2.1 (by omega) (by omega) (by decide)) rfl (ma_goodc kc_Tokens_close) (B.2.2.2.1 _ k_1468) (B.2.2.2.1 _ k_1397) (B.2.2.2.1 _ k_1398) (B.2.2.2.1 _ k_3) ⟨by decide +kernel, by decide +kernel, by decide +kernel⟩ rfl d_Exprs_goOn_111 rfl (Nat.le_of_ble_eq_true rfl) ⟨by decide, by decide⟩ ⟨by decide, by decide⟩ ⟨by decide, by decide⟩ (mv_noH hno _) (fun v111 σ111 h111 => ?_)
          obtain ⟨a111, w111, e111, r111⟩ := h111
          have q111 := r111.1
          have z111 := fun q => (r111.2.1 q).1
          have y111 := And.intro r111.2.2.2.1 r111.2.2.2.2.1
          subst e111
          have hw6 := r111.2.2.1 hw9 hk3 trivial
          refine mv_gen (fun S114 eS114 => ?_)
          have hR : Rw 145 (mv_r S114) := by rw [eS114]; exact hR
          have hF : RF 145 σ S114 := by rw [eS114]; exact hF.tk3 _ _ _
          have hX : XM 145 th e0 bs BL f0 g0 ns S114 (((40, w8) : Mk) :: ms) (sm wt ms + 1) (sm wr ms + 1) (s0) := by rw [eS114]; exact hX.tk3 hP _ _ _
          have t7 : (mv_i S114 3 7).toInt = a111.toInt := by rw [eS114]; rfl
          have t8 : (mv_i S114 3 8).toInt = (mv_i σ 3 8).toInt - 1 := by rw [eS114]; first | exact t8 | exact (sub_one (by omega)).trans (by omega) | exact (i32_inc (by omega)).trans (by omega)
          have t9 : (mv_i S114 3 9).toInt = w111.toInt := by rw [eS114]; rfl
          have kS114 : mv_a S114 4 = mv_a σ 4 := by rw [eS114]; first | rfl | exact kp
          have kp := kS114
          clear eS114
          refine mv_pop (pc := 114) B d_Exprs_goOn_114 rfl ?_
          refine mv_aload_n (pc := 115) B d_Exprs_goOn_115 rfl 2 rfl ?_
          refine mv_dup (pc := 116) B d_Exprs_goOn_116 rfl ?_
          refine mv_getI (pc := 117) (ci := 6) (C := R_Exprs) (T := F_Exprs) (N := 11) B 8 rfl rfl (by decide) i_Exprs (B.2.2.2.1 _ k_202) rfl d_Exprs_goOn_117 ?_
          refine mv_iconst (pc := 120) (v := 1) B d_Exprs_goOn_120 (by decide) ?_
          refine mv_isub (pc := 121) B d_Exprs_goOn_121 ?_
          refine mv_putI (pc := 122) (ci := 6) (C := R_Exprs) (T := F_Exprs) (N := 11) B 8 rfl rfl (by decide) i_Exprs t_Exprs_ok n_Exprs (B.2.2.2.1 _ k_202) rfl rfl rfl rfl d_Exprs_goOn_122 ?_
          refine mv_gen (fun S125 eS125 => ?_)
          have hR : Rw 145 (mv_r S125) := by rw [eS125]; exact hR
          have hF : RF 145 σ S125 := by rw [eS125]; exact hF.pop
          have hX : XM 145 th e0 bs BL f0 g0 ns S125 (ms) (sm wt ms + 1) (sm wr ms + 1) (s0) := by rw [eS125]; exact hX.pop hP ⟨show ¬ (40 : Int32) = 63 by decide, show ¬ (40 : Int32) = 58 by decide⟩
          have t7 := Eq.trans (congrArg Int32.toInt (show mv_i S125 3 7 = mv_i _ 3 7 by rw [eS125]; rfl)) t7
          have t8 := Eq.trans (congrArg Int32.toInt (show mv_i S125 3 8 = mv_i _ 3 8 by rw [eS125]; rfl)) t8
          have t9 := Eq.trans (congrArg Int32.toInt (show mv_i S125 3 9 = mv_i _ 3 9 by rw [eS125]; rfl)) t9
          have kp := Eq.trans (show mv_a S125 4 = mv_a _ 4 by rw [eS125]; rfl) kp
          clear eS125
          refine mv_goto (pc := 125) (tgt := 272) B d_Exprs_goOn_125 rfl ?_
          refine mv_iconst (pc := 272) (v := 1) B d_Exprs_goOn_272 (by decide) ?_
          exact mv_iret (pc := 273) B hr rfl d_Exprs_goOn_273 (Nat.le_refl _) (Nat.le_refl _) ⟨_, rfl, hF, hX.1.2.2.2.1, Or.inr rfl, Or.inr ⟨ms, s0, a + 1, by omega, hX, by omega, by omega, by omega, by omega, by omega, by omega, hWm.tail.up (by omega)⟩⟩
    have j74 : mv_V p l e ({ frames := 4, cells := 0, slots := 0, locals := 89 }) s m ([.ref (al 22), .int k9] : List Value).toArray below meth c (mg dA D al me) 4 0 0 (mv_Q (mg dA D al me) below s 0 0 (mv_Ri (fun v σ1 => RF 145 σ σ1 ∧ Mt (mv_a σ1 24) ∧ (v = 0 ∨ v = 1) ∧ (0 ≤ (mv_i σ1 3 9).toInt ∨ ∃ ms2 s2 a2, a < a2 ∧ XM 145 th e0 bs BL f0 g0 ns σ1 (ms2) (sm wt ms2 + v.toNatClampNeg) (sm wr ms2 + v.toNatClampNeg) (s2) ∧ TI σ1 sz bd ms2 s2 a2)))) σ 74 [(3, .int fl), (2, .int k8), (0, .ref (al 22)), (1, .int k9)] [] := by
      refine mv_iload_n (pc := 74) B d_Exprs_goOn_74 rfl 1 rfl ?_
      refine mv_bipush (pc := 75) (v := 91) B d_Exprs_goOn_75 (by decide) ?_
      refine mv_icmp_ne (pc := 77) (tgt := 93) B d_Exprs_goOn_77 rfl (fun h77 => ?_) (fun h77 => ?_)
      · skip
        refine mv_lpick [0, 1, 2, 3] rfl ?_
        exact j93
      · skip
        refine mv_iload_n (pc := 80) B d_Exprs_goOn_80 rfl 3 rfl ?_
        refine mv_bipush (pc := 81) (v := 93) B d_Exprs_goOn_81 (by decide) ?_
        refine mv_icmp_ne (pc := 83) (tgt := 93) B d_Exprs_goOn_83 rfl (fun h83 => ?_) (fun h83 => ?_)
        · skip
          refine mv_lpick [0, 1, 2, 3] rfl ?_
          exact j93
        · skip
          rw [h83] at hk3
          subst h77
          refine mv_aload_n (pc := 86) B d_Exprs_goOn_86 rfl 2 rfl ?_
          refine mv_callVv (pc := 87) (n := 0) (ci := 6) (C := R_Exprs) B (mK_ok sk sv) hNs rfl rfl (c_Exprs_cell_c l hi _ _ hB0 ht2 hX hI hlen hbs hk3) rfl (ma_goodc kc_Exprs_cell) (B.2.2.2.1 _ k_1514) (B.2.2.2.1 _ k_1516) (B.2.2.2.1 _ ks_63) (B.2.2.2.1 _ k_7) ⟨by decide +kernel, by decide +kernel, by decide +kernel⟩ rfl d_Exprs_goOn_87 rfl (Nat.le_of_ble_eq_true rfl) ⟨by decide, by decide⟩ ⟨by decide, by decide⟩ ⟨by decide, by decide⟩ (mv_noH hno _) (fun σ87 h87 => ?_)
          refine mv_goto (pc := 90) (tgt := 272) B d_Exprs_goOn_90 rfl ?_
          refine mv_iconst (pc := 272) (v := 1) B d_Exprs_goOn_272 (by decide) ?_
          exact mv_iret (pc := 273) B hr rfl d_Exprs_goOn_273 (Nat.le_refl _) (Nat.le_refl _) ⟨_, rfl, h87.1, h87.2.1, Or.inr rfl, h87.2.2⟩
    have j50 : mv_V p l e ({ frames := 4, cells := 0, slots := 0, locals := 89 }) s m ([.ref (al 22), .int k9] : List Value).toArray below meth c (mg dA D al me) 4 0 0 (mv_Q (mg dA D al me) below s 0 0 (mv_Ri (fun v σ1 => RF 145 σ σ1 ∧ Mt (mv_a σ1 24) ∧ (v = 0 ∨ v = 1) ∧ (0 ≤ (mv_i σ1 3 9).toInt ∨ ∃ ms2 s2 a2, a < a2 ∧ XM 145 th e0 bs BL f0 g0 ns σ1 (ms2) (sm wt ms2 + v.toNatClampNeg) (sm wr ms2 + v.toNatClampNeg) (s2) ∧ TI σ1 sz bd ms2 s2 a2)))) σ 50 [(3, .int fl), (2, .int k8), (0, .ref (al 22)), (1, .int k9)] [] := by
      refine mv_iload_n (pc := 50) B d_Exprs_goOn_50 rfl 1 rfl ?_
      refine mv_bipush (pc := 51) (v := 123) B d_Exprs_goOn_51 (by decide) ?_
      refine mv_icmp_ne (pc := 53) (tgt := 74) B d_Exprs_goOn_53 rfl (fun h53 => ?_) (fun h53 => ?_)
      · skip
        refine mv_lpick [0, 1, 2, 3] rfl ?_
        exact j74
      · skip
        refine mv_iload_n (pc := 56) B d_Exprs_goOn_56 rfl 3 rfl ?_
        refine mv_bipush (pc := 57) (v := 44) B d_Exprs_goOn_57 (by decide) ?_
        refine mv_icmp_eq (pc := 59) (tgt := 68) B d_Exprs_goOn_59 rfl (fun h59 => ?_) (fun h59 => ?_)
        · skip
          subst h53
          have hkd : k9 = 44 ∨ k9 = 125 := Or.inl h59
          refine mv_aload_n (pc := 68) B d_Exprs_goOn_68 rfl 2 rfl ?_
          refine mv_iload_n (pc := 69) B d_Exprs_goOn_69 rfl 3 rfl ?_
          refine mv_callVi (pc := 70) (n := 1) (ci := 6) (C := R_Exprs) B (mK_ok sk sv) hNs rfl rfl (c_Exprs_join_c l hi _ _ _ hB0 ht2 hX hI hlen hbs hk3 hkd) rfl (ma_goodc kc_Exprs_join) (B.2.2.2.1 _ k_1510) (B.2.2.2.1 _ k_1512) (B.2.2.2.1 _ ks_62) (B.2.2.2.1 _ k_7) ⟨by decide +kernel, by decide +kernel, by decide +kernel⟩ rfl d_Exprs_goOn_70 rfl (Nat.le_of_ble_eq_true rfl) ⟨by decide, by decide⟩ ⟨by decide, by decide⟩ ⟨by decide, by decide⟩ (mv_noH hno _) (fun v70 σ70 h70 => ?_)
          exact mv_iret (pc := 73) B hr rfl d_Exprs_goOn_73 (Nat.le_refl _) (Nat.le_refl _) ⟨_, rfl, h70⟩
        · skip
          refine mv_iload_n (pc := 62) B d_Exprs_goOn_62 rfl 3 rfl ?_
          refine mv_bipush (pc := 63) (v := 125) B d_Exprs_goOn_63 (by decide) ?_
          refine mv_icmp_ne (pc := 65) (tgt := 74) B d_Exprs_goOn_65 rfl (fun h65 => ?_) (fun h65 => ?_)
          · skip
            refine mv_lpick [0, 1, 2, 3] rfl ?_
            exact j74
          · skip
            subst h53
            have hkd : k9 = 44 ∨ k9 = 125 := Or.inr h65
            refine mv_aload_n (pc := 68) B d_Exprs_goOn_68 rfl 2 rfl ?_
            refine mv_iload_n (pc := 69) B d_Exprs_goOn_69 rfl 3 rfl ?_
            refine mv_callVi (pc := 70) (n := 1) (ci := 6) (C := R_Exprs) B (mK_ok sk sv) hNs rfl rfl (c_Exprs_join_c l hi _ _ _ hB0 ht2 hX hI hlen hbs hk3 hkd) rfl (ma_goodc kc_Exprs_join) (B.2.2.2.1 _ k_1510) (B.2.2.2.1 _ k_1512) (B.2.2.2.1 _ ks_62) (B.2.2.2.1 _ k_7) ⟨by decide +kernel, by decide +kernel, by decide +kernel⟩ rfl d_Exprs_goOn_70 rfl (Nat.le_of_ble_eq_true rfl) ⟨by decide, by decide⟩ ⟨by decide, by decide⟩ ⟨by decide, by decide⟩ (mv_noH hno _) (fun v70 σ70 h70 => ?_)
            exact mv_iret (pc := 73) B hr rfl d_Exprs_goOn_73 (Nat.le_refl _) (Nat.le_refl _) ⟨_, rfl, h70⟩
    refine mv_iload_n (pc := 32) B d_Exprs_goOn_32 rfl 1 rfl ?_
    refine mv_bipush (pc := 33) (v := 63) B d_Exprs_goOn_33 (by decide) ?_
    refine mv_icmp_ne (pc := 35) (tgt := 50) B d_Exprs_goOn_35 rfl (fun h35 => ?_) (fun h35 => ?_)
    · skip
      refine mv_lpick [0, 1, 2, 3] rfl ?_
      exact j50
    · skip
      refine mv_iload_n (pc := 38) B d_Exprs_goOn_38 rfl 3 rfl ?_
      refine mv_bipush (pc := 39) (v := 58) B d_Exprs_goOn_39 (by decide) ?_
      refine mv_icmp_ne (pc := 41) (tgt := 50) B d_Exprs_goOn_41 rfl (fun h41 => ?_) (fun h41 => ?_)
      · skip
        refine mv_lpick [0, 1, 2, 3] rfl ?_
        exact j50
      · skip
        rw [h41] at hk3
        subst h35
        refine mv_aload_n (pc := 44) B d_Exprs_goOn_44 rfl 2 rfl ?_
        refine mv_callVv (pc := 45) (n := 0) (ci := 6) (C := R_Exprs) B (mK_ok sk sv) hNs rfl rfl (c_Exprs_otherwise_c l hi _ _ hB0 ht2 hX hI hlen hbs hk3) rfl (ma_goodc kc_Exprs_otherwise) (B.2.2.2.1 _ k_1506) (B.2.2.2.1 _ k_1508) (B.2.2.2.1 _ ks_61) (B.2.2.2.1 _ k_7) ⟨by decide +kernel, by decide +kernel, by decide +kernel⟩ rfl d_Exprs_goOn_45 rfl (Nat.le_of_ble_eq_true rfl) ⟨by decide, by decide⟩ ⟨by decide, by decide⟩ ⟨by decide, by decide⟩ (mv_noH hno _) (fun σ45 h45 => ?_)
        refine mv_iconst (pc := 48) (v := 0) B d_Exprs_goOn_48 (by decide) ?_
        exact mv_iret (pc := 49) B hr rfl d_Exprs_goOn_49 (Nat.le_refl _) (Nat.le_refl _) ⟨_, rfl, h45.1, h45.2.1, Or.inl rfl, h45.2.2⟩
  refine mv_aload_n (pc := 0) B d_Exprs_goOn_0 rfl 0 rfl ?_
  refine mv_getR (pc := 1) (ci := 6) (C := R_Exprs) (T := F_Exprs) (N := 11) B 4 rfl rfl (by decide) i_Exprs (B.2.2.2.1 _ k_198) rfl (hR.1 _ 4 _ rfl) d_Exprs_goOn_1 ?_
  refine mv_aload_n (pc := 4) B d_Exprs_goOn_4 rfl 0 rfl ?_
  refine mv_getI (pc := 5) (ci := 6) (C := R_Exprs) (T := F_Exprs) (N := 11) B 8 rfl rfl (by decide) i_Exprs (B.2.2.2.1 _ k_202) rfl d_Exprs_goOn_5 ?_
  refine mv_iconst (pc := 8) (v := 1) B d_Exprs_goOn_8 (by decide) ?_
  refine mv_isub (pc := 9) B d_Exprs_goOn_9 ?_
  refine mv_iald (pc := 10) B rfl (i32_in (by omega) (by omega)) d_Exprs_goOn_10 ?_
  rw [p3]
  refine mv_istore_n (pc := 11) B d_Exprs_goOn_11 rfl (by decide) rfl ?_
  refine mv_aload_n (pc := 12) B d_Exprs_goOn_12 rfl 1 rfl ?_
  refine mv_getR (pc := 13) (ci := 6) (C := R_Exprs) (T := F_Exprs) (N := 11) B 6 rfl rfl (by decide) i_Exprs (B.2.2.2.1 _ k_200) rfl (hR.1 _ 6 _ rfl) d_Exprs_goOn_13 ?_
  refine mv_aload_n (pc := 16) B d_Exprs_goOn_16 rfl 1 rfl ?_
  refine mv_getI (pc := 17) (ci := 6) (C := R_Exprs) (T := F_Exprs) (N := 11) B 8 rfl rfl (by decide) i_Exprs (B.2.2.2.1 _ k_202) rfl d_Exprs_goOn_17 ?_
  refine mv_iconst (pc := 20) (v := 1) B d_Exprs_goOn_20 (by decide) ?_
  refine mv_isub (pc := 21) B d_Exprs_goOn_21 ?_
  refine mv_iald (pc := 22) B rfl (i32_in (by omega) (by omega)) d_Exprs_goOn_22 ?_
  rw [p4]
  refine mv_if_ne (pc := 23) (tgt := 30) B d_Exprs_goOn_23 rfl (fun h23 => ?_) (fun h23 => ?_)
  · skip
    have hfl : ((0 : Int32) = 1 ∧ w8 = 0) ∨ ((0 : Int32) = 0 ∧ ¬ w8 = 0) := Or.inr ⟨rfl, h23⟩
    refine mv_iconst (pc := 30) (v := 0) B d_Exprs_goOn_30 (by decide) ?_
    refine mv_istore_n (pc := 31) B d_Exprs_goOn_31 rfl (by decide) rfl ?_
    refine mv_lpick [0, 1, 2, 3] rfl ?_
    exact j32 _ hfl
  · skip
    have hfl : ((1 : Int32) = 1 ∧ w8 = 0) ∨ ((1 : Int32) = 0 ∧ ¬ w8 = 0) := Or.inl ⟨rfl, h23⟩
    refine mv_iconst (pc := 26) (v := 1) B d_Exprs_goOn_26 (by decide) ?_
    refine mv_goto (pc := 27) (tgt := 31) B d_Exprs_goOn_27 rfl ?_
    refine mv_istore_n (pc := 31) B d_Exprs_goOn_31 rfl (by decide) rfl ?_
    refine mv_lpick [0, 1, 2, 3] rfl ?_
    exact j32 _ hfl
