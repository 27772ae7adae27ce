/-! Exprs: otherwise, join, cell, widen -/
theorem Op1_join (th : Nat) (w : Int64) (x : Nat) : Op1 th 309 w (x + 2) (x + 1) := ⟨by show 2 ≤ x + 2; omega, by show x + 1 + 2 = x + 2 + 1; omega, fun q => absurd q (by decide), fun q => absurd q (by decide), fun q => absurd q (by decide)⟩
theorem Op1_cell (th : Nat) {w : Int64} (hw : 0 ≤ w.toInt ∧ w.toInt < th) (x : Nat) : Op1 th 304 w (x + 1) (x + 1) := ⟨by show 1 ≤ x + 1; omega, rfl, fun q => absurd q (by decide), fun q => absurd q (by decide), fun _ => hw⟩
def y_Exprs_otherwise : MethodName := ⟨"MachineLoom$Exprs", "otherwise", "()V"⟩
abbrev b_Exprs_otherwise : ByteArray := prog_3_method_18_code
theorem kc_Exprs_otherwise : Cond.code y_Exprs_otherwise b_Exprs_otherwise 2 (Option.none : Option Jvm.ClassFile.FieldType) ∈ ma := ma_of (tb_7 _ (List.mem_of_getElem? (i := 69) rfl)) rfl
theorem d_Exprs_otherwise_0 : decode b_Exprs_otherwise 0 = .ok (.aload_n 0, 1) := by decide +kernel
theorem d_Exprs_otherwise_1 : decode b_Exprs_otherwise 1 = .ok (.getfield 27, 3) := by decide +kernel
theorem d_Exprs_otherwise_4 : decode b_Exprs_otherwise 4 = .ok (.bipush 58, 2) := by decide +kernel
theorem d_Exprs_otherwise_6 : decode b_Exprs_otherwise 6 = .ok (.invokevirtual 82, 3) := by decide +kernel
theorem d_Exprs_otherwise_9 : decode b_Exprs_otherwise 9 = .ok (.pop, 1) := by decide +kernel
theorem d_Exprs_otherwise_10 : decode b_Exprs_otherwise 10 = .ok (.aload_n 0, 1) := by decide +kernel
theorem d_Exprs_otherwise_11 : decode b_Exprs_otherwise 11 = .ok (.getfield 18, 3) := by decide +kernel
theorem d_Exprs_otherwise_14 : decode b_Exprs_otherwise 14 = .ok (.aload_n 0, 1) := by decide +kernel
theorem d_Exprs_otherwise_15 : decode b_Exprs_otherwise 15 = .ok (.getfield 39, 3) := by decide +kernel
theorem d_Exprs_otherwise_18 : decode b_Exprs_otherwise 18 = .ok (.iconst 1, 1) := by decide +kernel
theorem d_Exprs_otherwise_19 : decode b_Exprs_otherwise 19 = .ok (.isub, 1) := by decide +kernel
theorem d_Exprs_otherwise_20 : decode b_Exprs_otherwise 20 = .ok (.iaload, 1) := by decide +kernel
theorem d_Exprs_otherwise_21 : decode b_Exprs_otherwise 21 = .ok (.istore_n 1, 1) := by decide +kernel
theorem d_Exprs_otherwise_22 : decode b_Exprs_otherwise 22 = .ok (.aload_n 0, 1) := by decide +kernel
theorem d_Exprs_otherwise_23 : decode b_Exprs_otherwise 23 = .ok (.getfield 9, 3) := by decide +kernel
theorem d_Exprs_otherwise_26 : decode b_Exprs_otherwise 26 = .ok (.aload_n 0, 1) := by decide +kernel
theorem d_Exprs_otherwise_27 : decode b_Exprs_otherwise 27 = .ok (.getfield 39, 3) := by decide +kernel
theorem d_Exprs_otherwise_30 : decode b_Exprs_otherwise 30 = .ok (.iconst 1, 1) := by decide +kernel
theorem d_Exprs_otherwise_31 : decode b_Exprs_otherwise 31 = .ok (.isub, 1) := by decide +kernel
theorem d_Exprs_otherwise_32 : decode b_Exprs_otherwise 32 = .ok (.bipush 58, 2) := by decide +kernel
theorem d_Exprs_otherwise_34 : decode b_Exprs_otherwise 34 = .ok (.iastore, 1) := by decide +kernel
theorem d_Exprs_otherwise_35 : decode b_Exprs_otherwise 35 = .ok (.aload_n 0, 1) := by decide +kernel
theorem d_Exprs_otherwise_36 : decode b_Exprs_otherwise 36 = .ok (.getfield 18, 3) := by decide +kernel
theorem d_Exprs_otherwise_39 : decode b_Exprs_otherwise 39 = .ok (.aload_n 0, 1) := by decide +kernel
theorem d_Exprs_otherwise_40 : decode b_Exprs_otherwise 40 = .ok (.getfield 39, 3) := by decide +kernel
theorem d_Exprs_otherwise_43 : decode b_Exprs_otherwise 43 = .ok (.iconst 1, 1) := by decide +kernel
theorem d_Exprs_otherwise_44 : decode b_Exprs_otherwise 44 = .ok (.isub, 1) := by decide +kernel
theorem d_Exprs_otherwise_45 : decode b_Exprs_otherwise 45 = .ok (.aload_n 0, 1) := by decide +kernel
theorem d_Exprs_otherwise_46 : decode b_Exprs_otherwise 46 = .ok (.getfield 89, 3) := by decide +kernel
theorem d_Exprs_otherwise_49 : decode b_Exprs_otherwise 49 = .ok (.sipush 311, 3) := by decide +kernel
theorem d_Exprs_otherwise_52 : decode b_Exprs_otherwise 52 = .ok (.lconst 0, 1) := by decide +kernel
theorem d_Exprs_otherwise_53 : decode b_Exprs_otherwise 53 = .ok (.invokevirtual 93, 3) := by decide +kernel
theorem d_Exprs_otherwise_56 : decode b_Exprs_otherwise 56 = .ok (.iastore, 1) := by decide +kernel
theorem d_Exprs_otherwise_57 : decode b_Exprs_otherwise 57 = .ok (.aload_n 0, 1) := by decide +kernel
theorem d_Exprs_otherwise_58 : decode b_Exprs_otherwise 58 = .ok (.getfield 89, 3) := by decide +kernel
theorem d_Exprs_otherwise_61 : decode b_Exprs_otherwise 61 = .ok (.iload_n 1, 1) := by decide +kernel
theorem d_Exprs_otherwise_62 : decode b_Exprs_otherwise 62 = .ok (.invokevirtual 179, 3) := by decide +kernel
theorem d_Exprs_otherwise_65 : decode b_Exprs_otherwise 65 = .ok (.return_, 1) := by decide +kernel
set_option maxHeartbeats 4000000 in
set_option maxRecDepth 100000 in
theorem c_Exprs_otherwise_a (l : Launch) {dA : FieldType → ClassId} {D : va_G} {al : Nat → Nat} {ext : mv_Sh} {sk sv : Nat → Nat} (hi : mv_inj (mg dA D al ext)) (σ : mv_H) (w8 : Int32) {t len n z sz th sl e0 bs ns : Nat} {BL : (Nat → Nat) → Prop} {f0 : Nat → Int32} {g0 : Nat → Int64} {ms : List Mk} {s0 bd a : Nat} (hB0 : SB 32 σ t len n z sz th sl) (ht2 : t = 1 ∨ t = 144) (hX : XM 32 th e0 bs BL f0 g0 ns σ (((63, w8) : Mk) :: ms) (sm wt (((63, w8) : Mk) :: ms) + 1) (sm wr (((63, w8) : Mk) :: ms) + 1) (s0)) (hI : TI σ sz bd (((63, w8) : Mk) :: ms) s0 a) (hlen : len ≤ 32768) (hbs : bs ≤ 1) (hk3 : mv_a σ 4 (mv_i σ 3 7).toNatClampNeg = 58) : mv_C l y_Exprs_otherwise (Cond.code y_Exprs_otherwise b_Exprs_otherwise 2 (Option.none : Option Jvm.ClassFile.FieldType) :: ma) ({ frames := 2, cells := 0, slots := 0, locals := 42 }) (mg dA D al ext) (mK sk sv) [.ref (al 22)] σ (mv_Rv (fun σ1 => RF 32 σ σ1 ∧ Mt (mv_a σ1 24) ∧ (0 ≤ (mv_i σ1 3 9).toInt ∨ ∃ ms2 s2 a2, a < a2 ∧ XM 32 th e0 bs BL f0 g0 ns σ1 (ms2) (sm wt ms2 + 0) (sm wr ms2 + 0) (s2) ∧ TI σ1 sz bd ms2 s2 a2))) := by
  refine mv_C.ofV (cc := b_Exprs_otherwise) (nL := 2) (ret := (Option.none : Option Jvm.ClassFile.FieldType)) (by decide +kernel) rfl hi (Nat.le_of_ble_eq_true rfl) ?_
  intro p e s m below meth c B hNs hr hnm hno
  have hP : PQ 32 := by unfold PQ; omega
  have hR := hB0.1
  have hF : RF 32 σ σ := RF0
  have hT : mv_i σ 3 = mv_i σ 3 := rfl
  have hsz := hB0.2.1.2.2.2.2.2
  have hsz2 := hB0.2.1.2.2.2.1
  have hI5 := hI.2.2.2.2.1
  have ha9 := hI.2.2.2.2.2.1
  have pl := hI.len hX
  have hm8 := hX.1.1
  have t7 := hI.1
  have hw9 := hI.2.1
  have t9 : (mv_i σ 3 9).toInt = (mv_i σ 3 9).toInt := rfl
  have hd8 := hI.2.2.1
  have hd9 := hI.2.2.2.1
  have hWm := hI.2.2.2.2.2.2
  have kp : mv_a σ 4 = mv_a σ 4 := rfl
  have t8 : (mv_i σ 3 8).toInt = (mv_i σ 3 8).toInt := rfl
  have g1 : sm wt (((63, w8) : Mk) :: ms) = wt (63, w8) + sm wt ms := rfl
  have g2 : sm wr (((63, w8) : Mk) :: ms) = wr (63, w8) + sm wr ms := rfl
  have g3 : sm wd (((63, w8) : Mk) :: ms) = wd (63, w8) + sm wd ms := rfl
  have g4 : sm wc (((63, w8) : Mk) :: ms) = wc (63, w8) + sm wc ms := rfl
  have g5 : wt (63, w8) = 0 := rfl
  have g6 : wr (63, w8) = 0 := rfl
  have g7 : wd (63, w8) = 1 := rfl
  have g8 : wc (63, w8) = 0 := rfl
  rw [g1, g2, g5, g6, Nat.zero_add, Nat.zero_add] at hX
  have gl : ((((63, w8)) : Mk) :: ms).length = ms.length + 1 := rfl
  refine mv_aload_n (pc := 0) B d_Exprs_otherwise_0 rfl 0 rfl ?_
  refine mv_getR (pc := 1) (ci := 6) (C := R_Exprs) (T := F_Exprs) (N := 11) B 0 rfl rfl (by decide) i_Exprs (B.2.2.2.1 _ k_193) rfl (hR.1 _ 0 _ rfl) d_Exprs_otherwise_1 ?_
  refine mv_bipush (pc := 4) (v := 58) B d_Exprs_otherwise_4 (by decide) ?_
  refine mv_callVi (pc := 6) (n := 1) (ci := 2) (C := R_Tokens) B (mK_ok sk sv) hNs rfl rfl (c_Tokens_takeN l hi _ _ hR.1 (hB0.rf hF hP ht2).2.1 (by omega) (by omega) (by decide)) rfl (ma_goodc kc_Tokens_take) (B.2.2.2.1 _ k_1424) (B.2.2.2.1 _ k_1267) (B.2.2.2.1 _ k_1268) (B.2.2.2.1 _ k_3) ⟨by decide +kernel, by decide +kernel, by decide +kernel⟩ rfl d_Exprs_otherwise_6 rfl (Nat.le_of_ble_eq_true rfl) ⟨by decide, by decide⟩ ⟨by decide, by decide⟩ ⟨by decide, by decide⟩ (mv_noH hno _) (fun v6 σ6 h6 => ?_)
  obtain ⟨a6, w6, e6, r6⟩ := h6
  have q6 := r6.1
  have z6 := fun q => (r6.2.1 q).1
  have y6 := And.intro r6.2.2.2.1 r6.2.2.2.2.1
  subst e6
  have hw6 := r6.2.2.1 hw9 hk3 trivial
  refine mv_gen (fun S9 eS9 => ?_)
  have hR : Rw 32 (mv_r S9) := by rw [eS9]; exact hR
  have hF : RF 32 σ S9 := by rw [eS9]; exact hF.tk3 _ _ _
  have hX : XM 32 th e0 bs BL f0 g0 ns S9 (((63, w8) : Mk) :: ms) (sm wt ms + 1) (sm wr ms + 1) (s0) := by rw [eS9]; exact hX.tk3 hP _ _ _
  have t7 : (mv_i S9 3 7).toInt = a6.toInt := by rw [eS9]; rfl
  have t8 : (mv_i S9 3 8).toInt = (mv_i σ 3 8).toInt := by rw [eS9]; first | exact t8 | exact (sub_one (by omega)).trans (by omega) | exact (i32_inc (by omega)).trans (by omega)
  have t9 : (mv_i S9 3 9).toInt = w6.toInt := by rw [eS9]; rfl
  have kS9 : mv_a S9 4 = mv_a σ 4 := by rw [eS9]; first | rfl | exact kp
  have kp := kS9
  obtain ⟨p1, p2, p3, p4⟩ := hX.top
  have m8 := hX.2.1.1
  obtain ⟨u8, v1, v2, v3⟩ := hX.1.2.2.2.2.2.head.1 (Or.inl rfl)
  have v1 : w8.toInt = u8 := v1
  clear eS9
  refine mv_pop (pc := 9) B d_Exprs_otherwise_9 rfl ?_
  refine mv_aload_n (pc := 10) B d_Exprs_otherwise_10 rfl 0 rfl ?_
  refine mv_getR (pc := 11) (ci := 6) (C := R_Exprs) (T := F_Exprs) (N := 11) B 6 rfl rfl (by decide) i_Exprs (B.2.2.2.1 _ k_200) rfl (hR.1 _ 6 _ rfl) d_Exprs_otherwise_11 ?_
  refine mv_aload_n (pc := 14) B d_Exprs_otherwise_14 rfl 0 rfl ?_
  refine mv_getI (pc := 15) (ci := 6) (C := R_Exprs) (T := F_Exprs) (N := 11) B 8 rfl rfl (by decide) i_Exprs (B.2.2.2.1 _ k_202) rfl d_Exprs_otherwise_15 ?_
  refine mv_iconst (pc := 18) (v := 1) B d_Exprs_otherwise_18 (by decide) ?_
  refine mv_isub (pc := 19) B d_Exprs_otherwise_19 ?_
  refine mv_iald (pc := 20) B rfl (i32_in (show 0 ≤ (mv_i S9 22 8 - 1).toInt by omega) (show (mv_i S9 22 8 - 1).toInt < 1024 by omega)) d_Exprs_otherwise_20 ?_
  rw [p4]
  refine mv_istore_n (pc := 21) B d_Exprs_otherwise_21 rfl (by decide) rfl ?_
  refine mv_aload_n (pc := 22) B d_Exprs_otherwise_22 rfl 1 rfl ?_
  refine mv_getR (pc := 23) (ci := 6) (C := R_Exprs) (T := F_Exprs) (N := 11) B 4 rfl rfl (by decide) i_Exprs (B.2.2.2.1 _ k_198) rfl (hR.1 _ 4 _ rfl) d_Exprs_otherwise_23 ?_
  refine mv_aload_n (pc := 26) B d_Exprs_otherwise_26 rfl 1 rfl ?_
  refine mv_getI (pc := 27) (ci := 6) (C := R_Exprs) (T := F_Exprs) (N := 11) B 8 rfl rfl (by decide) i_Exprs (B.2.2.2.1 _ k_202) rfl d_Exprs_otherwise_27 ?_
  refine mv_iconst (pc := 30) (v := 1) B d_Exprs_otherwise_30 (by decide) ?_
  refine mv_isub (pc := 31) B d_Exprs_otherwise_31 ?_
  refine mv_bipush (pc := 32) (v := 58) B d_Exprs_otherwise_32 (by decide) ?_
  refine mv_iast (pc := 34) B rfl (i32_in (show 0 ≤ (mv_i S9 22 8 - 1).toInt by omega) (show (mv_i S9 22 8 - 1).toInt < 1024 by omega)) d_Exprs_otherwise_34 ?_
  refine mv_aload_n (pc := 35) B d_Exprs_otherwise_35 rfl 1 rfl ?_
  refine mv_getR (pc := 36) (ci := 6) (C := R_Exprs) (T := F_Exprs) (N := 11) B 6 rfl rfl (by decide) i_Exprs (B.2.2.2.1 _ k_200) rfl (hR.1 _ 6 _ rfl) d_Exprs_otherwise_36 ?_
  refine mv_aload_n (pc := 39) B d_Exprs_otherwise_39 rfl 1 rfl ?_
  refine mv_getI (pc := 40) (ci := 6) (C := R_Exprs) (T := F_Exprs) (N := 11) B 8 rfl rfl (by decide) i_Exprs (B.2.2.2.1 _ k_202) rfl d_Exprs_otherwise_40 ?_
  refine mv_iconst (pc := 43) (v := 1) B d_Exprs_otherwise_43 (by decide) ?_
  refine mv_isub (pc := 44) B d_Exprs_otherwise_44 ?_
  refine mv_aload_n (pc := 45) B d_Exprs_otherwise_45 rfl 1 rfl ?_
  refine mv_getR (pc := 46) (ci := 6) (C := R_Exprs) (T := F_Exprs) (N := 11) B 3 rfl rfl (by decide) i_Exprs (B.2.2.2.1 _ k_197) rfl hR.2.2.2 d_Exprs_otherwise_46 ?_
  refine mv_sipush (pc := 49) (v := 311) B d_Exprs_otherwise_49 (by decide) ?_
  refine mv_lconst (pc := 52) (v := 0) B d_Exprs_otherwise_52 (by decide) ?_
  refine mv_callVi (pc := 53) (n := 2) (ci := 7) (C := R_Program) B (mK_ok sk sv) hNs rfl rfl (c_Program_emit_a l hi _ _ _ hR.2.1 (show 0 ≤ (mv_i S9 32 17).toInt by have := hX.2.1.1; omega) (show (mv_i S9 32 17).toInt < 32768 by have := hX.2.1.1; omega)) rfl (ma_goodc kc_Program_emit) (B.2.2.2.1 _ k_1425) (B.2.2.2.1 _ k_1385) (B.2.2.2.1 _ k_1386) (B.2.2.2.1 _ k_8) ⟨by decide +kernel, by decide +kernel, by decide +kernel⟩ rfl d_Exprs_otherwise_53 rfl (Nat.le_of_ble_eq_true rfl) ⟨by decide, by decide⟩ ⟨by decide, by decide⟩ ⟨by decide, by decide⟩ (mv_noH hno _) (fun v53 σ53 h53 => ?_)
  obtain ⟨e53, z53⟩ := h53
  subst e53
  have z53 : v53 = mv_i S9 32 17 := z53
  refine mv_iast (pc := 56) B rfl (i32_in (show 0 ≤ (mv_i S9 22 8 - 1).toInt by omega) (show (mv_i S9 22 8 - 1).toInt < 1024 by omega)) d_Exprs_otherwise_56 ?_
  refine mv_aload_n (pc := 57) B d_Exprs_otherwise_57 rfl 1 rfl ?_
  refine mv_getR (pc := 58) (ci := 6) (C := R_Exprs) (T := F_Exprs) (N := 11) B 3 rfl rfl (by decide) i_Exprs (B.2.2.2.1 _ k_197) rfl hR.2.2.2 d_Exprs_otherwise_58 ?_
  refine mv_iload_n (pc := 61) B d_Exprs_otherwise_61 rfl 0 rfl ?_
  refine mv_callVv (pc := 62) (n := 1) (ci := 7) (C := R_Program) B (mK_ok sk sv) hNs rfl rfl (c_Program_aim_a l hi _ _ hR.2.1 (by omega)) rfl (ma_goodc kc_Program_aim) (B.2.2.2.1 _ k_1501) (B.2.2.2.1 _ k_1403) (B.2.2.2.1 _ k_1404) (B.2.2.2.1 _ k_8) ⟨by decide +kernel, by decide +kernel, by decide +kernel⟩ rfl d_Exprs_otherwise_62 rfl (Nat.le_of_ble_eq_true rfl) ⟨by decide, by decide⟩ ⟨by decide, by decide⟩ ⟨by decide, by decide⟩ (mv_noH hno _) (fun σ62 h62 => ?_)
  have h62 := (h62.resolve_left (fun q => by omega)).2
  subst h62
  refine mv_gen (fun S65 eS65 => ?_)
  have hR : Rw 32 (mv_r S65) := by rw [eS65]; exact hR
  have hF : RF 32 σ S65 := by rw [eS65]; exact hF.row ⟨by omega, by omega⟩ _ _ |>.emit _ _ |>.row ⟨by omega, by omega⟩ _ _ |>.aim _ _
  have hX : XM 32 th e0 bs BL f0 g0 ns S65 (((58, v53) : Mk) :: ms) (sm wt ms + 1) (sm wr ms) (s0 + 1) := by rw [eS65]; exact hX.otherwise hP (by omega) p2 p2 (by rw [z53]; exact m8) (by rw [lg_toInt]; show (mv_i S9 32 17 + 1).toInt = s0 + 1; rw [i32_inc (by omega)]; omega) (by omega)
  have t7 := Eq.trans (congrArg Int32.toInt (show mv_i S65 3 7 = mv_i _ 3 7 by rw [eS65]; rfl)) t7
  have t8 := Eq.trans (congrArg Int32.toInt (show mv_i S65 3 8 = mv_i _ 3 8 by rw [eS65]; rfl)) t8
  have t9 := Eq.trans (congrArg Int32.toInt (show mv_i S65 3 9 = mv_i _ 3 9 by rw [eS65]; rfl)) t9
  have kp := Eq.trans (show mv_a S65 4 = mv_a _ 4 by rw [eS65]; rfl) kp
  have y1 : sm wt (((58, v53) : Mk) :: ms) = wt (58, v53) + sm wt ms := rfl
  have y2 : sm wr (((58, v53) : Mk) :: ms) = wr (58, v53) + sm wr ms := rfl
  have y3 : sm wd (((58, v53) : Mk) :: ms) = wd (58, v53) + sm wd ms := rfl
  have y4 : sm wc (((58, v53) : Mk) :: ms) = wc (58, v53) + sm wc ms := rfl
  have x1 : wt (58, v53) = 1 := rfl
  have x2 : wr (58, v53) = 0 := rfl
  have x3 : wd (58, v53) = 1 := rfl
  have x4 : wc (58, v53) = 0 := rfl
  have hend : 0 ≤ (mv_i S65 3 9).toInt ∨ ∃ ms2 s2 a2, a < a2 ∧ XM 32 th e0 bs BL f0 g0 ns S65 (ms2) (sm wt ms2 + 0) (sm wr ms2 + 0) (s2) ∧ TI S65 sz bd ms2 s2 a2 := by
    refine Or.inr ⟨((58, v53) : Mk) :: ms, s0 + 1, a + 1, by omega, ?_, by omega, by omega, by omega, by omega, by omega, by omega, (hWm.tail.up (by omega)).cons (fun q => absurd (show (58 : Int32) = 123 from q) (by decide))⟩
    rw [y1, y2, x1, x2, Nat.zero_add, Nat.add_comm 1]
    exact hX
  clear eS65
  exact mv_vret (pc := 65) B hr d_Exprs_otherwise_65 (Nat.le_refl _) (Nat.le_refl _) ⟨rfl, hF, hX.1.2.2.2.1, hend⟩
set_option maxHeartbeats 4000000 in
set_option maxRecDepth 100000 in
theorem c_Exprs_otherwise_b (l : Launch) {dA : FieldType → ClassId} {D : va_G} {al : Nat → Nat} {ext : mv_Sh} {sk sv : Nat → Nat} (hi : mv_inj (mg dA D al ext)) (σ : mv_H) (w8 : Int32) {t len n z sz th sl e0 bs ns : Nat} {BL : (Nat → Nat) → Prop} {f0 : Nat → Int32} {g0 : Nat → Int64} {ms : List Mk} {s0 bd a : Nat} (hB0 : SB 48 σ t len n z sz th sl) (ht2 : t = 1 ∨ t = 144) (hX : XM 48 th e0 bs BL f0 g0 ns σ (((63, w8) : Mk) :: ms) (sm wt (((63, w8) : Mk) :: ms) + 1) (sm wr (((63, w8) : Mk) :: ms) + 1) (s0)) (hI : TI σ sz bd (((63, w8) : Mk) :: ms) s0 a) (hlen : len ≤ 32768) (hbs : bs ≤ 1) (hk3 : mv_a σ 4 (mv_i σ 3 7).toNatClampNeg = 58) : mv_C l y_Exprs_otherwise (Cond.code y_Exprs_otherwise b_Exprs_otherwise 2 (Option.none : Option Jvm.ClassFile.FieldType) :: ma) ({ frames := 2, cells := 0, slots := 0, locals := 42 }) (mg dA D al ext) (mK sk sv) [.ref (al 22)] σ (mv_Rv (fun σ1 => RF 48 σ σ1 ∧ Mt (mv_a σ1 24) ∧ (0 ≤ (mv_i σ1 3 9).toInt ∨ ∃ ms2 s2 a2, a < a2 ∧ XM 48 th e0 bs BL f0 g0 ns σ1 (ms2) (sm wt ms2 + 0) (sm wr ms2 + 0) (s2) ∧ TI σ1 sz bd ms2 s2 a2))) := by
  refine mv_C.ofV (cc := b_Exprs_otherwise) (nL := 2) (ret := (Option.none : Option Jvm.ClassFile.FieldType)) (by decide +kernel) rfl hi (Nat.le_of_ble_eq_true rfl) ?_
  intro p e s m below meth c B hNs hr hnm hno
  have hP : PQ 48 := by unfold PQ; omega
  have hR := hB0.1
  have hF : RF 48 σ σ := RF0
  have hT : mv_i σ 3 = mv_i σ 3 := rfl
  have hsz := hB0.2.1.2.2.2.2.2
  have hsz2 := hB0.2.1.2.2.2.1
  have hI5 := hI.2.2.2.2.1
  have ha9 := hI.2.2.2.2.2.1
  have pl := hI.len hX
  have hm8 := hX.1.1
  have t7 := hI.1
  have hw9 := hI.2.1
  have t9 : (mv_i σ 3 9).toInt = (mv_i σ 3 9).toInt := rfl
  have hd8 := hI.2.2.1
  have hd9 := hI.2.2.2.1
  have hWm := hI.2.2.2.2.2.2
  have kp : mv_a σ 4 = mv_a σ 4 := rfl
  have t8 : (mv_i σ 3 8).toInt = (mv_i σ 3 8).toInt := rfl
  have g1 : sm wt (((63, w8) : Mk) :: ms) = wt (63, w8) + sm wt ms := rfl
  have g2 : sm wr (((63, w8) : Mk) :: ms) = wr (63, w8) + sm wr ms := rfl
  have g3 : sm wd (((63, w8) : Mk) :: ms) = wd (63, w8) + sm wd ms := rfl
  have g4 : sm wc (((63, w8) : Mk) :: ms) = wc (63, w8) + sm wc ms := rfl
  have g5 : wt (63, w8) = 0 := rfl
  have g6 : wr (63, w8) = 0 := rfl
  have g7 : wd (63, w8) = 1 := rfl
  have g8 : wc (63, w8) = 0 := rfl
  rw [g1, g2, g5, g6, Nat.zero_add, Nat.zero_add] at hX
  have gl : ((((63, w8)) : Mk) :: ms).length = ms.length + 1 := rfl
  refine mv_aload_n (pc := 0) B d_Exprs_otherwise_0 rfl 0 rfl ?_
  refine mv_getR (pc := 1) (ci := 6) (C := R_Exprs) (T := F_Exprs) (N := 11) B 0 rfl rfl (by decide) i_Exprs (B.2.2.2.1 _ k_193) rfl (hR.1 _ 0 _ rfl) d_Exprs_otherwise_1 ?_
  refine mv_bipush (pc := 4) (v := 58) B d_Exprs_otherwise_4 (by decide) ?_
  refine mv_callVi (pc := 6) (n := 1) (ci := 2) (C := R_Tokens) B (mK_ok sk sv) hNs rfl rfl (c_Tokens_takeN l hi _ _ hR.1 (hB0.rf hF hP ht2).2.1 (by omega) (by omega) (by decide)) rfl (ma_goodc kc_Tokens_take) (B.2.2.2.1 _ k_1424) (B.2.2.2.1 _ k_1267) (B.2.2.2.1 _ k_1268) (B.2.2.2.1 _ k_3) ⟨by decide +kernel, by decide +kernel, by decide +kernel⟩ rfl d_Exprs_otherwise_6 rfl (Nat.le_of_ble_eq_true rfl) ⟨by decide, by decide⟩ ⟨by decide, by decide⟩ ⟨by decide, by decide⟩ (mv_noH hno _) (fun v6 σ6 h6 => ?_)
  obtain ⟨a6, w6, e6, r6⟩ := h6
  have q6 := r6.1
  have z6 := fun q => (r6.2.1 q).1
  have y6 := And.intro r6.2.2.2.1 r6.2.2.2.2.1
  subst e6
  have hw6 := r6.2.2.1 hw9 hk3 trivial
  refine mv_gen (fun S9 eS9 => ?_)
  have hR : Rw 48 (mv_r S9) := by rw [eS9]; exact hR
  have hF : RF 48 σ S9 := by rw [eS9]; exact hF.tk3 _ _ _
  have hX : XM 48 th e0 bs BL f0 g0 ns S9 (((63, w8) : Mk) :: ms) (sm wt ms + 1) (sm wr ms + 1) (s0) := by rw [eS9]; exact hX.tk3 hP _ _ _
  have t7 : (mv_i S9 3 7).toInt = a6.toInt := by rw [eS9]; rfl
  have t8 : (mv_i S9 3 8).toInt = (mv_i σ 3 8).toInt := by rw [eS9]; first | exact t8 | exact (sub_one (by omega)).trans (by omega) | exact (i32_inc (by omega)).trans (by omega)
  have t9 : (mv_i S9 3 9).toInt = w6.toInt := by rw [eS9]; rfl
  have kS9 : mv_a S9 4 = mv_a σ 4 := by rw [eS9]; first | rfl | exact kp
  have kp := kS9
  obtain ⟨p1, p2, p3, p4⟩ := hX.top
  have m8 := hX.2.1.1
  obtain ⟨u8, v1, v2, v3⟩ := hX.1.2.2.2.2.2.head.1 (Or.inl rfl)
  have v1 : w8.toInt = u8 := v1
  clear eS9
  refine mv_pop (pc := 9) B d_Exprs_otherwise_9 rfl ?_
  refine mv_aload_n (pc := 10) B d_Exprs_otherwise_10 rfl 0 rfl ?_
  refine mv_getR (pc := 11) (ci := 6) (C := R_Exprs) (T := F_Exprs) (N := 11) B 6 rfl rfl (by decide) i_Exprs (B.2.2.2.1 _ k_200) rfl (hR.1 _ 6 _ rfl) d_Exprs_otherwise_11 ?_
  refine mv_aload_n (pc := 14) B d_Exprs_otherwise_14 rfl 0 rfl ?_
  refine mv_getI (pc := 15) (ci := 6) (C := R_Exprs) (T := F_Exprs) (N := 11) B 8 rfl rfl (by decide) i_Exprs (B.2.2.2.1 _ k_202) rfl d_Exprs_otherwise_15 ?_
  refine mv_iconst (pc := 18) (v := 1) B d_Exprs_otherwise_18 (by decide) ?_
  refine mv_isub (pc := 19) B d_Exprs_otherwise_19 ?_
  refine mv_iald (pc := 20) B rfl (i32_in (show 0 ≤ (mv_i S9 22 8 - 1).toInt by omega) (show (mv_i S9 22 8 - 1).toInt < 1024 by omega)) d_Exprs_otherwise_20 ?_
  rw [p4]
  refine mv_istore_n (pc := 21) B d_Exprs_otherwise_21 rfl (by decide) rfl ?_
  refine mv_aload_n (pc := 22) B d_Exprs_otherwise_22 rfl 1 rfl ?_
  refine mv_getR (pc := 23) (ci := 6) (C := R_Exprs) (T := F_Exprs) (N := 11) B 4 rfl rfl (by decide) i_Exprs (B.2.2.2.1 _ k_198) rfl (hR.1 _ 4 _ rfl) d_Exprs_otherwise_23 ?_
  refine mv_aload_n (pc := 26) B d_Exprs_otherwise_26 rfl 1 rfl ?_
  refine mv_getI (pc := 27) (ci := 6) (C := R_Exprs) (T := F_Exprs) (N := 11) B 8 rfl rfl (by decide) i_Exprs (B.2.2.2.1 _ k_202) rfl d_Exprs_otherwise_27 ?_
  refine mv_iconst (pc := 30) (v := 1) B d_Exprs_otherwise_30 (by decide) ?_
  refine mv_isub (pc := 31) B d_Exprs_otherwise_31 ?_
  refine mv_bipush (pc := 32) (v := 58) B d_Exprs_otherwise_32 (by decide) ?_
  refine mv_iast (pc := 34) B rfl (i32_in (show 0 ≤ (mv_i S9 22 8 - 1).toInt by omega) (show (mv_i S9 22 8 - 1).toInt < 1024 by omega)) d_Exprs_otherwise_34 ?_
  refine mv_aload_n (pc := 35) B d_Exprs_otherwise_35 rfl 1 rfl ?_
  refine mv_getR (pc := 36) (ci := 6) (C := R_Exprs) (T := F_Exprs) (N := 11) B 6 rfl rfl (by decide) i_Exprs (B.2.2.2.1 _ k_200) rfl (hR.1 _ 6 _ rfl) d_Exprs_otherwise_36 ?_
  refine mv_aload_n (pc := 39) B d_Exprs_otherwise_39 rfl 1 rfl ?_
  refine mv_getI (pc := 40) (ci := 6) (C := R_Exprs) (T := F_Exprs) (N := 11) B 8 rfl rfl (by decide) i_Exprs (B.2.2.2.1 _ k_202) rfl d_Exprs_otherwise_40 ?_
  refine mv_iconst (pc := 43) (v := 1) B d_Exprs_otherwise_43 (by decide) ?_
  refine mv_isub (pc := 44) B d_Exprs_otherwise_44 ?_
  refine mv_aload_n (pc := 45) B d_Exprs_otherwise_45 rfl 1 rfl ?_
  refine mv_getR (pc := 46) (ci := 6) (C := R_Exprs) (T := F_Exprs) (N := 11) B 3 rfl rfl (by decide) i_Exprs (B.2.2.2.1 _ k_197) rfl hR.2.2.2 d_Exprs_otherwise_46 ?_
  refine mv_sipush (pc := 49) (v := 311) B d_Exprs_otherwise_49 (by decide) ?_
  refine mv_lconst (pc := 52) (v := 0) B d_Exprs_otherwise_52 (by decide) ?_
  refine mv_callVi (pc := 53) (n := 2) (ci := 7) (C := R_Program) B (mK_ok sk sv) hNs rfl rfl (c_Program_emit_b l hi _ _ _ hR.2.1 (show 0 ≤ (mv_i S9 48 17).toInt by have := hX.2.1.1; omega) (show (mv_i S9 48 17).toInt < 32768 by have := hX.2.1.1; omega)) rfl (ma_goodc kc_Program_emit) (B.2.2.2.1 _ k_1425) (B.2.2.2.1 _ k_1385) (B.2.2.2.1 _ k_1386) (B.2.2.2.1 _ k_8) ⟨by decide +kernel, by decide +kernel, by decide +kernel⟩ rfl d_Exprs_otherwise_53 rfl (Nat.le_of_ble_eq_true rfl) ⟨by decide, by decide⟩ ⟨by decide, by decide⟩ ⟨by decide, by decide⟩ (mv_noH hno _) (fun v53 σ53 h53 => ?_)
  obtain ⟨e53, z53⟩ := h53
  subst e53
  have z53 : v53 = mv_i S9 48 17 := z53
  refine mv_iast (pc := 56) B rfl (i32_in (show 0 ≤ (mv_i S9 22 8 - 1).toInt by omega) (show (mv_i S9 22 8 - 1).toInt < 1024 by omega)) d_Exprs_otherwise_56 ?_
  refine mv_aload_n (pc := 57) B d_Exprs_otherwise_57 rfl 1 rfl ?_
  refine mv_getR (pc := 58) (ci := 6) (C := R_Exprs) (T := F_Exprs) (N := 11) B 3 rfl rfl (by decide) i_Exprs (B.2.2.2.1 _ k_197) rfl hR.2.2.2 d_Exprs_otherwise_58 ?_
  refine mv_iload_n (pc := 61) B d_Exprs_otherwise_61 rfl 0 rfl ?_
  refine mv_callVv (pc := 62) (n := 1) (ci := 7) (C := R_Program) B (mK_ok sk sv) hNs rfl rfl (c_Program_aim_b l hi _ _ hR.2.1 (by omega)) rfl (ma_goodc kc_Program_aim) (B.2.2.2.1 _ k_1501) (B.2.2.2.1 _ k_1403) (B.2.2.2.1 _ k_1404) (B.2.2.2.1 _ k_8) ⟨by decide +kernel, by decide +kernel, by decide +kernel⟩ rfl d_Exprs_otherwise_62 rfl (Nat.le_of_ble_eq_true rfl) ⟨by decide, by decide⟩ ⟨by decide, by decide⟩ ⟨by decide, by decide⟩ (mv_noH hno _) (fun σ62 h62 => ?_)
  have h62 := (h62.resolve_left (fun q => by omega)).2
  subst h62
  refine mv_gen (fun S65 eS65 => ?_)
  have hR : Rw 48 (mv_r S65) := by rw [eS65]; exact hR
  have hF : RF 48 σ S65 := by rw [eS65]; exact hF.row ⟨by omega, by omega⟩ _ _ |>.emit _ _ |>.row ⟨by omega, by omega⟩ _ _ |>.aim _ _
  have hX : XM 48 th e0 bs BL f0 g0 ns S65 (((58, v53) : Mk) :: ms) (sm wt ms + 1) (sm wr ms) (s0 + 1) := by rw [eS65]; exact hX.otherwise hP (by omega) p2 p2 (by rw [z53]; exact m8) (by rw [lg_toInt]; show (mv_i S9 48 17 + 1).toInt = s0 + 1; rw [i32_inc (by omega)]; omega) (by omega)
  have t7 := Eq.trans (congrArg Int32.toInt (show mv_i S65 3 7 = mv_i _ 3 7 by rw [eS65]; rfl)) t7
  have t8 := Eq.trans (congrArg Int32.toInt (show mv_i S65 3 8 = mv_i _ 3 8 by rw [eS65]; rfl)) t8
  have t9 := Eq.trans (congrArg Int32.toInt (show mv_i S65 3 9 = mv_i _ 3 9 by rw [eS65]; rfl)) t9
  have kp := Eq.trans (show mv_a S65 4 = mv_a _ 4 by rw [eS65]; rfl) kp
  have y1 : sm wt (((58, v53) : Mk) :: ms) = wt (58, v53) + sm wt ms := rfl
  have y2 : sm wr (((58, v53) : Mk) :: ms) = wr (58, v53) + sm wr ms := rfl
  have y3 : sm wd (((58, v53) : Mk) :: ms) = wd (58, v53) + sm wd ms := rfl
  have y4 : sm wc (((58, v53) : Mk) :: ms) = wc (58, v53) + sm wc ms := rfl
  have x1 : wt (58, v53) = 1 := rfl
  have x2 : wr (58, v53) = 0 := rfl
  have x3 : wd (58, v53) = 1 := rfl
  have x4 : wc (58, v53) = 0 := rfl
  have hend : 0 ≤ (mv_i S65 3 9).toInt ∨ ∃ ms2 s2 a2, a < a2 ∧ XM 48 th e0 bs BL f0 g0 ns S65 (ms2) (sm wt ms2 + 0) (sm wr ms2 + 0) (s2) ∧ TI S65 sz bd ms2 s2 a2 := by
    refine Or.inr ⟨((58, v53) : Mk) :: ms, s0 + 1, a + 1, by omega, ?_, by omega, by omega, by omega, by omega, by omega, by omega, (hWm.tail.up (by omega)).cons (fun q => absurd (show (58 : Int32) = 123 from q) (by decide))⟩
    rw [y1, y2, x1, x2, Nat.zero_add, Nat.add_comm 1]
    exact hX
  clear eS65
  exact mv_vret (pc := 65) B hr d_Exprs_otherwise_65 (Nat.le_refl _) (Nat.le_refl _) ⟨rfl, hF, hX.1.2.2.2.1, hend⟩
set_option maxHeartbeats 4000000 in
set_option maxRecDepth 100000 in
theorem c_Exprs_otherwise_c (l : Launch) {dA : FieldType → ClassId} {D : va_G} {al : Nat → Nat} {sk sv : Nat → Nat} (hi : mv_inj (mg dA D al me)) (σ : mv_H) (w8 : Int32) {t len n z sz th sl e0 bs ns : Nat} {BL : (Nat → Nat) → Prop} {f0 : Nat → Int32} {g0 : Nat → Int64} {ms : List Mk} {s0 bd a : Nat} (hB0 : SB 145 σ t len n z sz th sl) (ht2 : t = 1 ∨ t = 144) (hX : XM 145 th e0 bs BL f0 g0 ns σ (((63, w8) : Mk) :: ms) (sm wt (((63, w8) : Mk) :: ms) + 1) (sm wr (((63, w8) : Mk) :: ms) + 1) (s0)) (hI : TI σ sz bd (((63, w8) : Mk) :: ms) s0 a) (hlen : len ≤ 8192) (hbs : bs ≤ 1) (hk3 : mv_a σ 4 (mv_i σ 3 7).toNatClampNeg = 58) : mv_C l y_Exprs_otherwise (Cond.code y_Exprs_otherwise b_Exprs_otherwise 2 (Option.none : Option Jvm.ClassFile.FieldType) :: ma) ({ frames := 2, cells := 0, slots := 0, locals := 42 }) (mg dA D al me) (mK sk sv) [.ref (al 22)] σ (mv_Rv (fun σ1 => RF 145 σ σ1 ∧ Mt (mv_a σ1 24) ∧ (0 ≤ (mv_i σ1 3 9).toInt ∨ ∃ ms2 s2 a2, a < a2 ∧ XM 145 th e0 bs BL f0 g0 ns σ1 (ms2) (sm wt ms2 + 0) (sm wr ms2 + 0) (s2) ∧ TI σ1 sz bd ms2 s2 a2))) := by
  refine mv_C.ofV (cc := b_Exprs_otherwise) (nL := 2) (ret := (Option.none : Option Jvm.ClassFile.FieldType)) (by decide +kernel) rfl hi (Nat.le_of_ble_eq_true rfl) ?_
  intro p e s m below meth c B hNs hr hnm hno
  have hP : PQ 145 := by unfold PQ; omega
  have hR := hB0.1
  have hF : RF 145 σ σ := RF0
  have hT : mv_i σ 3 = mv_i σ 3 := rfl
  have hsz := hB0.2.1.2.2.2.2.2
  have hsz2 := hB0.2.1.2.2.2.1
  have hI5 := hI.2.2.2.2.1
  have ha9 := hI.2.2.2.2.2.1
  have pl := hI.len hX
  have hm8 := hX.1.1
  have t7 := hI.1
  have hw9 := hI.2.1
  have t9 : (mv_i σ 3 9).toInt = (mv_i σ 3 9).toInt := rfl
  have hd8 := hI.2.2.1
  have hd9 := hI.2.2.2.1
  have hWm := hI.2.2.2.2.2.2
  have kp : mv_a σ 4 = mv_a σ 4 := rfl
  have t8 : (mv_i σ 3 8).toInt = (mv_i σ 3 8).toInt := rfl
  have g1 : sm wt (((63, w8) : Mk) :: ms) = wt (63, w8) + sm wt ms := rfl
  have g2 : sm wr (((63, w8) : Mk) :: ms) = wr (63, w8) + sm wr ms := rfl
  have g3 : sm wd (((63, w8) : Mk) :: ms) = wd (63, w8) + sm wd ms := rfl
  have g4 : sm wc (((63, w8) : Mk) :: ms) = wc (63, w8) + sm wc ms := rfl
  have g5 : wt (63, w8) = 0 := rfl
  have g6 : wr (63, w8) = 0 := rfl
  have g7 : wd (63, w8) = 1 := rfl
  have g8 : wc (63, w8) = 0 := rfl
  rw [g1, g2, g5, g6, Nat.zero_add, Nat.zero_add] at hX
  have gl : ((((63, w8)) : Mk) :: ms).length = ms.length + 1 := rfl
  refine mv_aload_n (pc := 0) B d_Exprs_otherwise_0 rfl 0 rfl ?_
  refine mv_getR (pc := 1) (ci := 6) (C := R_Exprs) (T := F_Exprs) (N := 11) B 0 rfl rfl (by decide) i_Exprs (B.2.2.2.1 _ k_193) rfl (hR.1 _ 0 _ rfl) d_Exprs_otherwise_1 ?_
  refine mv_bipush (pc := 4) (v := 58) B d_Exprs_otherwise_4 (by decide) ?_
  refine mv_callVi (pc := 6) (n := 1) (ci := 2) (C := R_Tokens) B (mK_ok sk sv) hNs rfl rfl (c_Tokens_takeN l hi _ _ hR.1 (hB0.rf hF hP ht2).2.1 (by omega) (by omega) (by decide)) rfl (ma_goodc kc_Tokens_take) (B.2.2.2.1 _ k_1424) (B.2.2.2.1 _ k_1267) (B.2.2.2.1 _ k_1268) (B.2.2.2.1 _ k_3) ⟨by decide +kernel, by decide +kernel, by decide +kernel⟩ rfl d_Exprs_otherwise_6 rfl (Nat.le_of_ble_eq_true rfl) ⟨by decide, by decide⟩ ⟨by decide, by decide⟩ ⟨by decide, by decide⟩ (mv_noH hno _) (fun v6 σ6 h6 => ?_)
  obtain ⟨a6, w6, e6, r6⟩ := h6
  have q6 := r6.1
  have z6 := fun q => (r6.2.1 q).1
  have y6 := And.intro r6.2.2.2.1 r6.2.2.2.2.1
  subst e6
  have hw6 := r6.2.2.1 hw9 hk3 trivial
  refine mv_gen (fun S9 eS9 => ?_)
  have hR : Rw 145 (mv_r S9) := by rw [eS9]; exact hR
  have hF : RF 145 σ S9 := by rw [eS9]; exact hF.tk3 _ _ _
  have hX : XM 145 th e0 bs BL f0 g0 ns S9 (((63, w8) : Mk) :: ms) (sm wt ms + 1) (sm wr ms + 1) (s0) := by rw [eS9]; exact hX.tk3 hP _ _ _
  have t7 : (mv_i S9 3 7).toInt = a6.toInt := by rw [eS9]; rfl
  have t8 : (mv_i S9 3 8).toInt = (mv_i σ 3 8).toInt := by rw [eS9]; first | exact t8 | exact (sub_one (by omega)).trans (by omega) | exact (i32_inc (by omega)).trans (by omega)
  have t9 : (mv_i S9 3 9).toInt = w6.toInt := by rw [eS9]; rfl
  have kS9 : mv_a S9 4 = mv_a σ 4 := by rw [eS9]; first | rfl | exact kp
  have kp := kS9
  obtain ⟨p1, p2, p3, p4⟩ := hX.top
  have m8 := hX.2.1.1
  obtain ⟨u8, v1, v2, v3⟩ := hX.1.2.2.2.2.2.head.1 (Or.inl rfl)
  have v1 : w8.toInt = u8 := v1
  clear eS9
  refine mv_pop (pc := 9) B d_Exprs_otherwise_9 rfl ?_
  refine mv_aload_n (pc := 10) B d_Exprs_otherwise_10 rfl 0 rfl ?_
  refine mv_getR (pc := 11) (ci := 6) (C := R_Exprs) (T := F_Exprs) (N := 11) B 6 rfl rfl (by decide) i_Exprs (B.2.2.2.1 _ k_200) rfl (hR.1 _ 6 _ rfl) d_Exprs_otherwise_11 ?_
  refine mv_aload_n (pc := 14) B d_Exprs_otherwise_14 rfl 0 rfl ?_
  refine mv_getI (pc := 15) (ci := 6) (C := R_Exprs) (T := F_Exprs) (N := 11) B 8 rfl rfl (by decide) i_Exprs (B.2.2.2.1 _ k_202) rfl d_Exprs_otherwise_15 ?_
  refine mv_iconst (pc := 18) (v := 1) B d_Exprs_otherwise_18 (by decide) ?_
  refine mv_isub (pc := 19) B d_Exprs_otherwise_19 ?_
  refine mv_iald (pc := 20) B rfl (i32_in (show 0 ≤ (mv_i S9 22 8 - 1).toInt by omega) (show (mv_i S9 22 8 - 1).toInt < 1024 by omega)) d_Exprs_otherwise_20 ?_
  rw [p4]
  refine mv_istore_n (pc := 21) B d_Exprs_otherwise_21 rfl (by decide) rfl ?_
  refine mv_aload_n (pc := 22) B d_Exprs_otherwise_22 rfl 1 rfl ?_
  refine mv_getR (pc := 23) (ci := 6) (C := R_Exprs) (T := F_Exprs) (N := 11) B 4 rfl rfl (by decide) i_Exprs (B.2.2.2.1 _ k_198) rfl (hR.1 _ 4 _ rfl) d_Exprs_otherwise_23 ?_
  refine mv_aload_n (pc := 26) B d_Exprs_otherwise_26 rfl 1 rfl ?_
  refine mv_getI (pc := 27) (ci := 6) (C := R_Exprs) (T := F_Exprs) (N := 11) B 8 rfl rfl (by decide) i_Exprs (B.2.2.2.1 _ k_202) rfl d_Exprs_otherwise_27 ?_
  refine mv_iconst (pc := 30) (v := 1) B d_Exprs_otherwise_30 (by decide) ?_
  refine mv_isub (pc := 31) B d_Exprs_otherwise_31 ?_
  refine mv_bipush (pc := 32) (v := 58) B d_Exprs_otherwise_32 (by decide) ?_
  refine mv_iast (pc := 34) B rfl (i32_in (show 0 ≤ (mv_i S9 22 8 - 1).toInt by omega) (show (mv_i S9 22 8 - 1).toInt < 1024 by omega)) d_Exprs_otherwise_34 ?_
  refine mv_aload_n (pc := 35) B d_Exprs_otherwise_35 rfl 1 rfl ?_
  refine mv_getR (pc := 36) (ci := 6) (C := R_Exprs) (T := F_Exprs) (N := 11) B 6 rfl rfl (by decide) i_Exprs (B.2.2.2.1 _ k_200) rfl (hR.1 _ 6 _ rfl) d_Exprs_otherwise_36 ?_
  refine mv_aload_n (pc := 39) B d_Exprs_otherwise_39 rfl 1 rfl ?_
  refine mv_getI (pc := 40) (ci := 6) (C := R_Exprs) (T := F_Exprs) (N := 11) B 8 rfl rfl (by decide) i_Exprs (B.2.2.2.1 _ k_202) rfl d_Exprs_otherwise_40 ?_
  refine mv_iconst (pc := 43) (v := 1) B d_Exprs_otherwise_43 (by decide) ?_
  refine mv_isub (pc := 44) B d_Exprs_otherwise_44 ?_
  refine mv_aload_n (pc := 45) B d_Exprs_otherwise_45 rfl 1 rfl ?_
  refine mv_getR (pc := 46) (ci := 6) (C := R_Exprs) (T := F_Exprs) (N := 11) B 3 rfl rfl (by decide) i_Exprs (B.2.2.2.1 _ k_197) rfl hR.2.2.2 d_Exprs_otherwise_46 ?_
  refine mv_sipush (pc := 49) (v := 311) B d_Exprs_otherwise_49 (by decide) ?_
  refine mv_lconst (pc := 52) (v := 0) B d_Exprs_otherwise_52 (by decide) ?_
  refine mv_callVi (pc := 53) (n := 2) (ci := 7) (C := R_Program) B (mK_ok sk sv) hNs rfl rfl (c_Program_emit_c l hi _ _ _ hR.2.1 (show 0 ≤ (mv_i S9 145 17).toInt by have := hX.2.1.1; omega) (show (mv_i S9 145 17).toInt < 8192 by have := hX.2.1.1; omega)) rfl (ma_goodc kc_Program_emit) (B.2.2.2.1 _ k_1425) (B.2.2.2.1 _ k_1385) (B.2.2.2.1 _ k_1386) (B.2.2.2.1 _ k_8) ⟨by decide +kernel, by decide +kernel, by decide +kernel⟩ rfl d_Exprs_otherwise_53 rfl (Nat.le_of_ble_eq_true rfl) ⟨by decide, by decide⟩ ⟨by decide, by decide⟩ ⟨by decide, by decide⟩ (mv_noH hno _) (fun v53 σ53 h53 => ?_)
  obtain ⟨e53, z53⟩ := h53
  subst e53
  have z53 : v53 = mv_i S9 145 17 := z53
  refine mv_iast (pc := 56) B rfl (i32_in (show 0 ≤ (mv_i S9 22 8 - 1).toInt by omega) (show (mv_i S9 22 8 - 1).toInt < 1024 by omega)) d_Exprs_otherwise_56 ?_
  refine mv_aload_n (pc := 57) B d_Exprs_otherwise_57 rfl 1 rfl ?_
  refine mv_getR (pc := 58) (ci := 6) (C := R_Exprs) (T := F_Exprs) (N := 11) B 3 rfl rfl (by decide) i_Exprs (B.2.2.2.1 _ k_197) rfl hR.2.2.2 d_Exprs_otherwise_58 ?_
  refine mv_iload_n (pc := 61) B d_Exprs_otherwise_61 rfl 0 rfl ?_
  refine mv_callVv (pc := 62) (n := 1) (ci := 7) (C := R_Program) B (mK_ok sk sv) hNs rfl rfl (c_Program_aim_c l hi _ _ hR.2.1 (by omega)) rfl (ma_goodc kc_Program_aim) (B.2.2.2.1 _ k_1501) (B.2.2.2.1 _ k_1403) (B.2.2.2.1 _ k_1404) (B.2.2.2.1 _ k_8) ⟨by decide +kernel, by decide +kernel, by decide +kernel⟩ rfl d_Exprs_otherwise_62 rfl (Nat.le_of_ble_eq_true rfl) ⟨by decide, by decide⟩ ⟨by decide, by decide⟩ ⟨by decide, by decide⟩ (mv_noH hno _) (fun σ62 h62 => ?_)
  have h62 := (h62.resolve_left (fun q => by omega)).2
  subst h62
  refine mv_gen (fun S65 eS65 => ?_)
  have hR : Rw 145 (mv_r S65) := by rw [eS65]; exact hR
  have hF : RF 145 σ S65 := by rw [eS65]; exact hF.row ⟨by omega, by omega⟩ _ _ |>.emit _ _ |>.row ⟨by omega, by omega⟩ _ _ |>.aim _ _
  have hX : XM 145 th e0 bs BL f0 g0 ns S65 (((58, v53) : Mk) :: ms) (sm wt ms + 1) (sm wr ms) (s0 + 1) := by rw [eS65]; exact hX.otherwise hP (by omega) p2 p2 (by rw [z53]; exact m8) (by rw [lg_toInt]; show (mv_i S9 145 17 + 1).toInt = s0 + 1; rw [i32_inc (by omega)]; omega) (by omega)
  have t7 := Eq.trans (congrArg Int32.toInt (show mv_i S65 3 7 = mv_i _ 3 7 by rw [eS65]; rfl)) t7
  have t8 := Eq.trans (congrArg Int32.toInt (show mv_i S65 3 8 = mv_i _ 3 8 by rw [eS65]; rfl)) t8
  have t9 := Eq.trans (congrArg Int32.toInt (show mv_i S65 3 9 = mv_i _ 3 9 by rw [eS65]; rfl)) t9
  have kp := Eq.trans (show mv_a S65 4 = mv_a _ 4 by rw [eS65]; rfl) kp
  have y1 : sm wt (((58, v53) : Mk) :: ms) = wt (58, v53) + sm wt ms := rfl
  have y2 : sm wr (((58, v53) : Mk) :: ms) = wr (58, v53) + sm wr ms := rfl
  have y3 : sm wd (((58, v53) : Mk) :: ms) = wd (58, v53) + sm wd ms := rfl
  have y4 : sm wc (((58, v53) : Mk) :: ms) = wc (58, v53) + sm wc ms := rfl
  have x1 : wt (58, v53) = 1 := rfl
  have x2 : wr (58, v53) = 0 := rfl
  have x3 : wd (58, v53) = 1 := rfl
  have x4 : wc (58, v53) = 0 := rfl
  have hend : 0 ≤ (mv_i S65 3 9).toInt ∨ ∃ ms2 s2 a2, a < a2 ∧ XM 145 th e0 bs BL f0 g0 ns S65 (ms2) (sm wt ms2 + 0) (sm wr ms2 + 0) (s2) ∧ TI S65 sz bd ms2 s2 a2 := by
    refine Or.inr ⟨((58, v53) : Mk) :: ms, s0 + 1, a + 1, by omega, ?_, by omega, by omega, by omega, by omega, by omega, by omega, (hWm.tail.up (by omega)).cons (fun q => absurd (show (58 : Int32) = 123 from q) (by decide))⟩
    rw [y1, y2, x1, x2, Nat.zero_add, Nat.add_comm 1]
    exact hX
  clear eS65
  exact mv_vret (pc := 65) B hr d_Exprs_otherwise_65 (Nat.le_refl _) (Nat.le_refl _) ⟨rfl, hF, hX.1.2.2.2.1, hend⟩
def y_Exprs_join : MethodName := ⟨"MachineLoom$Exprs", "join", "(I)I"⟩
abbrev b_Exprs_join : ByteArray := prog_3_method_21_code
theorem kc_Exprs_join : Cond.code y_Exprs_join b_Exprs_join 5 (Option.some Jvm.ClassFile.FieldType.int) ∈ ma := ma_of (tb_7 _ (List.mem_of_getElem? (i := 73) rfl)) rfl
theorem d_Exprs_join_0 : decode b_Exprs_join 0 = .ok (.aload_n 0, 1) := by decide +kernel
theorem d_Exprs_join_1 : decode b_Exprs_join 1 = .ok (.getfield 39, 3) := by decide +kernel
theorem d_Exprs_join_4 : decode b_Exprs_join 4 = .ok (.iconst 1, 1) := by decide +kernel
theorem d_Exprs_join_5 : decode b_Exprs_join 5 = .ok (.isub, 1) := by decide +kernel
theorem d_Exprs_join_6 : decode b_Exprs_join 6 = .ok (.istore_n 2, 1) := by decide +kernel
theorem d_Exprs_join_7 : decode b_Exprs_join 7 = .ok (.aload_n 0, 1) := by decide +kernel
theorem d_Exprs_join_8 : decode b_Exprs_join 8 = .ok (.getfield 18, 3) := by decide +kernel
theorem d_Exprs_join_11 : decode b_Exprs_join 11 = .ok (.iload_n 2, 1) := by decide +kernel
theorem d_Exprs_join_12 : decode b_Exprs_join 12 = .ok (.iaload, 1) := by decide +kernel
theorem d_Exprs_join_13 : decode b_Exprs_join 13 = .ok (.ifCond .le (48), 3) := by decide +kernel
theorem d_Exprs_join_16 : decode b_Exprs_join 16 = .ok (.aload_n 0, 1) := by decide +kernel
theorem d_Exprs_join_17 : decode b_Exprs_join 17 = .ok (.invokevirtual 164, 3) := by decide +kernel
theorem d_Exprs_join_20 : decode b_Exprs_join 20 = .ok (.istore_n 3, 1) := by decide +kernel
theorem d_Exprs_join_21 : decode b_Exprs_join 21 = .ok (.aload_n 0, 1) := by decide +kernel
theorem d_Exprs_join_22 : decode b_Exprs_join 22 = .ok (.invokevirtual 164, 3) := by decide +kernel
theorem d_Exprs_join_25 : decode b_Exprs_join 25 = .ok (.istore 4, 2) := by decide +kernel
theorem d_Exprs_join_27 : decode b_Exprs_join 27 = .ok (.aload_n 0, 1) := by decide +kernel
theorem d_Exprs_join_28 : decode b_Exprs_join 28 = .ok (.getfield 89, 3) := by decide +kernel
theorem d_Exprs_join_31 : decode b_Exprs_join 31 = .ok (.sipush 309, 3) := by decide +kernel
theorem d_Exprs_join_34 : decode b_Exprs_join 34 = .ok (.iload_n 3, 1) := by decide +kernel
theorem d_Exprs_join_35 : decode b_Exprs_join 35 = .ok (.i2l, 1) := by decide +kernel
theorem d_Exprs_join_36 : decode b_Exprs_join 36 = .ok (.invokevirtual 93, 3) := by decide +kernel
theorem d_Exprs_join_39 : decode b_Exprs_join 39 = .ok (.pop, 1) := by decide +kernel
theorem d_Exprs_join_40 : decode b_Exprs_join 40 = .ok (.aload_n 0, 1) := by decide +kernel
theorem d_Exprs_join_41 : decode b_Exprs_join 41 = .ok (.iload 4, 2) := by decide +kernel
theorem d_Exprs_join_43 : decode b_Exprs_join 43 = .ok (.ifCond .eq (7), 3) := by decide +kernel
theorem d_Exprs_join_46 : decode b_Exprs_join 46 = .ok (.iload_n 3, 1) := by decide +kernel
theorem d_Exprs_join_47 : decode b_Exprs_join 47 = .ok (.ifCond .ne (7), 3) := by decide +kernel
theorem d_Exprs_join_50 : decode b_Exprs_join 50 = .ok (.iconst 0, 1) := by decide +kernel
theorem d_Exprs_join_51 : decode b_Exprs_join 51 = .ok (.goto (7), 3) := by decide +kernel
theorem d_Exprs_join_54 : decode b_Exprs_join 54 = .ok (.iload 4, 2) := by decide +kernel
theorem d_Exprs_join_56 : decode b_Exprs_join 56 = .ok (.iload_n 3, 1) := by decide +kernel
theorem d_Exprs_join_57 : decode b_Exprs_join 57 = .ok (.iadd, 1) := by decide +kernel
theorem d_Exprs_join_58 : decode b_Exprs_join 58 = .ok (.invokevirtual 102, 3) := by decide +kernel
theorem d_Exprs_join_61 : decode b_Exprs_join 61 = .ok (.aload_n 0, 1) := by decide +kernel
theorem d_Exprs_join_62 : decode b_Exprs_join 62 = .ok (.getfield 18, 3) := by decide +kernel
theorem d_Exprs_join_65 : decode b_Exprs_join 65 = .ok (.iload_n 2, 1) := by decide +kernel
theorem d_Exprs_join_66 : decode b_Exprs_join 66 = .ok (.dup2, 1) := by decide +kernel
theorem d_Exprs_join_67 : decode b_Exprs_join 67 = .ok (.iaload, 1) := by decide +kernel
theorem d_Exprs_join_68 : decode b_Exprs_join 68 = .ok (.iconst 1, 1) := by decide +kernel
theorem d_Exprs_join_69 : decode b_Exprs_join 69 = .ok (.iadd, 1) := by decide +kernel
theorem d_Exprs_join_70 : decode b_Exprs_join 70 = .ok (.iastore, 1) := by decide +kernel
theorem d_Exprs_join_71 : decode b_Exprs_join 71 = .ok (.iload_n 1, 1) := by decide +kernel
theorem d_Exprs_join_72 : decode b_Exprs_join 72 = .ok (.bipush 44, 2) := by decide +kernel
theorem d_Exprs_join_74 : decode b_Exprs_join 74 = .ok (.if_icmp .ne (15), 3) := by decide +kernel
theorem d_Exprs_join_77 : decode b_Exprs_join 77 = .ok (.aload_n 0, 1) := by decide +kernel
theorem d_Exprs_join_78 : decode b_Exprs_join 78 = .ok (.getfield 27, 3) := by decide +kernel
theorem d_Exprs_join_81 : decode b_Exprs_join 81 = .ok (.bipush 44, 2) := by decide +kernel
theorem d_Exprs_join_83 : decode b_Exprs_join 83 = .ok (.invokevirtual 82, 3) := by decide +kernel
theorem d_Exprs_join_86 : decode b_Exprs_join 86 = .ok (.pop, 1) := by decide +kernel
theorem d_Exprs_join_87 : decode b_Exprs_join 87 = .ok (.iconst 0, 1) := by decide +kernel
theorem d_Exprs_join_88 : decode b_Exprs_join 88 = .ok (.ireturn, 1) := by decide +kernel
theorem d_Exprs_join_89 : decode b_Exprs_join 89 = .ok (.aload_n 0, 1) := by decide +kernel
theorem d_Exprs_join_90 : decode b_Exprs_join 90 = .ok (.getfield 27, 3) := by decide +kernel
theorem d_Exprs_join_93 : decode b_Exprs_join 93 = .ok (.bipush 125, 2) := by decide +kernel
theorem d_Exprs_join_95 : decode b_Exprs_join 95 = .ok (.invokevirtual 161, 3) := by decide +kernel
theorem d_Exprs_join_98 : decode b_Exprs_join 98 = .ok (.pop, 1) := by decide +kernel
theorem d_Exprs_join_99 : decode b_Exprs_join 99 = .ok (.aload_n 0, 1) := by decide +kernel
theorem d_Exprs_join_100 : decode b_Exprs_join 100 = .ok (.dup, 1) := by decide +kernel
theorem d_Exprs_join_101 : decode b_Exprs_join 101 = .ok (.getfield 39, 3) := by decide +kernel
theorem d_Exprs_join_104 : decode b_Exprs_join 104 = .ok (.iconst 1, 1) := by decide +kernel
theorem d_Exprs_join_105 : decode b_Exprs_join 105 = .ok (.isub, 1) := by decide +kernel
theorem d_Exprs_join_106 : decode b_Exprs_join 106 = .ok (.putfield 39, 3) := by decide +kernel
theorem d_Exprs_join_109 : decode b_Exprs_join 109 = .ok (.aload_n 0, 1) := by decide +kernel
theorem d_Exprs_join_110 : decode b_Exprs_join 110 = .ok (.invokevirtual 164, 3) := by decide +kernel
theorem d_Exprs_join_113 : decode b_Exprs_join 113 = .ok (.istore_n 3, 1) := by decide +kernel
theorem d_Exprs_join_114 : decode b_Exprs_join 114 = .ok (.iload_n 3, 1) := by decide +kernel
theorem d_Exprs_join_115 : decode b_Exprs_join 115 = .ok (.bipush 64, 2) := by decide +kernel
theorem d_Exprs_join_117 : decode b_Exprs_join 117 = .ok (.if_icmp .le (19), 3) := by decide +kernel
theorem d_Exprs_join_120 : decode b_Exprs_join 120 = .ok (.aload_n 0, 1) := by decide +kernel
theorem d_Exprs_join_121 : decode b_Exprs_join 121 = .ok (.aload_n 0, 1) := by decide +kernel
theorem d_Exprs_join_122 : decode b_Exprs_join 122 = .ok (.getfield 15, 3) := by decide +kernel
theorem d_Exprs_join_125 : decode b_Exprs_join 125 = .ok (.aload_n 0, 1) := by decide +kernel
theorem d_Exprs_join_126 : decode b_Exprs_join 126 = .ok (.getfield 39, 3) := by decide +kernel
theorem d_Exprs_join_129 : decode b_Exprs_join 129 = .ok (.iaload, 1) := by decide +kernel
theorem d_Exprs_join_130 : decode b_Exprs_join 130 = .ok (.iconst 4, 1) := by decide +kernel
theorem d_Exprs_join_131 : decode b_Exprs_join 131 = .ok (.invokevirtual 101, 3) := by decide +kernel
theorem d_Exprs_join_134 : decode b_Exprs_join 134 = .ok (.iconst 0, 1) := by decide +kernel
theorem d_Exprs_join_135 : decode b_Exprs_join 135 = .ok (.istore_n 3, 1) := by decide +kernel
theorem d_Exprs_join_136 : decode b_Exprs_join 136 = .ok (.aload_n 0, 1) := by decide +kernel
theorem d_Exprs_join_137 : decode b_Exprs_join 137 = .ok (.iload_n 3, 1) := by decide +kernel
theorem d_Exprs_join_138 : decode b_Exprs_join 138 = .ok (.invokevirtual 102, 3) := by decide +kernel
theorem d_Exprs_join_141 : decode b_Exprs_join 141 = .ok (.iconst 1, 1) := by decide +kernel
theorem d_Exprs_join_142 : decode b_Exprs_join 142 = .ok (.ireturn, 1) := by decide +kernel
set_option maxHeartbeats 4000000 in
set_option maxRecDepth 100000 in
theorem c_Exprs_join_a (l : Launch) {dA : FieldType → ClassId} {D : va_G} {al : Nat → Nat} {ext : mv_Sh} {sk sv : Nat → Nat} (hi : mv_inj (mg dA D al ext)) (σ : mv_H) (k9 w8 : Int32) {t len n z sz th sl e0 bs ns : Nat} {BL : (Nat → Nat) → Prop} {f0 : Nat → Int32} {g0 : Nat → Int64} {ms : List Mk} {s0 bd a : Nat} (hB0 : SB 32 σ t len n z sz th sl) (ht2 : t = 1 ∨ t = 144) (hX : XM 32 th e0 bs BL f0 g0 ns σ (((123, w8) : Mk) :: ms) (sm wt (((123, w8) : Mk) :: ms) + 1) (sm wr (((123, w8) : Mk) :: ms) + 1) (s0)) (hI : TI σ sz bd (((123, w8) : Mk) :: ms) s0 a) (hlen : len ≤ 32768) (hbs : bs ≤ 1) (hk3 : mv_a σ 4 (mv_i σ 3 7).toNatClampNeg = k9) (hkd : k9 = 44 ∨ k9 = 125) : mv_C l y_Exprs_join (Cond.code y_Exprs_join b_Exprs_join 5 (Option.some Jvm.ClassFile.FieldType.int) :: ma) ({ frames := 3, cells := 0, slots := 0, locals := 63 }) (mg dA D al ext) (mK sk sv) [.ref (al 22), .int k9] σ (mv_Ri (fun v σ1 => RF 32 σ σ1 ∧ Mt (mv_a σ1 24) ∧ (v = 0 ∨ v = 1) ∧ (0 ≤ (mv_i σ1 3 9).toInt ∨ ∃ ms2 s2 a2, a < a2 ∧ XM 32 th e0 bs BL f0 g0 ns σ1 (ms2) (sm wt ms2 + v.toNatClampNeg) (sm wr ms2 + v.toNatClampNeg) (s2) ∧ TI σ1 sz bd ms2 s2 a2))) := by
  refine mv_C.ofV (cc := b_Exprs_join) (nL := 5) (ret := (Option.some Jvm.ClassFile.FieldType.int)) (by decide +kernel) rfl hi (Nat.le_of_ble_eq_true rfl) ?_
  intro p e s m below meth c B hNs hr hnm hno
  have hP : PQ 32 := by unfold PQ; omega
  have hR := hB0.1
  have hF : RF 32 σ σ := RF0
  have hT : mv_i σ 3 = mv_i σ 3 := rfl
  have hsz := hB0.2.1.2.2.2.2.2
  have hsz2 := hB0.2.1.2.2.2.1
  have hI5 := hI.2.2.2.2.1
  have ha9 := hI.2.2.2.2.2.1
  have pl := hI.len hX
  have hm8 := hX.1.1
  have t7 := hI.1
  have hw9 := hI.2.1
  have t9 : (mv_i σ 3 9).toInt = (mv_i σ 3 9).toInt := rfl
  have hd8 := hI.2.2.1
  have hd9 := hI.2.2.2.1
  have hWm := hI.2.2.2.2.2.2
  have kp : mv_a σ 4 = mv_a σ 4 := rfl
  have t8 : (mv_i σ 3 8).toInt = (mv_i σ 3 8).toInt := rfl
  obtain ⟨p1, p2, p3, p4⟩ := hX.top
  have g1 : sm wt (((123, w8) : Mk) :: ms) = wt (123, w8) + sm wt ms := rfl
  have g2 : sm wr (((123, w8) : Mk) :: ms) = wr (123, w8) + sm wr ms := rfl
  have g3 : sm wd (((123, w8) : Mk) :: ms) = wd (123, w8) + sm wd ms := rfl
  have g4 : sm wc (((123, w8) : Mk) :: ms) = wc (123, w8) + sm wc ms := rfl
  have g7 : wd (123, w8) = 1 := rfl
  have g8 : wc (123, w8) = 0 := rfl
  have gl : ((((123, w8)) : Mk) :: ms).length = ms.length + 1 := rfl
  have gw := hWm (123, w8) List.mem_cons_self rfl
  have gw0 : 0 ≤ w8.toInt := gw.1
  have gw1 : w8.toInt ≤ a := gw.2
  have gw2 : (w8 + 1).toInt = w8.toInt + 1 := i32_inc (by omega)
  have hw0 : ¬ w8 + 1 = 0 := fun q => by rw [q] at gw2; have : (0 : Int32).toInt = 0 := rfl; omega
  have j61 : ∀ (υ : mv_H) (s1 : Nat) (tp : Int32) (hR : Rw 32 (mv_r υ)) (hF : RF 32 σ υ) (hX : XM 32 th e0 bs BL f0 g0 ns υ (((123, w8) : Mk) :: ms) (sm wt ms + 1) (sm wr ms + 1) (s1)) (hs1 : s1 ≤ s0 + 1) (t7 : (mv_i υ 3 7).toInt = a) (t8 : (mv_i υ 3 8).toInt = (mv_i σ 3 8).toInt) (t9 : (mv_i υ 3 9).toInt = (mv_i σ 3 9).toInt) (kp : mv_a υ 4 = mv_a σ 4) (htp : tp = mv_i υ 22 8 - 1), mv_V p l e ({ frames := 3, cells := 0, slots := 0, locals := 63 }) s m ([.ref (al 22), .int k9] : List Value).toArray below meth c (mg dA D al ext) 5 0 0 (mv_Q (mg dA D al ext) below s 0 0 (mv_Ri (fun v σ1 => RF 32 σ σ1 ∧ Mt (mv_a σ1 24) ∧ (v = 0 ∨ v = 1) ∧ (0 ≤ (mv_i σ1 3 9).toInt ∨ ∃ ms2 s2 a2, a < a2 ∧ XM 32 th e0 bs BL f0 g0 ns σ1 (ms2) (sm wt ms2 + v.toNatClampNeg) (sm wr ms2 + v.toNatClampNeg) (s2) ∧ TI σ1 sz bd ms2 s2 a2)))) υ 61 [(2, .int tp), (0, .ref (al 22)), (1, .int k9)] [] := by
    intro υ s1 tp hR hF hX hs1 t7 t8 t9 kp htp
    obtain ⟨p1, p2, p3, p4⟩ := hX.top
    have p9 : tp.toNatClampNeg = (mv_i υ 22 8 - 1).toNatClampNeg := by rw [htp]
    have p8 : tp.toInt = (mv_i υ 22 8 - 1).toInt := by rw [htp]
    have p9 : tp = mv_i υ 22 8 - 1 := htp
    have pw : mv_a υ 25 (mv_i υ 22 8 - 1).toNatClampNeg + 1 = w8 + 1 := by rw [p4]
    refine mv_aload_n (pc := 61) B d_Exprs_join_61 rfl 1 rfl ?_
    refine mv_getR (pc := 62) (ci := 6) (C := R_Exprs) (T := F_Exprs) (N := 11) B 6 rfl rfl (by decide) i_Exprs (B.2.2.2.1 _ k_200) rfl (hR.1 _ 6 _ rfl) d_Exprs_join_62 ?_
    refine mv_iload_n (pc := 65) B d_Exprs_join_65 rfl 0 rfl ?_
    refine mv_dup2_11 (pc := 66) B d_Exprs_join_66 rfl rfl ?_
    refine mv_iald (pc := 67) B rfl (i32_in (by rw [p9]; omega) (by rw [p9]; omega)) d_Exprs_join_67 ?_
    refine mv_iconst (pc := 68) (v := 1) B d_Exprs_join_68 (by decide) ?_
    refine mv_iadd (pc := 69) B d_Exprs_join_69 ?_
    refine mv_iast (pc := 70) B rfl (i32_in (by rw [p9]; omega) (by rw [p9]; omega)) d_Exprs_join_70 ?_
    refine mv_gen (fun S71 eS71 => ?_)
    have hR : Rw 32 (mv_r S71) := by rw [eS71]; exact hR
    have hF : RF 32 σ S71 := by rw [eS71]; exact hF.row ⟨by omega, by omega⟩ _ _
    have hX : XM 32 th e0 bs BL f0 g0 ns S71 (((123, w8 + 1) : Mk) :: ms) (sm wt ms + 1) (sm wr ms + 1) (s1) := by rw [eS71, p9, pw]; exact hX.with hP p2 (by decide)
    have t7 := Eq.trans (congrArg Int32.toInt (show mv_i S71 3 7 = mv_i _ 3 7 by rw [eS71]; rfl)) t7
    have t8 := Eq.trans (congrArg Int32.toInt (show mv_i S71 3 8 = mv_i _ 3 8 by rw [eS71]; rfl)) t8
    have t9 := Eq.trans (congrArg Int32.toInt (show mv_i S71 3 9 = mv_i _ 3 9 by rw [eS71]; rfl)) t9
    have kp := Eq.trans (show mv_a S71 4 = mv_a _ 4 by rw [eS71]; rfl) kp
    have e7 : (mv_i S71 3 7).toNatClampNeg = (mv_i σ 3 7).toNatClampNeg := by have := i32_cl (x := mv_i S71 3 7) (by omega); have := i32_cl (x := mv_i σ 3 7) (by omega); omega
    clear eS71
    refine mv_iload_n (pc := 71) B d_Exprs_join_71 rfl 2 rfl ?_
    refine mv_bipush (pc := 72) (v := 44) B d_Exprs_join_72 (by decide) ?_
    refine mv_icmp_ne (pc := 74) (tgt := 89) B d_Exprs_join_74 rfl (fun h74 => ?_) (fun h74 => ?_)
    · skip
      refine mv_aload_n (pc := 89) B d_Exprs_join_89 rfl 1 rfl ?_
      refine mv_getR (pc := 90) (ci := 6) (C := R_Exprs) (T := F_Exprs) (N := 11) B 0 rfl rfl (by decide) i_Exprs (B.2.2.2.1 _ k_193) rfl (hR.1 _ 0 _ rfl) d_Exprs_join_90 ?_
      refine mv_bipush (pc := 93) (v := 125) B d_Exprs_join_93 (by decide) ?_
      refine mv_callVi (pc := 95) (n := 1) (ci := 2) (C := R_Tokens) B (mK_ok sk sv) hNs rfl rfl (c_Tokens_closeN l hi _ _ hR.1 (hB0.rf hF hP ht2).2.1 (by omega) (by omega) (by decide)) rfl (ma_goodc kc_Tokens_close) (B.2.2.2.1 _ k_1468) (B.2.2.2.1 _ k_1397) (B.2.2.2.1 _ k_1398) (B.2.2.2.1 _ k_3) ⟨by decide +kernel, by decide +kernel, by decide +kernel⟩ rfl d_Exprs_join_95 rfl (Nat.le_of_ble_eq_true rfl) ⟨by decide, by decide⟩ ⟨by decide, by decide⟩ ⟨by decide, by decide⟩ (mv_noH hno _) (fun v95 σ95 h95 => ?_)
      obtain ⟨a95, w95, e95, r95⟩ := h95
      have q95 := r95.1
      have z95 := fun q => (r95.2.1 q).1
      have y95 := And.intro r95.2.2.2.1 r95.2.2.2.2.1
      subst e95
      have hw95 := r95.2.2.1 (by rw [t9]; exact hw9) (by rw [kp, e7]; exact hk3.trans (hkd.resolve_left h74)) trivial
      refine mv_gen (fun S98 eS98 => ?_)
      have hR : Rw 32 (mv_r S98) := by rw [eS98]; exact hR
      have hF : RF 32 σ S98 := by rw [eS98]; exact hF.tk3 _ _ _
      have hX : XM 32 th e0 bs BL f0 g0 ns S98 (((123, w8 + 1) : Mk) :: ms) (sm wt ms + 1) (sm wr ms + 1) (s1) := by rw [eS98]; exact hX.tk3 hP _ _ _
      have t7 : (mv_i S98 3 7).toInt = a95.toInt := by rw [eS98]; rfl
      have t8 : (mv_i S98 3 8).toInt = (mv_i σ 3 8).toInt - 1 := by rw [eS98]; first | exact t8 | exact (sub_one (by omega)).trans (by omega) | exact (i32_inc (by omega)).trans (by omega)
      have t9 : (mv_i S98 3 9).toInt = w95.toInt := by rw [eS98]; rfl
      have kS98 : mv_a S98 4 = mv_a σ 4 := by rw [eS98]; first | rfl | exact kp
      have kp := kS98
      clear eS98
      refine mv_pop (pc := 98) B d_Exprs_join_98 rfl ?_
      refine mv_aload_n (pc := 99) B d_Exprs_join_99 rfl 1 rfl ?_
      refine mv_dup (pc := 100) B d_Exprs_join_100 rfl ?_
      refine mv_getI (pc := 101) (ci := 6) (C := R_Exprs) (T := F_Exprs) (N := 11) B 8 rfl rfl (by decide) i_Exprs (B.2.2.2.1 _ k_202) rfl d_Exprs_join_101 ?_
      refine mv_iconst (pc := 104) (v := 1) B d_Exprs_join_104 (by decide) ?_
      refine mv_isub (pc := 105) B d_Exprs_join_105 ?_
      refine mv_putI (pc := 106) (ci := 6) (C := R_Exprs) (T := F_Exprs) (N := 11) B 8 rfl rfl (by decide) i_Exprs t_Exprs_ok n_Exprs (B.2.2.2.1 _ k_202) rfl rfl rfl rfl d_Exprs_join_106 ?_
      refine mv_gen (fun S109 eS109 => ?_)
      have hR : Rw 32 (mv_r S109) := by rw [eS109]; exact hR
      have hF : RF 32 σ S109 := by rw [eS109]; exact hF.pop
      have hX : XM 32 th e0 bs BL f0 g0 ns S109 (ms) (sm wt ms + 1) (sm wr ms + 1) (s1) := by rw [eS109]; exact hX.pop hP ⟨show ¬ (123 : Int32) = 63 by decide, show ¬ (123 : Int32) = 58 by decide⟩
      have t7 := Eq.trans (congrArg Int32.toInt (show mv_i S109 3 7 = mv_i _ 3 7 by rw [eS109]; rfl)) t7
      have t8 := Eq.trans (congrArg Int32.toInt (show mv_i S109 3 8 = mv_i _ 3 8 by rw [eS109]; rfl)) t8
      have t9 := Eq.trans (congrArg Int32.toInt (show mv_i S109 3 9 = mv_i _ 3 9 by rw [eS109]; rfl)) t9
      have kp := Eq.trans (show mv_a S109 4 = mv_a _ 4 by rw [eS109]; rfl) kp
      clear eS109
      refine mv_aload_n (pc := 109) B d_Exprs_join_109 rfl 1 rfl ?_
      refine mv_callVi (pc := 110) (n := 0) (ci := 6) (C := R_Exprs) B (mK_ok sk sv) hNs rfl rfl (c_Exprs_release l hi _ hR.1 (by have := hX.1.2.2.1; omega) (by have := hX.1.2.2.1; omega)) rfl (ma_goodc kc_Exprs_release) (B.2.2.2.1 _ k_1469) (B.2.2.2.1 _ k_1470) (B.2.2.2.1 _ k_1471) (B.2.2.2.1 _ k_7) ⟨by decide +kernel, by decide +kernel, by decide +kernel⟩ rfl d_Exprs_join_110 rfl (Nat.le_of_ble_eq_true rfl) ⟨by decide, by decide⟩ ⟨by decide, by decide⟩ ⟨by decide, by decide⟩ (mv_noH hno _) (fun v110 σ110 h110 => ?_)
      subst h110
      refine mv_gen (fun S113 eS113 => ?_)
      have hR : Rw 32 (mv_r S113) := by rw [eS113]; exact hR
      have hF : RF 32 σ S113 := by rw [eS113]; exact hF.rel
      have hX : XM 32 th e0 bs BL f0 g0 ns S113 (ms) (sm wt ms) (sm wr ms + 1) (s1) := by rw [eS113]; exact hX.rel hP
      have t7 := Eq.trans (congrArg Int32.toInt (show mv_i S113 3 7 = mv_i _ 3 7 by rw [eS113]; rfl)) t7
      have t8 := Eq.trans (congrArg Int32.toInt (show mv_i S113 3 8 = mv_i _ 3 8 by rw [eS113]; rfl)) t8
      have t9 := Eq.trans (congrArg Int32.toInt (show mv_i S113 3 9 = mv_i _ 3 9 by rw [eS113]; rfl)) t9
      have kp := Eq.trans (show mv_a S113 4 = mv_a _ 4 by rw [eS113]; rfl) kp
      have hk9 := hX.tok (i := (mv_i S113 22 8).toNatClampNeg) (by have := hX.n; omega)
      clear eS113
      refine mv_istore_n (pc := 113) B d_Exprs_join_113 rfl (by decide) rfl ?_
      refine mv_iload_n (pc := 114) B d_Exprs_join_114 rfl 0 rfl ?_
      refine mv_bipush (pc := 115) (v := 64) B d_Exprs_join_115 (by decide) ?_
      refine mv_icmp_le (pc := 117) (tgt := 136) B d_Exprs_join_117 rfl (fun h117 => ?_) (fun h117 => ?_)
      · skip
        refine mv_aload_n (pc := 136) B d_Exprs_join_136 rfl 2 rfl ?_
        refine mv_iload_n (pc := 137) B d_Exprs_join_137 rfl 0 rfl ?_
        refine mv_callVv (pc := 138) (n := 1) (ci := 6) (C := R_Exprs) B (mK_ok sk sv) hNs rfl rfl (c_Exprs_hold l hi _ _ hR.1 (by have := hX.1.2.2.1; omega) (by have := hX.1.2.2.1; omega)) rfl (ma_goodc kc_Exprs_hold) (B.2.2.2.1 _ k_1432) (B.2.2.2.1 _ k_1434) (B.2.2.2.1 _ ks_51) (B.2.2.2.1 _ k_7) ⟨by decide +kernel, by decide +kernel, by decide +kernel⟩ rfl d_Exprs_join_138 rfl (Nat.le_of_ble_eq_true rfl) ⟨by decide, by decide⟩ ⟨by decide, by decide⟩ ⟨by decide, by decide⟩ (mv_noH hno _) (fun σ138 h138 => ?_)
        subst h138
        refine mv_gen (fun S141 eS141 => ?_)
        have hR : Rw 32 (mv_r S141) := by rw [eS141]; exact hR
        have hF : RF 32 σ S141 := by rw [eS141]; exact hF.hold _
        have hX : XM 32 th e0 bs BL f0 g0 ns S141 (ms) (sm wt ms + 1) (sm wr ms + 1) (s1) := by rw [eS141]; exact hX.hold hP (by omega) _
        have t7 := Eq.trans (congrArg Int32.toInt (show mv_i S141 3 7 = mv_i _ 3 7 by rw [eS141]; rfl)) t7
        have t8 := Eq.trans (congrArg Int32.toInt (show mv_i S141 3 8 = mv_i _ 3 8 by rw [eS141]; rfl)) t8
        have t9 := Eq.trans (congrArg Int32.toInt (show mv_i S141 3 9 = mv_i _ 3 9 by rw [eS141]; rfl)) t9
        have kp := Eq.trans (show mv_a S141 4 = mv_a _ 4 by rw [eS141]; rfl) kp
        have hend : 0 ≤ (mv_i S141 3 9).toInt ∨ ∃ ms2 s2 a2, a < a2 ∧ XM 32 th e0 bs BL f0 g0 ns S141 (ms2) (sm wt ms2 + (1 : Int32).toNatClampNeg) (sm wr ms2 + (1 : Int32).toNatClampNeg) (s2) ∧ TI S141 sz bd ms2 s2 a2 := Or.inr ⟨ms, s1, a + 1, by omega, hX, by omega, by omega, by omega, by omega, by omega, by omega, hWm.tail.up (by omega)⟩
        clear eS141
        refine mv_iconst (pc := 141) (v := 1) B d_Exprs_join_141 (by decide) ?_
        exact mv_iret (pc := 142) B hr rfl d_Exprs_join_142 (Nat.le_refl _) (Nat.le_refl _) ⟨_, rfl, hF, hX.1.2.2.2.1, Or.inr rfl, hend⟩
      · skip
        refine mv_aload_n (pc := 120) B d_Exprs_join_120 rfl 2 rfl ?_
        refine mv_aload_n (pc := 121) B d_Exprs_join_121 rfl 2 rfl ?_
        refine mv_getR (pc := 122) (ci := 6) (C := R_Exprs) (T := F_Exprs) (N := 11) B 5 rfl rfl (by decide) i_Exprs (B.2.2.2.1 _ k_199) rfl (hR.1 _ 5 _ rfl) d_Exprs_join_122 ?_
        refine mv_aload_n (pc := 125) B d_Exprs_join_125 rfl 2 rfl ?_
        refine mv_getI (pc := 126) (ci := 6) (C := R_Exprs) (T := F_Exprs) (N := 11) B 8 rfl rfl (by decide) i_Exprs (B.2.2.2.1 _ k_202) rfl d_Exprs_join_126 ?_
        refine mv_iald (pc := 129) B rfl (i32_in (show 0 ≤ (mv_i S113 22 8).toInt by have := hX.1.1; omega) (show (mv_i S113 22 8).toInt < 1024 by have := hX.1.1; omega)) d_Exprs_join_129 ?_
        refine mv_iconst (pc := 130) (v := 4) B d_Exprs_join_130 (by decide) ?_
        refine mv_callVv (pc := 131) (n := 2) (ci := 6) (C := R_Exprs) B (mK_ok sk sv) hNs rfl rfl (c_Exprs_tell l hi _ _ _ hR.1 hk9.1 hk9.2 (by decide)) rfl (ma_goodc kc_Exprs_tell) (B.2.2.2.1 _ k_1427) (B.2.2.2.1 _ k_1429) (B.2.2.2.1 _ ks_50) (B.2.2.2.1 _ k_7) ⟨by decide +kernel, by decide +kernel, by decide +kernel⟩ rfl d_Exprs_join_131 rfl (Nat.le_of_ble_eq_true rfl) ⟨by decide, by decide⟩ ⟨by decide, by decide⟩ ⟨by decide, by decide⟩ (mv_noH hno _) (fun σ131 h131 => ?_)
        obtain ⟨x9, y9, e131, z131⟩ := h131
        subst e131
        refine mv_gen (fun S134 eS134 => ?_)
        have hR : Rw 32 (mv_r S134) := by rw [eS134]; exact hR
        have hF : RF 32 σ S134 := by rw [eS134]; exact hF.tell _ _
        have hX : XM 32 th e0 bs BL f0 g0 ns S134 (ms) (sm wt ms) (sm wr ms + 1) (s1) := by rw [eS134]; exact hX.tell hP z131 _ _
        have t7 := Eq.trans (congrArg Int32.toInt (show mv_i S134 3 7 = mv_i _ 3 7 by rw [eS134]; rfl)) t7
        have t8 := Eq.trans (congrArg Int32.toInt (show mv_i S134 3 8 = mv_i _ 3 8 by rw [eS134]; rfl)) t8
        have t9 := Eq.trans (congrArg Int32.toInt (show mv_i S134 3 9 = mv_i _ 3 9 by rw [eS134]; rfl)) t9
        have kp := Eq.trans (show mv_a S134 4 = mv_a _ 4 by rw [eS134]; rfl) kp
        clear eS134
        refine mv_iconst (pc := 134) (v := 0) B d_Exprs_join_134 (by decide) ?_
        refine mv_istore_n (pc := 135) B d_Exprs_join_135 rfl (by decide) rfl ?_
        refine mv_aload_n (pc := 136) B d_Exprs_join_136 rfl 2 rfl ?_
        refine mv_iload_n (pc := 137) B d_Exprs_join_137 rfl 0 rfl ?_
        refine mv_callVv (pc := 138) (n := 1) (ci := 6) (C := R_Exprs) B (mK_ok sk sv) hNs rfl rfl (c_Exprs_hold l hi _ _ hR.1 (by have := hX.1.2.2.1; omega) (by have := hX.1.2.2.1; omega)) rfl (ma_goodc kc_Exprs_hold) (B.2.2.2.1 _ k_1432) (B.2.2.2.1 _ k_1434) (B.2.2.2.1 _ ks_51) (B.2.2.2.1 _ k_7) ⟨by decide +kernel, by decide +kernel, by decide +kernel⟩ rfl d_Exprs_join_138 rfl (Nat.le_of_ble_eq_true rfl) ⟨by decide, by decide⟩ ⟨by decide, by decide⟩ ⟨by decide, by decide⟩ (mv_noH hno _) (fun σ138 h138 => ?_)
        subst h138
        refine mv_gen (fun S141 eS141 => ?_)
        have hR : Rw 32 (mv_r S141) := by rw [eS141]; exact hR
        have hF : RF 32 σ S141 := by rw [eS141]; exact hF.hold _
        have hX : XM 32 th e0 bs BL f0 g0 ns S141 (ms) (sm wt ms + 1) (sm wr ms + 1) (s1) := by rw [eS141]; exact hX.hold hP (by omega) _
        have t7 := Eq.trans (congrArg Int32.toInt (show mv_i S141 3 7 = mv_i _ 3 7 by rw [eS141]; rfl)) t7
        have t8 := Eq.trans (congrArg Int32.toInt (show mv_i S141 3 8 = mv_i _ 3 8 by rw [eS141]; rfl)) t8
        have t9 := Eq.trans (congrArg Int32.toInt (show mv_i S141 3 9 = mv_i _ 3 9 by rw [eS141]; rfl)) t9
        have kp := Eq.trans (show mv_a S141 4 = mv_a _ 4 by rw [eS141]; rfl) kp
        have hend : 0 ≤ (mv_i S141 3 9).toInt ∨ ∃ ms2 s2 a2, a < a2 ∧ XM 32 th e0 bs BL f0 g0 ns S141 (ms2) (sm wt ms2 + (1 : Int32).toNatClampNeg) (sm wr ms2 + (1 : Int32).toNatClampNeg) (s2) ∧ TI S141 sz bd ms2 s2 a2 := Or.inr ⟨ms, s1, a + 1, by omega, hX, by omega, by omega, by omega, by omega, by omega, by omega, hWm.tail.up (by omega)⟩
        clear eS141
        refine mv_iconst (pc := 141) (v := 1) B d_Exprs_join_141 (by decide) ?_
        exact mv_iret (pc := 142) B hr rfl d_Exprs_join_142 (Nat.le_refl _) (Nat.le_refl _) ⟨_, rfl, hF, hX.1.2.2.2.1, Or.inr rfl, hend⟩
    · skip
      refine mv_aload_n (pc := 77) B d_Exprs_join_77 rfl 1 rfl ?_
      refine mv_getR (pc := 78) (ci := 6) (C := R_Exprs) (T := F_Exprs) (N := 11) B 0 rfl rfl (by decide) i_Exprs (B.2.2.2.1 _ k_193) rfl (hR.1 _ 0 _ rfl) d_Exprs_join_78 ?_
      refine mv_bipush (pc := 81) (v := 44) B d_Exprs_join_81 (by decide) ?_
      refine mv_callVi (pc := 83) (n := 1) (ci := 2) (C := R_Tokens) B (mK_ok sk sv) hNs rfl rfl (c_Tokens_takeN l hi _ _ hR.1 (hB0.rf hF hP ht2).2.1 (by omega) (by omega) (by decide)) rfl (ma_goodc kc_Tokens_take) (B.2.2.2.1 _ k_1424) (B.2.2.2.1 _ k_1267) (B.2.2.2.1 _ k_1268) (B.2.2.2.1 _ k_3) ⟨by decide +kernel, by decide +kernel, by decide +kernel⟩ rfl d_Exprs_join_83 rfl (Nat.le_of_ble_eq_true rfl) ⟨by decide, by decide⟩ ⟨by decide, by decide⟩ ⟨by decide, by decide⟩ (mv_noH hno _) (fun v83 σ83 h83 => ?_)
      obtain ⟨a83, w83, e83, r83⟩ := h83
      have q83 := r83.1
      have z83 := fun q => (r83.2.1 q).1
      have y83 := And.intro r83.2.2.2.1 r83.2.2.2.2.1
      subst e83
      have hw83 := r83.2.2.1 (by rw [t9]; exact hw9) (by rw [kp, e7]; exact hk3.trans h74) trivial
      refine mv_gen (fun S86 eS86 => ?_)
      have hR : Rw 32 (mv_r S86) := by rw [eS86]; exact hR
      have hF : RF 32 σ S86 := by rw [eS86]; exact hF.tk3 _ _ _
      have hX : XM 32 th e0 bs BL f0 g0 ns S86 (((123, w8 + 1) : Mk) :: ms) (sm wt ms + 1) (sm wr ms + 1) (s1) := by rw [eS86]; exact hX.tk3 hP _ _ _
      have t7 : (mv_i S86 3 7).toInt = a83.toInt := by rw [eS86]; rfl
      have t8 : (mv_i S86 3 8).toInt = (mv_i σ 3 8).toInt := by rw [eS86]; first | exact t8 | exact (sub_one (by omega)).trans (by omega) | exact (i32_inc (by omega)).trans (by omega)
      have t9 : (mv_i S86 3 9).toInt = w83.toInt := by rw [eS86]; rfl
      have kS86 : mv_a S86 4 = mv_a σ 4 := by rw [eS86]; first | rfl | exact kp
      have kp := kS86
      have y1 : sm wt (((123, w8 + 1) : Mk) :: ms) = wt (123, w8 + 1) + sm wt ms := rfl
      have y2 : sm wr (((123, w8 + 1) : Mk) :: ms) = wr (123, w8 + 1) + sm wr ms := rfl
      have y3 : sm wd (((123, w8 + 1) : Mk) :: ms) = wd (123, w8 + 1) + sm wd ms := rfl
      have y4 : sm wc (((123, w8 + 1) : Mk) :: ms) = wc (123, w8 + 1) + sm wc ms := rfl
      have x1 : wt (123, w8 + 1) = 1 := if_neg hw0
      have x2 : wr (123, w8 + 1) = 1 := if_neg hw0
      have x3 : wd (123, w8 + 1) = 1 := rfl
      have x4 : wc (123, w8 + 1) = 0 := rfl
      have hend : 0 ≤ (mv_i S86 3 9).toInt ∨ ∃ ms2 s2 a2, a < a2 ∧ XM 32 th e0 bs BL f0 g0 ns S86 (ms2) (sm wt ms2 + (0 : Int32).toNatClampNeg) (sm wr ms2 + (0 : Int32).toNatClampNeg) (s2) ∧ TI S86 sz bd ms2 s2 a2 := by
        refine Or.inr ⟨((123, w8 + 1) : Mk) :: ms, s1, a + 1, by omega, ?_, by omega, by omega, by omega, by omega, by omega, by omega, (hWm.tail.up (by omega)).cons (fun _ => ⟨by show 0 ≤ (w8 + 1).toInt; omega, by show (w8 + 1).toInt ≤ ((a + 1 : Nat) : Int); omega⟩)⟩
        rw [y1, y2, x1, x2, Nat.add_comm 1, Nat.add_comm 1]
        exact hX
      clear eS86
      refine mv_pop (pc := 86) B d_Exprs_join_86 rfl ?_
      refine mv_iconst (pc := 87) (v := 0) B d_Exprs_join_87 (by decide) ?_
      exact mv_iret (pc := 88) B hr rfl d_Exprs_join_88 (Nat.le_refl _) (Nat.le_refl _) ⟨_, rfl, hF, hX.1.2.2.2.1, Or.inl rfl, hend⟩
  refine mv_aload_n (pc := 0) B d_Exprs_join_0 rfl 0 rfl ?_
  refine mv_getI (pc := 1) (ci := 6) (C := R_Exprs) (T := F_Exprs) (N := 11) B 8 rfl rfl (by decide) i_Exprs (B.2.2.2.1 _ k_202) rfl d_Exprs_join_1 ?_
  refine mv_iconst (pc := 4) (v := 1) B d_Exprs_join_4 (by decide) ?_
  refine mv_isub (pc := 5) B d_Exprs_join_5 ?_
  refine mv_istore_n (pc := 6) B d_Exprs_join_6 rfl (by decide) rfl ?_
  refine mv_aload_n (pc := 7) B d_Exprs_join_7 rfl 1 rfl ?_
  refine mv_getR (pc := 8) (ci := 6) (C := R_Exprs) (T := F_Exprs) (N := 11) B 6 rfl rfl (by decide) i_Exprs (B.2.2.2.1 _ k_200) rfl (hR.1 _ 6 _ rfl) d_Exprs_join_8 ?_
  refine mv_iload_n (pc := 11) B d_Exprs_join_11 rfl 0 rfl ?_
  refine mv_iald (pc := 12) B rfl (i32_in (by omega) (by omega)) d_Exprs_join_12 ?_
  rw [p4]
  refine mv_if_le (pc := 13) (tgt := 61) B d_Exprs_join_13 rfl (fun h13 => ?_) (fun h13 => ?_)
  · skip
    rw [Int32.le_iff_toInt_le] at h13
    simp only [Int32.reduceToInt] at h13
    have w0 : w8 = 0 := Int32.toInt_inj.mp (by show w8.toInt = 0; omega)
    have x5 : wt (123, w8) = 0 := if_pos w0
    have x6 : wr (123, w8) = 0 := if_pos w0
    rw [g1, g2, x5, x6, Nat.zero_add, Nat.zero_add] at hX
    have hs1 : s0 ≤ s0 + 1 := Nat.le_succ _
    have ht9 : mv_i σ 22 8 - 1 = mv_i σ 22 8 - 1 := rfl
    refine mv_lpick [0, 1, 2] rfl ?_
    exact j61 _ _ _ hR hF hX hs1 t7 t8 t9 kp ht9
  · skip
    rw [Int32.le_iff_toInt_le] at h13
    simp only [Int32.reduceToInt] at h13
    have w0 : ¬ w8 = 0 := fun q => by rw [q] at h13; exact h13 (by decide)
    have x5 : wt (123, w8) = 1 := if_neg w0
    have x6 : wr (123, w8) = 1 := if_neg w0
    rw [g1, g2, x5, x6, show 1 + sm wt ms + 1 = sm wt ms + 1 + 1 by omega, show 1 + sm wr ms + 1 = sm wr ms + 2 by omega] at hX
    have m22 : mv_i σ 22 8 = mv_i σ 22 8 := rfl
    refine mv_aload_n (pc := 16) B d_Exprs_join_16 rfl 1 rfl ?_
    refine mv_callVi (pc := 17) (n := 0) (ci := 6) (C := R_Exprs) B (mK_ok sk sv) hNs rfl rfl (c_Exprs_release l hi _ hR.1 (by have := hX.1.2.2.1; omega) (by have := hX.1.2.2.1; omega)) rfl (ma_goodc kc_Exprs_release) (B.2.2.2.1 _ k_1469) (B.2.2.2.1 _ k_1470) (B.2.2.2.1 _ k_1471) (B.2.2.2.1 _ k_7) ⟨by decide +kernel, by decide +kernel, by decide +kernel⟩ rfl d_Exprs_join_17 rfl (Nat.le_of_ble_eq_true rfl) ⟨by decide, by decide⟩ ⟨by decide, by decide⟩ ⟨by decide, by decide⟩ (mv_noH hno _) (fun v17 σ17 h17 => ?_)
    subst h17
    refine mv_gen (fun S20 eS20 => ?_)
    have hR : Rw 32 (mv_r S20) := by rw [eS20]; exact hR
    have hF : RF 32 σ S20 := by rw [eS20]; exact hF.rel
    have hX : XM 32 th e0 bs BL f0 g0 ns S20 (((123, w8) : Mk) :: ms) (sm wt ms + 1) (sm wr ms + 2) (s0) := by rw [eS20]; exact hX.rel hP
    have t7 : (mv_i S20 3 7).toInt = a := by rw [eS20]; exact t7
    have t8 : (mv_i S20 3 8).toInt = (mv_i σ 3 8).toInt := by rw [eS20]; exact t8
    have t9 : (mv_i S20 3 9).toInt = (mv_i σ 3 9).toInt := by rw [eS20]; exact t9
    have kp : mv_a S20 4 = mv_a σ 4 := by rw [eS20]; exact kp
    have m22 : mv_i S20 22 8 = mv_i σ 22 8 := by rw [eS20]; exact m22
    clear eS20
    refine mv_istore_n (pc := 20) B d_Exprs_join_20 rfl (by decide) rfl ?_
    refine mv_aload_n (pc := 21) B d_Exprs_join_21 rfl 2 rfl ?_
    refine mv_callVi (pc := 22) (n := 0) (ci := 6) (C := R_Exprs) B (mK_ok sk sv) hNs rfl rfl (c_Exprs_release l hi _ hR.1 (by have := hX.1.2.2.1; omega) (by have := hX.1.2.2.1; omega)) rfl (ma_goodc kc_Exprs_release) (B.2.2.2.1 _ k_1469) (B.2.2.2.1 _ k_1470) (B.2.2.2.1 _ k_1471) (B.2.2.2.1 _ k_7) ⟨by decide +kernel, by decide +kernel, by decide +kernel⟩ rfl d_Exprs_join_22 rfl (Nat.le_of_ble_eq_true rfl) ⟨by decide, by decide⟩ ⟨by decide, by decide⟩ ⟨by decide, by decide⟩ (mv_noH hno _) (fun v22 σ22 h22 => ?_)
    subst h22
    refine mv_gen (fun S25 eS25 => ?_)
    have hR : Rw 32 (mv_r S25) := by rw [eS25]; exact hR
    have hF : RF 32 σ S25 := by rw [eS25]; exact hF.rel
    have hX : XM 32 th e0 bs BL f0 g0 ns S25 (((123, w8) : Mk) :: ms) (sm wt ms) (sm wr ms + 2) (s0) := by rw [eS25]; exact hX.rel hP
    have t7 : (mv_i S25 3 7).toInt = a := by rw [eS25]; exact t7
    have t8 : (mv_i S25 3 8).toInt = (mv_i σ 3 8).toInt := by rw [eS25]; exact t8
    have t9 : (mv_i S25 3 9).toInt = (mv_i σ 3 9).toInt := by rw [eS25]; exact t9
    have kp : mv_a S25 4 = mv_a σ 4 := by rw [eS25]; exact kp
    have m22 : mv_i S25 22 8 = mv_i σ 22 8 := by rw [eS25]; exact m22
    clear eS25
    refine mv_istore (pc := 25) B d_Exprs_join_25 (by decide) rfl ?_
    refine mv_aload_n (pc := 27) B d_Exprs_join_27 rfl 3 rfl ?_
    refine mv_getR (pc := 28) (ci := 6) (C := R_Exprs) (T := F_Exprs) (N := 11) B 3 rfl rfl (by decide) i_Exprs (B.2.2.2.1 _ k_197) rfl hR.2.2.2 d_Exprs_join_28 ?_
    refine mv_sipush (pc := 31) (v := 309) B d_Exprs_join_31 (by decide) ?_
    refine mv_iload_n (pc := 34) B d_Exprs_join_34 rfl 1 rfl ?_
    refine mv_i2l (pc := 35) B d_Exprs_join_35 ?_
    refine mv_callVi (pc := 36) (n := 2) (ci := 7) (C := R_Program) B (mK_ok sk sv) hNs rfl rfl (c_Program_emit_a l hi _ _ _ hR.2.1 (by have := hX.2.1.1; omega) (by have := hX.2.1.1; omega)) rfl (ma_goodc kc_Program_emit) (B.2.2.2.1 _ k_1425) (B.2.2.2.1 _ k_1385) (B.2.2.2.1 _ k_1386) (B.2.2.2.1 _ k_8) ⟨by decide +kernel, by decide +kernel, by decide +kernel⟩ rfl d_Exprs_join_36 rfl (Nat.le_of_ble_eq_true rfl) ⟨by decide, by decide⟩ ⟨by decide, by decide⟩ ⟨by decide, by decide⟩ (mv_noH hno _) (fun v36 σ36 h36 => ?_)
    obtain ⟨e36, -⟩ := h36
    subst e36
    refine mv_gen (fun S39 eS39 => ?_)
    have hR : Rw 32 (mv_r S39) := by rw [eS39]; exact hR
    have hF : RF 32 σ S39 := by rw [eS39]; exact hF.emit _ _
    have hX : XM 32 th e0 bs BL f0 g0 ns S39 (((123, w8) : Mk) :: ms) (sm wt ms) (sm wr ms + 1) (s0 + 1) := by rw [eS39]; exact hX.emit0 hP (by omega) (sm wr ms + 1) (by decide) (by decide) (Op1_join th _ (bs + sm wr ms)) (by omega)
    have t7 : (mv_i S39 3 7).toInt = a := by rw [eS39]; exact t7
    have t8 : (mv_i S39 3 8).toInt = (mv_i σ 3 8).toInt := by rw [eS39]; exact t8
    have t9 : (mv_i S39 3 9).toInt = (mv_i σ 3 9).toInt := by rw [eS39]; exact t9
    have kp : mv_a S39 4 = mv_a σ 4 := by rw [eS39]; exact kp
    have m22 : mv_i S39 22 8 = mv_i σ 22 8 := by rw [eS39]; exact m22
    clear eS39
    refine mv_pop (pc := 39) B d_Exprs_join_39 rfl ?_
    refine mv_aload_n (pc := 40) B d_Exprs_join_40 rfl 3 rfl ?_
    refine mv_iload (pc := 41) B d_Exprs_join_41 0 rfl ?_
    refine mv_if_eq (pc := 43) (tgt := 50) B d_Exprs_join_43 rfl (fun h43 => ?_) (fun h43 => ?_)
    · skip
      refine mv_iconst (pc := 50) (v := 0) B d_Exprs_join_50 (by decide) ?_
      refine mv_goto (pc := 51) (tgt := 58) B d_Exprs_join_51 rfl ?_
      refine mv_callVv (pc := 58) (n := 1) (ci := 6) (C := R_Exprs) B (mK_ok sk sv) hNs rfl rfl (c_Exprs_hold l hi _ _ hR.1 (by have := hX.1.2.2.1; omega) (by have := hX.1.2.2.1; omega)) rfl (ma_goodc kc_Exprs_hold) (B.2.2.2.1 _ k_1432) (B.2.2.2.1 _ k_1434) (B.2.2.2.1 _ ks_51) (B.2.2.2.1 _ k_7) ⟨by decide +kernel, by decide +kernel, by decide +kernel⟩ rfl d_Exprs_join_58 rfl (Nat.le_of_ble_eq_true rfl) ⟨by decide, by decide⟩ ⟨by decide, by decide⟩ ⟨by decide, by decide⟩ (mv_noH hno _) (fun σ58 h58 => ?_)
      subst h58
      refine mv_gen (fun S61 eS61 => ?_)
      have hR : Rw 32 (mv_r S61) := by rw [eS61]; exact hR
      have hF : RF 32 σ S61 := by rw [eS61]; exact hF.hold _
      have hX : XM 32 th e0 bs BL f0 g0 ns S61 (((123, w8) : Mk) :: ms) (sm wt ms + 1) (sm wr ms + 1) (s0 + 1) := by rw [eS61]; exact hX.hold hP (by omega) _
      have t7 : (mv_i S61 3 7).toInt = a := by rw [eS61]; exact t7
      have t8 : (mv_i S61 3 8).toInt = (mv_i σ 3 8).toInt := by rw [eS61]; exact t8
      have t9 : (mv_i S61 3 9).toInt = (mv_i σ 3 9).toInt := by rw [eS61]; exact t9
      have kp : mv_a S61 4 = mv_a σ 4 := by rw [eS61]; exact kp
      have m22 : mv_i S61 22 8 = mv_i σ 22 8 := by rw [eS61]; exact m22
      clear eS61
      have hs1 : s0 + 1 ≤ s0 + 1 := Nat.le_refl _
      have ht9 : mv_i σ 22 8 - 1 = mv_i S61 22 8 - 1 := by rw [m22]
      refine mv_lpick [2, 3, 4] rfl ?_
      exact j61 _ _ _ hR hF hX hs1 t7 t8 t9 kp ht9
    · skip
      refine mv_iload_n (pc := 46) B d_Exprs_join_46 rfl 1 rfl ?_
      refine mv_if_ne (pc := 47) (tgt := 54) B d_Exprs_join_47 rfl (fun h47 => ?_) (fun h47 => ?_)
      · skip
        refine mv_iload (pc := 54) B d_Exprs_join_54 0 rfl ?_
        refine mv_iload_n (pc := 56) B d_Exprs_join_56 rfl 1 rfl ?_
        refine mv_iadd (pc := 57) B d_Exprs_join_57 ?_
        refine mv_callVv (pc := 58) (n := 1) (ci := 6) (C := R_Exprs) B (mK_ok sk sv) hNs rfl rfl (c_Exprs_hold l hi _ _ hR.1 (by have := hX.1.2.2.1; omega) (by have := hX.1.2.2.1; omega)) rfl (ma_goodc kc_Exprs_hold) (B.2.2.2.1 _ k_1432) (B.2.2.2.1 _ k_1434) (B.2.2.2.1 _ ks_51) (B.2.2.2.1 _ k_7) ⟨by decide +kernel, by decide +kernel, by decide +kernel⟩ rfl d_Exprs_join_58 rfl (Nat.le_of_ble_eq_true rfl) ⟨by decide, by decide⟩ ⟨by decide, by decide⟩ ⟨by decide, by decide⟩ (mv_noH hno _) (fun σ58 h58 => ?_)
        subst h58
        refine mv_gen (fun S61 eS61 => ?_)
        have hR : Rw 32 (mv_r S61) := by rw [eS61]; exact hR
        have hF : RF 32 σ S61 := by rw [eS61]; exact hF.hold _
        have hX : XM 32 th e0 bs BL f0 g0 ns S61 (((123, w8) : Mk) :: ms) (sm wt ms + 1) (sm wr ms + 1) (s0 + 1) := by rw [eS61]; exact hX.hold hP (by omega) _
        have t7 : (mv_i S61 3 7).toInt = a := by rw [eS61]; exact t7
        have t8 : (mv_i S61 3 8).toInt = (mv_i σ 3 8).toInt := by rw [eS61]; exact t8
        have t9 : (mv_i S61 3 9).toInt = (mv_i σ 3 9).toInt := by rw [eS61]; exact t9
        have kp : mv_a S61 4 = mv_a σ 4 := by rw [eS61]; exact kp
        have m22 : mv_i S61 22 8 = mv_i σ 22 8 := by rw [eS61]; exact m22
        clear eS61
        have hs1 : s0 + 1 ≤ s0 + 1 := Nat.le_refl _
        have ht9 : mv_i σ 22 8 - 1 = mv_i S61 22 8 - 1 := by rw [m22]
        refine mv_lpick [2, 3, 4] rfl ?_
        exact j61 _ _ _ hR hF hX hs1 t7 t8 t9 kp ht9
      · skip
        refine mv_iconst (pc := 50) (v := 0) B d_Exprs_join_50 (by decide) ?_
        refine mv_goto (pc := 51) (tgt := 58) B d_Exprs_join_51 rfl ?_
        refine mv_callVv (pc := 58) (n := 1) (ci := 6) (C := R_Exprs) B (mK_ok sk sv) hNs rfl rfl (c_Exprs_hold l hi _ _ hR.1 (by have := hX.1.2.2.1; omega) (by have := hX.1.2.2.1; omega)) rfl (ma_goodc kc_Exprs_hold) (B.2.2.2.1 _ k_1432) (B.2.2.2.1 _ k_1434) (B.2.2.2.1 _ ks_51) (B.2.2.2.1 _ k_7) ⟨by decide +kernel, by decide +kernel, by decide +kernel⟩ rfl d_Exprs_join_58 rfl (Nat.le_of_ble_eq_true rfl) ⟨by decide, by decide⟩ ⟨by decide, by decide⟩ ⟨by decide, by decide⟩ (mv_noH hno _) (fun σ58 h58 => ?_)
        subst h58
        refine mv_gen (fun S61 eS61 => ?_)
        have hR : Rw 32 (mv_r S61) := by rw [eS61]; exact hR
        have hF : RF 32 σ S61 := by rw [eS61]; exact hF.hold _
        have hX : XM 32 th e0 bs BL f0 g0 ns S61 (((123, w8) : Mk) :: ms) (sm wt ms + 1) (sm wr ms + 1) (s0 + 1) := by rw [eS61]; exact hX.hold hP (by omega) _
        have t7 : (mv_i S61 3 7).toInt = a := by rw [eS61]; exact t7
        have t8 : (mv_i S61 3 8).toInt = (mv_i σ 3 8).toInt := by rw [eS61]; exact t8
        have t9 : (mv_i S61 3 9).toInt = (mv_i σ 3 9).toInt := by rw [eS61]; exact t9
        have kp : mv_a S61 4 = mv_a σ 4 := by rw [eS61]; exact kp
        have m22 : mv_i S61 22 8 = mv_i σ 22 8 := by rw [eS61]; exact m22
        clear eS61
        have hs1 : s0 + 1 ≤ s0 + 1 := Nat.le_refl _
        have ht9 : mv_i σ 22 8 - 1 = mv_i S61 22 8 - 1 := by rw [m22]
        refine mv_lpick [2, 3, 4] rfl ?_
        exact j61 _ _ _ hR hF hX hs1 t7 t8 t9 kp ht9
set_option maxHeartbeats 4000000 in
set_option maxRecDepth 100000 in
theorem c_Exprs_join_b (l : Launch) {dA : FieldType → ClassId} {D : va_G} {al : Nat → Nat} {ext : mv_Sh} {sk sv : Nat → Nat} (hi : mv_inj (mg dA D al ext)) (σ : mv_H) (k9 w8 : Int32) {t len n z sz th sl e0 bs ns : Nat} {BL : (Nat → Nat) → Prop} {f0 : Nat → Int32} {g0 : Nat → Int64} {ms : List Mk} {s0 bd a : Nat} (hB0 : SB 48 σ t len n z sz th sl) (ht2 : t = 1 ∨ t = 144) (hX : XM 48 th e0 bs BL f0 g0 ns σ (((123, w8) : Mk) :: ms) (sm wt (((123, w8) : Mk) :: ms) + 1) (sm wr (((123, w8) : Mk) :: ms) + 1) (s0)) (hI : TI σ sz bd (((123, w8) : Mk) :: ms) s0 a) (hlen : len ≤ 32768) (hbs : bs ≤ 1) (hk3 : mv_a σ 4 (mv_i σ 3 7).toNatClampNeg = k9) (hkd : k9 = 44 ∨ k9 = 125) : mv_C l y_Exprs_join (Cond.code y_Exprs_join b_Exprs_join 5 (Option.some Jvm.ClassFile.FieldType.int) :: ma) ({ frames := 3, cells := 0, slots := 0, locals := 63 }) (mg dA D al ext) (mK sk sv) [.ref (al 22), .int k9] σ (mv_Ri (fun v σ1 => RF 48 σ σ1 ∧ Mt (mv_a σ1 24) ∧ (v = 0 ∨ v = 1) ∧ (0 ≤ (mv_i σ1 3 9).toInt ∨ ∃ ms2 s2 a2, a < a2 ∧ XM 48 th e0 bs BL f0 g0 ns σ1 (ms2) (sm wt ms2 + v.toNatClampNeg) (sm wr ms2 + v.toNatClampNeg) (s2) ∧ TI σ1 sz bd ms2 s2 a2))) := by
  refine mv_C.ofV (cc := b_Exprs_join) (nL := 5) (ret := (Option.some Jvm.ClassFile.FieldType.int)) (by decide +kernel) rfl hi (Nat.le_of_ble_eq_true rfl) ?_
  intro p e s m below meth c B hNs hr hnm hno
  have hP : PQ 48 := by unfold PQ; omega
  have hR := hB0.1
  have hF : RF 48 σ σ := RF0
  have hT : mv_i σ 3 = mv_i σ 3 := rfl
  have hsz := hB0.2.1.2.2.2.2.2
  have hsz2 := hB0.2.1.2.2.2.1
  have hI5 := hI.2.2.2.2.1
  have ha9 := hI.2.2.2.2.2.1
  have pl := hI.len hX
  have hm8 := hX.1.1
  have t7 := hI.1
  have hw9 := hI.2.1
  have t9 : (mv_i σ 3 9).toInt = (mv_i σ 3 9).toInt := rfl
  have hd8 := hI.2.2.1
  have hd9 := hI.2.2.2.1
  have hWm := hI.2.2.2.2.2.2
  have kp : mv_a σ 4 = mv_a σ 4 := rfl
  have t8 : (mv_i σ 3 8).toInt = (mv_i σ 3 8).toInt := rfl
  obtain ⟨p1, p2, p3, p4⟩ := hX.top
  have g1 : sm wt (((123, w8) : Mk) :: ms) = wt (123, w8) + sm wt ms := rfl
  have g2 : sm wr (((123, w8) : Mk) :: ms) = wr (123, w8) + sm wr ms := rfl
  have g3 : sm wd (((123, w8) : Mk) :: ms) = wd (123, w8) + sm wd ms := rfl
  have g4 : sm wc (((123, w8) : Mk) :: ms) = wc (123, w8) + sm wc ms := rfl
  have g7 : wd (123, w8) = 1 := rfl
  have g8 : wc (123, w8) = 0 := rfl
  have gl : ((((123, w8)) : Mk) :: ms).length = ms.length + 1 := rfl
  have gw := hWm (123, w8) List.mem_cons_self rfl
  have gw0 : 0 ≤ w8.toInt := gw.1
  have gw1 : w8.toInt ≤ a := gw.2
  have gw2 : (w8 + 1).toInt = w8.toInt + 1 := i32_inc (by omega)
  have hw0 : ¬ w8 + 1 = 0 := fun q => by rw [q] at gw2; have : (0 : Int32).toInt = 0 := rfl; omega
  have j61 : ∀ (υ : mv_H) (s1 : Nat) (tp : Int32) (hR : Rw 48 (mv_r υ)) (hF : RF 48 σ υ) (hX : XM 48 th e0 bs BL f0 g0 ns υ (((123, w8) : Mk) :: ms) (sm wt ms + 1) (sm wr ms + 1) (s1)) (hs1 : s1 ≤ s0 + 1) (t7 : (mv_i υ 3 7).toInt = a) (t8 : (mv_i υ 3 8).toInt = (mv_i σ 3 8).toInt) (t9 : (mv_i υ 3 9).toInt = (mv_i σ 3 9).toInt) (kp : mv_a υ 4 = mv_a σ 4) (htp : tp = mv_i υ 22 8 - 1), mv_V p l e ({ frames := 3, cells := 0, slots := 0, locals := 63 }) s m ([.ref (al 22), .int k9] : List Value).toArray below meth c (mg dA D al ext) 5 0 0 (mv_Q (mg dA D al ext) below s 0 0 (mv_Ri (fun v σ1 => RF 48 σ σ1 ∧ Mt (mv_a σ1 24) ∧ (v = 0 ∨ v = 1) ∧ (0 ≤ (mv_i σ1 3 9).toInt ∨ ∃ ms2 s2 a2, a < a2 ∧ XM 48 th e0 bs BL f0 g0 ns σ1 (ms2) (sm wt ms2 + v.toNatClampNeg) (sm wr ms2 + v.toNatClampNeg) (s2) ∧ TI σ1 sz bd ms2 s2 a2)))) υ 61 [(2, .int tp), (0, .ref (al 22)), (1, .int k9)] [] := by
    intro υ s1 tp hR hF hX hs1 t7 t8 t9 kp htp
    obtain ⟨p1, p2, p3, p4⟩ := hX.top
    have p9 : tp.toNatClampNeg = (mv_i υ 22 8 - 1).toNatClampNeg := by rw [htp]
    have p8 : tp.toInt = (mv_i υ 22 8 - 1).toInt := by rw [htp]
    have p9 : tp = mv_i υ 22 8 - 1 := htp
    have pw : mv_a υ 25 (mv_i υ 22 8 - 1).toNatClampNeg + 1 = w8 + 1 := by rw [p4]
    refine mv_aload_n (pc := 61) B d_Exprs_join_61 rfl 1 rfl ?_
    refine mv_getR (pc := 62) (ci := 6) (C := R_Exprs) (T := F_Exprs) (N := 11) B 6 rfl rfl (by decide) i_Exprs (B.2.2.2.1 _ k_200) rfl (hR.1 _ 6 _ rfl) d_Exprs_join_62 ?_
    refine mv_iload_n (pc := 65) B d_Exprs_join_65 rfl 0 rfl ?_
    refine mv_dup2_11 (pc := 66) B d_Exprs_join_66 rfl rfl ?_
    refine mv_iald (pc := 67) B rfl (i32_in (by rw [p9]; omega) (by rw [p9]; omega)) d_Exprs_join_67 ?_
    refine mv_iconst (pc := 68) (v := 1) B d_Exprs_join_68 (by decide) ?_
    refine mv_iadd (pc := 69) B d_Exprs_join_69 ?_
    refine mv_iast (pc := 70) B rfl (i32_in (by rw [p9]; omega) (by rw [p9]; omega)) d_Exprs_join_70 ?_
    refine mv_gen (fun S71 eS71 => ?_)
    have hR : Rw 48 (mv_r S71) := by rw [eS71]; exact hR
    have hF : RF 48 σ S71 := by rw [eS71]; exact hF.row ⟨by omega, by omega⟩ _ _
    have hX : XM 48 th e0 bs BL f0 g0 ns S71 (((123, w8 + 1) : Mk) :: ms) (sm wt ms + 1) (sm wr ms + 1) (s1) := by rw [eS71, p9, pw]; exact hX.with hP p2 (by decide)
    have t7 := Eq.trans (congrArg Int32.toInt (show mv_i S71 3 7 = mv_i _ 3 7 by rw [eS71]; rfl)) t7
    have t8 := Eq.trans (congrArg Int32.toInt (show mv_i S71 3 8 = mv_i _ 3 8 by rw [eS71]; rfl)) t8
    have t9 := Eq.trans (congrArg Int32.toInt (show mv_i S71 3 9 = mv_i _ 3 9 by rw [eS71]; rfl)) t9
    have kp := Eq.trans (show mv_a S71 4 = mv_a _ 4 by rw [eS71]; rfl) kp
    have e7 : (mv_i S71 3 7).toNatClampNeg = (mv_i σ 3 7).toNatClampNeg := by have := i32_cl (x := mv_i S71 3 7) (by omega); have := i32_cl (x := mv_i σ 3 7) (by omega); omega
    clear eS71
    refine mv_iload_n (pc := 71) B d_Exprs_join_71 rfl 2 rfl ?_
    refine mv_bipush (pc := 72) (v := 44) B d_Exprs_join_72 (by decide) ?_
    refine mv_icmp_ne (pc := 74) (tgt := 89) B d_Exprs_join_74 rfl (fun h74 => ?_) (fun h74 => ?_)
    · skip
      refine mv_aload_n (pc := 89) B d_Exprs_join_89 rfl 1 rfl ?_
      refine mv_getR (pc := 90) (ci := 6) (C := R_Exprs) (T := F_Exprs) (N := 11) B 0 rfl rfl (by decide) i_Exprs (B.2.2.2.1 _ k_193) rfl (hR.1 _ 0 _ rfl) d_Exprs_join_90 ?_
      refine mv_bipush (pc := 93) (v := 125) B d_Exprs_join_93 (by decide) ?_
      refine mv_callVi (pc := 95) (n := 1) (ci := 2) (C := R_Tokens) B (mK_ok sk sv) hNs rfl rfl (c_Tokens_closeN l hi _ _ hR.1 (hB0.rf hF hP ht2).2.1 (by omega) (by omega) (by decide)) rfl (ma_goodc kc_Tokens_close) (B.2.2.2.1 _ k_1468) (B.2.2.2.1 _ k_1397) (B.2.2.2.1 _ k_1398) (B.2.2.2.1 _ k_3) ⟨by decide +kernel, by decide +kernel, by decide +kernel⟩ rfl d_Exprs_join_95 rfl (Nat.le_of_ble_eq_true rfl) ⟨by decide, by decide⟩ ⟨by decide, by decide⟩ ⟨by decide, by decide⟩ (mv_noH hno _) (fun v95 σ95 h95 => ?_)
      obtain ⟨a95, w95, e95, r95⟩ := h95
      have q95 := r95.1
      have z95 := fun q => (r95.2.1 q).1
      have y95 := And.intro r95.2.2.2.1 r95.2.2.2.2.1
      subst e95
      have hw95 := r95.2.2.1 (by rw [t9]; exact hw9) (by rw [kp, e7]; exact hk3.trans (hkd.resolve_left h74)) trivial
      refine mv_gen (fun S98 eS98 => ?_)
      have hR : Rw 48 (mv_r S98) := by rw [eS98]; exact hR
      have hF : RF 48 σ S98 := by rw [eS98]; exact hF.tk3 _ _ _
      have hX : XM 48 th e0 bs BL f0 g0 ns S98 (((123, w8 + 1) : Mk) :: ms) (sm wt ms + 1) (sm wr ms + 1) (s1) := by rw [eS98]; exact hX.tk3 hP _ _ _
      have t7 : (mv_i S98 3 7).toInt = a95.toInt := by rw [eS98]; rfl
      have t8 : (mv_i S98 3 8).toInt = (mv_i σ 3 8).toInt - 1 := by rw [eS98]; first | exact t8 | exact (sub_one (by omega)).trans (by omega) | exact (i32_inc (by omega)).trans (by omega)
      have t9 : (mv_i S98 3 9).toInt = w95.toInt := by rw [eS98]; rfl
      have kS98 : mv_a S98 4 = mv_a σ 4 := by rw [eS98]; first | rfl | exact kp
      have kp := kS98
      clear eS98
      refine mv_pop (pc := 98) B d_Exprs_join_98 rfl ?_
      refine mv_aload_n (pc := 99) B d_Exprs_join_99 rfl 1 rfl ?_
      refine mv_dup (pc := 100) B d_Exprs_join_100 rfl ?_
      refine mv_getI (pc := 101) (ci := 6) (C := R_Exprs) (T := F_Exprs) (N := 11) B 8 rfl rfl (by decide) i_Exprs (B.2.2.2.1 _ k_202) rfl d_Exprs_join_101 ?_
      refine mv_iconst (pc := 104) (v := 1) B d_Exprs_join_104 (by decide) ?_
      refine mv_isub (pc := 105) B d_Exprs_join_105 ?_
      refine mv_putI (pc := 106) (ci := 6) (C := R_Exprs) (T := F_Exprs) (N := 11) B 8 rfl rfl (by decide) i_Exprs t_Exprs_ok n_Exprs (B.2.2.2.1 _ k_202) rfl rfl rfl rfl d_Exprs_join_106 ?_
      refine mv_gen (fun S109 eS109 => ?_)
      have hR : Rw 48 (mv_r S109) := by rw [eS109]; exact hR
      have hF : RF 48 σ S109 := by rw [eS109]; exact hF.pop
      have hX : XM 48 th e0 bs BL f0 g0 ns S109 (ms) (sm wt ms + 1) (sm wr ms + 1) (s1) := by rw [eS109]; exact hX.pop hP ⟨show ¬ (123 : Int32) = 63 by decide, show ¬ (123 : Int32) = 58 by decide⟩
      have t7 := Eq.trans (congrArg Int32.toInt (show mv_i S109 3 7 = mv_i _ 3 7 by rw [eS109]; rfl)) t7
      have t8 := Eq.trans (congrArg Int32.toInt (show mv_i S109 3 8 = mv_i _ 3 8 by rw [eS109]; rfl)) t8
      have t9 := Eq.trans (congrArg Int32.toInt (show mv_i S109 3 9 = mv_i _ 3 9 by rw [eS109]; rfl)) t9
      have kp := Eq.trans (show mv_a S109 4 = mv_a _ 4 by rw [eS109]; rfl) kp
      clear eS109
      refine mv_aload_n (pc := 109) B d_Exprs_join_109 rfl 1 rfl ?_
      refine mv_callVi (pc := 110) (n := 0) (ci := 6) (C := R_Exprs) B (mK_ok sk sv) hNs rfl rfl (c_Exprs_release l hi _ hR.1 (by have := hX.1.2.2.1; omega) (by have := hX.1.2.2.1; omega)) rfl (ma_goodc kc_Exprs_release) (B.2.2.2.1 _ k_1469) (B.2.2.2.1 _ k_1470) (B.2.2.2.1 _ k_1471) (B.2.2.2.1 _ k_7) ⟨by decide +kernel, by decide +kernel, by decide +kernel⟩ rfl d_Exprs_join_110 rfl (Nat.le_of_ble_eq_true rfl) ⟨by decide, by decide⟩ ⟨by decide, by decide⟩ ⟨by decide, by decide⟩ (mv_noH hno _) (fun v110 σ110 h110 => ?_)
      subst h110
      refine mv_gen (fun S113 eS113 => ?_)
      have hR : Rw 48 (mv_r S113) := by rw [eS113]; exact hR
      have hF : RF 48 σ S113 := by rw [eS113]; exact hF.rel
      have hX : XM 48 th e0 bs BL f0 g0 ns S113 (ms) (sm wt ms) (sm wr ms + 1) (s1) := by rw [eS113]; exact hX.rel hP
      have t7 := Eq.trans (congrArg Int32.toInt (show mv_i S113 3 7 = mv_i _ 3 7 by rw [eS113]; rfl)) t7
      have t8 := Eq.trans (congrArg Int32.toInt (show mv_i S113 3 8 = mv_i _ 3 8 by rw [eS113]; rfl)) t8
      have t9 := Eq.trans (congrArg Int32.toInt (show mv_i S113 3 9 = mv_i _ 3 9 by rw [eS113]; rfl)) t9
      have kp := Eq.trans (show mv_a S113 4 = mv_a _ 4 by rw [eS113]; rfl) kp
      have hk9 := hX.tok (i := (mv_i S113 22 8).toNatClampNeg) (by have := hX.n; omega)
      clear eS113
      refine mv_istore_n (pc := 113) B d_Exprs_join_113 rfl (by decide) rfl ?_
      refine mv_iload_n (pc := 114) B d_Exprs_join_114 rfl 0 rfl ?_
      refine mv_bipush (pc := 115) (v := 64) B d_Exprs_join_115 (by decide) ?_
      refine mv_icmp_le (pc := 117) (tgt := 136) B d_Exprs_join_117 rfl (fun h117 => ?_) (fun h117 => ?_)
      · skip
        refine mv_aload_n (pc := 136) B d_Exprs_join_136 rfl 2 rfl ?_
        refine mv_iload_n (pc := 137) B d_Exprs_join_137 rfl 0 rfl ?_
        refine mv_callVv (pc := 138) (n := 1) (ci := 6) (C := R_Exprs) B (mK_ok sk sv) hNs rfl rfl (c_Exprs_hold l hi _ _ hR.1 (by have := hX.1.2.2.1; omega) (by have := hX.1.2.2.1; omega)) rfl (ma_goodc kc_Exprs_hold) (B.2.2.2.1 _ k_1432) (B.2.2.2.1 _ k_1434) (B.2.2.2.1 _ ks_51) (B.2.2.2.1 _ k_7) ⟨by decide +kernel, by decide +kernel, by decide +kernel⟩ rfl d_Exprs_join_138 rfl (Nat.le_of_ble_eq_true rfl) ⟨by decide, by decide⟩ ⟨by decide, by decide⟩ ⟨by decide, by decide⟩ (mv_noH hno _) (fun σ138 h138 => ?_)
        subst h138
        refine mv_gen (fun S141 eS141 => ?_)
        have hR : Rw 48 (mv_r S141) := by rw [eS141]; exact hR
        have hF : RF 48 σ S141 := by rw [eS141]; exact hF.hold _
        have hX : XM 48 th e0 bs BL f0 g0 ns S141 (ms) (sm wt ms + 1) (sm wr ms + 1) (s1) := by rw [eS141]; exact hX.hold hP (by omega) _
        have t7 := Eq.trans (congrArg Int32.toInt (show mv_i S141 3 7 = mv_i _ 3 7 by rw [eS141]; rfl)) t7
        have t8 := Eq.trans (congrArg Int32.toInt (show mv_i S141 3 8 = mv_i _ 3 8 by rw [eS141]; rfl)) t8
        have t9 := Eq.trans (congrArg Int32.toInt (show mv_i S141 3 9 = mv_i _ 3 9 by rw [eS141]; rfl)) t9
        have kp := Eq.trans (show mv_a S141 4 = mv_a _ 4 by rw [eS141]; rfl) kp
        have hend : 0 ≤ (mv_i S141 3 9).toInt ∨ ∃ ms2 s2 a2, a < a2 ∧ XM 48 th e0 bs BL f0 g0 ns S141 (ms2) (sm wt ms2 + (1 : Int32).toNatClampNeg) (sm wr ms2 + (1 : Int32).toNatClampNeg) (s2) ∧ TI S141 sz bd ms2 s2 a2 := Or.inr ⟨ms, s1, a + 1, by omega, hX, by omega, by omega, by omega, by omega, by omega, by omega, hWm.tail.up (by omega)⟩
        clear eS141
        refine mv_iconst (pc := 141) (v := 1) B d_Exprs_join_141 (by decide) ?_
        exact mv_iret (pc := 142) B hr rfl d_Exprs_join_142 (Nat.le_refl _) (Nat.le_refl _) ⟨_, rfl, hF, hX.1.2.2.2.1, Or.inr rfl, hend⟩
      · skip
        refine mv_aload_n (pc := 120) B d_Exprs_join_120 rfl 2 rfl ?_
        refine mv_aload_n (pc := 121) B d_Exprs_join_121 rfl 2 rfl ?_
        refine mv_getR (pc := 122) (ci := 6) (C := R_Exprs) (T := F_Exprs) (N := 11) B 5 rfl rfl (by decide) i_Exprs (B.2.2.2.1 _ k_199) rfl (hR.1 _ 5 _ rfl) d_Exprs_join_122 ?_
        refine mv_aload_n (pc := 125) B d_Exprs_join_125 rfl 2 rfl ?_
        refine mv_getI (pc := 126) (ci := 6) (C := R_Exprs) (T := F_Exprs) (N := 11) B 8 rfl rfl (by decide) i_Exprs (B.2.2.2.1 _ k_202) rfl d_Exprs_join_126 ?_
        refine mv_iald (pc := 129) B rfl (i32_in (show 0 ≤ (mv_i S113 22 8).toInt by have := hX.1.1; omega) (show (mv_i S113 22 8).toInt < 1024 by have := hX.1.1; omega)) d_Exprs_join_129 ?_
        refine mv_iconst (pc := 130) (v := 4) B d_Exprs_join_130 (by decide) ?_
        refine mv_callVv (pc := 131) (n := 2) (ci := 6) (C := R_Exprs) B (mK_ok sk sv) hNs rfl rfl (c_Exprs_tell l hi _ _ _ hR.1 hk9.1 hk9.2 (by decide)) rfl (ma_goodc kc_Exprs_tell) (B.2.2.2.1 _ k_1427) (B.2.2.2.1 _ k_1429) (B.2.2.2.1 _ ks_50) (B.2.2.2.1 _ k_7) ⟨by decide +kernel, by decide +kernel, by decide +kernel⟩ rfl d_Exprs_join_131 rfl (Nat.le_of_ble_eq_true rfl) ⟨by decide, by decide⟩ ⟨by decide, by decide⟩ ⟨by decide, by decide⟩ (mv_noH hno _) (fun σ131 h131 => ?_)
        obtain ⟨x9, y9, e131, z131⟩ := h131
        subst e131
        refine mv_gen (fun S134 eS134 => ?_)
        have hR : Rw 48 (mv_r S134) := by rw [eS134]; exact hR
        have hF : RF 48 σ S134 := by rw [eS134]; exact hF.tell _ _
        have hX : XM 48 th e0 bs BL f0 g0 ns S134 (ms) (sm wt ms) (sm wr ms + 1) (s1) := by rw [eS134]; exact hX.tell hP z131 _ _
        have t7 := Eq.trans (congrArg Int32.toInt (show mv_i S134 3 7 = mv_i _ 3 7 by rw [eS134]; rfl)) t7
        have t8 := Eq.trans (congrArg Int32.toInt (show mv_i S134 3 8 = mv_i _ 3 8 by rw [eS134]; rfl)) t8
        have t9 := Eq.trans (congrArg Int32.toInt (show mv_i S134 3 9 = mv_i _ 3 9 by rw [eS134]; rfl)) t9
        have kp := Eq.trans (show mv_a S134 4 = mv_a _ 4 by rw [eS134]; rfl) kp
        clear eS134
        refine mv_iconst (pc := 134) (v := 0) B d_Exprs_join_134 (by decide) ?_
        refine mv_istore_n (pc := 135) B d_Exprs_join_135 rfl (by decide) rfl ?_
        refine mv_aload_n (pc := 136) B d_Exprs_join_136 rfl 2 rfl ?_
        refine mv_iload_n (pc := 137) B d_Exprs_join_137 rfl 0 rfl ?_
        refine mv_callVv (pc := 138) (n := 1) (ci := 6) (C := R_Exprs) B (mK_ok sk sv) hNs rfl rfl (c_Exprs_hold l hi _ _ hR.1 (by have := hX.1.2.2.1; omega) (by have := hX.1.2.2.1; omega)) rfl (ma_goodc kc_Exprs_hold) (B.2.2.2.1 _ k_1432) (B.2.2.2.1 _ k_1434) (B.2.2.2.1 _ ks_51) (B.2.2.2.1 _ k_7) ⟨by decide +kernel, by decide +kernel, by decide +kernel⟩ rfl d_Exprs_join_138 rfl (Nat.le_of_ble_eq_true rfl) ⟨by decide, by decide⟩ ⟨by decide, by decide⟩ ⟨by decide, by decide⟩ (mv_noH hno _) (fun σ138 h138 => ?_)
        subst h138
        refine mv_gen (fun S141 eS141 => ?_)
        have hR : Rw 48 (mv_r S141) := by rw [eS141]; exact hR
        have hF : RF 48 σ S141 := by rw [eS141]; exact hF.hold _
        have hX : XM 48 th e0 bs BL f0 g0 ns S141 (ms) (sm wt ms + 1) (sm wr ms + 1) (s1) := by rw [eS141]; exact hX.hold hP (by omega) _
        have t7 := Eq.trans (congrArg Int32.toInt (show mv_i S141 3 7 = mv_i _ 3 7 by rw [eS141]; rfl)) t7
        have t8 := Eq.trans (congrArg Int32.toInt (show mv_i S141 3 8 = mv_i _ 3 8 by rw [eS141]; rfl)) t8
        have t9 := Eq.trans (congrArg Int32.toInt (show mv_i S141 3 9 = mv_i _ 3 9 by rw [eS141]; rfl)) t9
        have kp := Eq.trans (show mv_a S141 4 = mv_a _ 4 by rw [eS141]; rfl) kp
        have hend : 0 ≤ (mv_i S141 3 9).toInt ∨ ∃ ms2 s2 a2, a < a2 ∧ XM 48 th e0 bs BL f0 g0 ns S141 (ms2) (sm wt ms2 + (1 : Int32).toNatClampNeg) (sm wr ms2 + (1 : Int32).toNatClampNeg) (s2) ∧ TI S141 sz bd ms2 s2 a2 := Or.inr ⟨ms, s1, a + 1, by omega, hX, by omega, by omega, by omega, by omega, by omega, by omega, hWm.tail.up (by omega)⟩
        clear eS141
        refine mv_iconst (pc := 141) (v := 1) B d_Exprs_join_141 (by decide) ?_
        exact mv_iret (pc := 142) B hr rfl d_Exprs_join_142 (Nat.le_refl _) (Nat.le_refl _) ⟨_, rfl, hF, hX.1.2.2.2.1, Or.inr rfl, hend⟩
    · skip
      refine mv_aload_n (pc := 77) B d_Exprs_join_77 rfl 1 rfl ?_
      refine mv_getR (pc := 78) (ci := 6) (C := R_Exprs) (T := F_Exprs) (N := 11) B 0 rfl rfl (by decide) i_Exprs (B.2.2.2.1 _ k_193) rfl (hR.1 _ 0 _ rfl) d_Exprs_join_78 ?_
      refine mv_bipush (pc := 81) (v := 44) B d_Exprs_join_81 (by decide) ?_
      refine mv_callVi (pc := 83) (n := 1) (ci := 2) (C := R_Tokens) B (mK_ok sk sv) hNs rfl rfl (c_Tokens_takeN l hi _ _ hR.1 (hB0.rf hF hP ht2).2.1 (by omega) (by omega) (by decide)) rfl (ma_goodc kc_Tokens_take) (B.2.2.2.1 _ k_1424) (B.2.2.2.1 _ k_1267) (B.2.2.2.1 _ k_1268) (B.2.2.2.1 _ k_3) ⟨by decide +kernel, by decide +kernel, by decide +kernel⟩ rfl d_Exprs_join_83 rfl (Nat.le_of_ble_eq_true rfl) ⟨by decide, by decide⟩ ⟨by decide, by decide⟩ ⟨by decide, by decide⟩ (mv_noH hno _) (fun v83 σ83 h83 => ?_)
      obtain ⟨a83, w83, e83, r83⟩ := h83
      have q83 := r83.1
      have z83 := fun q => (r83.2.1 q).1
      have y83 := And.intro r83.2.2.2.1 r83.2.2.2.2.1
      subst e83
      have hw83 := r83.2.2.1 (by rw [t9]; exact hw9) (by rw [kp, e7]; exact hk3.trans h74) trivial
      refine mv_gen (fun S86 eS86 => ?_)
      have hR : Rw 48 (mv_r S86) := by rw [eS86]; exact hR
      have hF : RF 48 σ S86 := by rw [eS86]; exact hF.tk3 _ _ _
      have hX : XM 48 th e0 bs BL f0 g0 ns S86 (((123, w8 + 1) : Mk) :: ms) (sm wt ms + 1) (sm wr ms + 1) (s1) := by rw [eS86]; exact hX.tk3 hP _ _ _
      have t7 : (mv_i S86 3 7).toInt = a83.toInt := by rw [eS86]; rfl
      have t8 : (mv_i S86 3 8).toInt = (mv_i σ 3 8).toInt := by rw [eS86]; first | exact t8 | exact (sub_one (by omega)).trans (by omega) | exact (i32_inc (by omega)).trans (by omega)
      have t9 : (mv_i S86 3 9).toInt = w83.toInt := by rw [eS86]; rfl
      have kS86 : mv_a S86 4 = mv_a σ 4 := by rw [eS86]; first | rfl | exact kp
      have kp := kS86
      have y1 : sm wt (((123, w8 + 1) : Mk) :: ms) = wt (123, w8 + 1) + sm wt ms := rfl
      have y2 : sm wr (((123, w8 + 1) : Mk) :: ms) = wr (123, w8 + 1) + sm wr ms := rfl
      have y3 : sm wd (((123, w8 + 1) : Mk) :: ms) = wd (123, w8 + 1) + sm wd ms := rfl
      have y4 : sm wc (((123, w8 + 1) : Mk) :: ms) = wc (123, w8 + 1) + sm wc ms := rfl
      have x1 : wt (123, w8 + 1) = 1 := if_neg hw0
      have x2 : wr (123, w8 + 1) = 1 := if_neg hw0
      have x3 : wd (123, w8 + 1) = 1 := rfl
      have x4 : wc (123, w8 + 1) = 0 := rfl
      have hend : 0 ≤ (mv_i S86 3 9).toInt ∨ ∃ ms2 s2 a2, a < a2 ∧ XM 48 th e0 bs BL f0 g0 ns S86 (ms2) (sm wt ms2 + (0 : Int32).toNatClampNeg) (sm wr ms2 + (0 : Int32).toNatClampNeg) (s2) ∧ TI S86 sz bd ms2 s2 a2 := by
        refine Or.inr ⟨((123, w8 + 1) : Mk) :: ms, s1, a + 1, by omega, ?_, by omega, by omega, by omega, by omega, by omega, by omega, (hWm.tail.up (by omega)).cons (fun _ => ⟨by show 0 ≤ (w8 + 1).toInt; omega, by show (w8 + 1).toInt ≤ ((a + 1 : Nat) : Int); omega⟩)⟩
        rw [y1, y2, x1, x2, Nat.add_comm 1, Nat.add_comm 1]
        exact hX
      clear eS86
      refine mv_pop (pc := 86) B d_Exprs_join_86 rfl ?_
      refine mv_iconst (pc := 87) (v := 0) B d_Exprs_join_87 (by decide) ?_
      exact mv_iret (pc := 88) B hr rfl d_Exprs_join_88 (Nat.le_refl _) (Nat.le_refl _) ⟨_, rfl, hF, hX.1.2.2.2.1, Or.inl rfl, hend⟩
  refine mv_aload_n (pc := 0) B d_Exprs_join_0 rfl 0 rfl ?_
  refine mv_getI (pc := 1) (ci := 6) (C := R_Exprs) (T := F_Exprs) (N := 11) B 8 rfl rfl (by decide) i_Exprs (B.2.2.2.1 _ k_202) rfl d_Exprs_join_1 ?_
  refine mv_iconst (pc := 4) (v := 1) B d_Exprs_join_4 (by decide) ?_
  refine mv_isub (pc := 5) B d_Exprs_join_5 ?_
  refine mv_istore_n (pc := 6) B d_Exprs_join_6 rfl (by decide) rfl ?_
  refine mv_aload_n (pc := 7) B d_Exprs_join_7 rfl 1 rfl ?_
  refine mv_getR (pc := 8) (ci := 6) (C := R_Exprs) (T := F_Exprs) (N := 11) B 6 rfl rfl (by decide) i_Exprs (B.2.2.2.1 _ k_200) rfl (hR.1 _ 6 _ rfl) d_Exprs_join_8 ?_
  refine mv_iload_n (pc := 11) B d_Exprs_join_11 rfl 0 rfl ?_
  refine mv_iald (pc := 12) B rfl (i32_in (by omega) (by omega)) d_Exprs_join_12 ?_
  rw [p4]
  refine mv_if_le (pc := 13) (tgt := 61) B d_Exprs_join_13 rfl (fun h13 => ?_) (fun h13 => ?_)
  · skip
    rw [Int32.le_iff_toInt_le] at h13
    simp only [Int32.reduceToInt] at h13
    have w0 : w8 = 0 := Int32.toInt_inj.mp (by show w8.toInt = 0; omega)
    have x5 : wt (123, w8) = 0 := if_pos w0
    have x6 : wr (123, w8) = 0 := if_pos w0
    rw [g1, g2, x5, x6, Nat.zero_add, Nat.zero_add] at hX
    have hs1 : s0 ≤ s0 + 1 := Nat.le_succ _
    have ht9 : mv_i σ 22 8 - 1 = mv_i σ 22 8 - 1 := rfl
    refine mv_lpick [0, 1, 2] rfl ?_
    exact j61 _ _ _ hR hF hX hs1 t7 t8 t9 kp ht9
  · skip
    rw [Int32.le_iff_toInt_le] at h13
    simp only [Int32.reduceToInt] at h13
    have w0 : ¬ w8 = 0 := fun q => by rw [q] at h13; exact h13 (by decide)
    have x5 : wt (123, w8) = 1 := if_neg w0
    have x6 : wr (123, w8) = 1 := if_neg w0
    rw [g1, g2, x5, x6, show 1 + sm wt ms + 1 = sm wt ms + 1 + 1 by omega, show 1 + sm wr ms + 1 = sm wr ms + 2 by omega] at hX
    have m22 : mv_i σ 22 8 = mv_i σ 22 8 := rfl
    refine mv_aload_n (pc := 16) B d_Exprs_join_16 rfl 1 rfl ?_
    refine mv_callVi (pc := 17) (n := 0) (ci := 6) (C := R_Exprs) B (mK_ok sk sv) hNs rfl rfl (c_Exprs_release l hi _ hR.1 (by have := hX.1.2.2.1; omega) (by have := hX.1.2.2.1; omega)) rfl (ma_goodc kc_Exprs_release) (B.2.2.2.1 _ k_1469) (B.2.2.2.1 _ k_1470) (B.2.2.2.1 _ k_1471) (B.2.2.2.1 _ k_7) ⟨by decide +kernel, by decide +kernel, by decide +kernel⟩ rfl d_Exprs_join_17 rfl (Nat.le_of_ble_eq_true rfl) ⟨by decide, by decide⟩ ⟨by decide, by decide⟩ ⟨by decide, by decide⟩ (mv_noH hno _) (fun v17 σ17 h17 => ?_)
    subst h17
    refine mv_gen (fun S20 eS20 => ?_)
    have hR : Rw 48 (mv_r S20) := by rw [eS20]; exact hR
    have hF : RF 48 σ S20 := by rw [eS20]; exact hF.rel
    have hX : XM 48 th e0 bs BL f0 g0 ns S20 (((123, w8) : Mk) :: ms) (sm wt ms + 1) (sm wr ms + 2) (s0) := by rw [eS20]; exact hX.rel hP
    have t7 : (mv_i S20 3 7).toInt = a := by rw [eS20]; exact t7
    have t8 : (mv_i S20 3 8).toInt = (mv_i σ 3 8).toInt := by rw [eS20]; exact t8
    have t9 : (mv_i S20 3 9).toInt = (mv_i σ 3 9).toInt := by rw [eS20]; exact t9
    have kp : mv_a S20 4 = mv_a σ 4 := by rw [eS20]; exact kp
    have m22 : mv_i S20 22 8 = mv_i σ 22 8 := by rw [eS20]; exact m22
    clear eS20
    refine mv_istore_n (pc := 20) B d_Exprs_join_20 rfl (by decide) rfl ?_
    refine mv_aload_n (pc := 21) B d_Exprs_join_21 rfl 2 rfl ?_
    refine mv_callVi (pc := 22) (n := 0) (ci := 6) (C := R_Exprs) B (mK_ok sk sv) hNs rfl rfl (c_Exprs_release l hi _ hR.1 (by have := hX.1.2.2.1; omega) (by have := hX.1.2.2.1; omega)) rfl (ma_goodc kc_Exprs_release) (B.2.2.2.1 _ k_1469) (B.2.2.2.1 _ k_1470) (B.2.2.2.1 _ k_1471) (B.2.2.2.1 _ k_7) ⟨by decide +kernel, by decide +kernel, by decide +kernel⟩ rfl d_Exprs_join_22 rfl (Nat.le_of_ble_eq_true rfl) ⟨by decide, by decide⟩ ⟨by decide, by decide⟩ ⟨by decide, by decide⟩ (mv_noH hno _) (fun v22 σ22 h22 => ?_)
    subst h22
    refine mv_gen (fun S25 eS25 => ?_)
    have hR : Rw 48 (mv_r S25) := by rw [eS25]; exact hR
    have hF : RF 48 σ S25 := by rw [eS25]; exact hF.rel
    have hX : XM 48 th e0 bs BL f0 g0 ns S25 (((123, w8) : Mk) :: ms) (sm wt ms) (sm wr ms + 2) (s0) := by rw [eS25]; exact hX.rel hP
    have t7 : (mv_i S25 3 7).toInt = a := by rw [eS25]; exact t7
    have t8 : (mv_i S25 3 8).toInt = (mv_i σ 3 8).toInt := by rw [eS25]; exact t8
    have t9 : (mv_i S25 3 9).toInt = (mv_i σ 3 9).toInt := by rw [eS25]; exact t9
    have kp : mv_a S25 4 = mv_a σ 4 := by rw [eS25]; exact kp
    have m22 : mv_i S25 22 8 = mv_i σ 22 8 := by rw [eS25]; exact m22
    clear eS25
    refine mv_istore (pc := 25) B d_Exprs_join_25 (by decide) rfl ?_
    refine mv_aload_n (pc := 27) B d_Exprs_join_27 rfl 3 rfl ?_
    refine mv_getR (pc := 28) (ci := 6) (C := R_Exprs) (T := F_Exprs) (N := 11) B 3 rfl rfl (by decide) i_Exprs (B.2.2.2.1 _ k_197) rfl hR.2.2.2 d_Exprs_join_28 ?_
    refine mv_sipush (pc := 31) (v := 309) B d_Exprs_join_31 (by decide) ?_
    refine mv_iload_n (pc := 34) B d_Exprs_join_34 rfl 1 rfl ?_
    refine mv_i2l (pc := 35) B d_Exprs_join_35 ?_
    refine mv_callVi (pc := 36) (n := 2) (ci := 7) (C := R_Program) B (mK_ok sk sv) hNs rfl rfl (c_Program_emit_b l hi _ _ _ hR.2.1 (by have := hX.2.1.1; omega) (by have := hX.2.1.1; omega)) rfl (ma_goodc kc_Program_emit) (B.2.2.2.1 _ k_1425) (B.2.2.2.1 _ k_1385) (B.2.2.2.1 _ k_1386) (B.2.2.2.1 _ k_8) ⟨by decide +kernel, by decide +kernel, by decide +kernel⟩ rfl d_Exprs_join_36 rfl (Nat.le_of_ble_eq_true rfl) ⟨by decide, by decide⟩ ⟨by decide, by decide⟩ ⟨by decide, by decide⟩ (mv_noH hno _) (fun v36 σ36 h36 => ?_)
    obtain ⟨e36, -⟩ := h36
    subst e36
    refine mv_gen (fun S39 eS39 => ?_)
    have hR : Rw 48 (mv_r S39) := by rw [eS39]; exact hR
    have hF : RF 48 σ S39 := by rw [eS39]; exact hF.emit _ _
    have hX : XM 48 th e0 bs BL f0 g0 ns S39 (((123, w8) : Mk) :: ms) (sm wt ms) (sm wr ms + 1) (s0 + 1) := by rw [eS39]; exact hX.emit0 hP (by omega) (sm wr ms + 1) (by decide) (by decide) (Op1_join th _ (bs + sm wr ms)) (by omega)
    have t7 : (mv_i S39 3 7).toInt = a := by rw [eS39]; exact t7
    have t8 : (mv_i S39 3 8).toInt = (mv_i σ 3 8).toInt := by rw [eS39]; exact t8
    have t9 : (mv_i S39 3 9).toInt = (mv_i σ 3 9).toInt := by rw [eS39]; exact t9
    have kp : mv_a S39 4 = mv_a σ 4 := by rw [eS39]; exact kp
    have m22 : mv_i S39 22 8 = mv_i σ 22 8 := by rw [eS39]; exact m22
    clear eS39
    refine mv_pop (pc := 39) B d_Exprs_join_39 rfl ?_
    refine mv_aload_n (pc := 40) B d_Exprs_join_40 rfl 3 rfl ?_
    refine mv_iload (pc := 41) B d_Exprs_join_41 0 rfl ?_
    refine mv_if_eq (pc := 43) (tgt := 50) B d_Exprs_join_43 rfl (fun h43 => ?_) (fun h43 => ?_)
    · skip
      refine mv_iconst (pc := 50) (v := 0) B d_Exprs_join_50 (by decide) ?_
      refine mv_goto (pc := 51) (tgt := 58) B d_Exprs_join_51 rfl ?_
      refine mv_callVv (pc := 58) (n := 1) (ci := 6) (C := R_Exprs) B (mK_ok sk sv) hNs rfl rfl (c_Exprs_hold l hi _ _ hR.1 (by have := hX.1.2.2.1; omega) (by have := hX.1.2.2.1; omega)) rfl (ma_goodc kc_Exprs_hold) (B.2.2.2.1 _ k_1432) (B.2.2.2.1 _ k_1434) (B.2.2.2.1 _ ks_51) (B.2.2.2.1 _ k_7) ⟨by decide +kernel, by decide +kernel, by decide +kernel⟩ rfl d_Exprs_join_58 rfl (Nat.le_of_ble_eq_true rfl) ⟨by decide, by decide⟩ ⟨by decide, by decide⟩ ⟨by decide, by decide⟩ (mv_noH hno _) (fun σ58 h58 => ?_)
      subst h58
      refine mv_gen (fun S61 eS61 => ?_)
      have hR : Rw 48 (mv_r S61) := by rw [eS61]; exact hR
      have hF : RF 48 σ S61 := by rw [eS61]; exact hF.hold _
      have hX : XM 48 th e0 bs BL f0 g0 ns S61 (((123, w8) : Mk) :: ms) (sm wt ms + 1) (sm wr ms + 1) (s0 + 1) := by rw [eS61]; exact hX.hold hP (by omega) _
      have t7 : (mv_i S61 3 7).toInt = a := by rw [eS61]; exact t7
      have t8 : (mv_i S61 3 8).toInt = (mv_i σ 3 8).toInt := by rw [eS61]; exact t8
      have t9 : (mv_i S61 3 9).toInt = (mv_i σ 3 9).toInt := by rw [eS61]; exact t9
      have kp : mv_a S61 4 = mv_a σ 4 := by rw [eS61]; exact kp
      have m22 : mv_i S61 22 8 = mv_i σ 22 8 := by rw [eS61]; exact m22
      clear eS61
      have hs1 : s0 + 1 ≤ s0 + 1 := Nat.le_refl _
      have ht9 : mv_i σ 22 8 - 1 = mv_i S61 22 8 - 1 := by rw [m22]
      refine mv_lpick [2, 3, 4] rfl ?_
      exact j61 _ _ _ hR hF hX hs1 t7 t8 t9 kp ht9
    · skip
      refine mv_iload_n (pc := 46) B d_Exprs_join_46 rfl 1 rfl ?_
      refine mv_if_ne (pc := 47) (tgt := 54) B d_Exprs_join_47 rfl (fun h47 => ?_) (fun h47 => ?_)
      · skip
        refine mv_iload (pc := 54) B d_Exprs_join_54 0 rfl ?_
        refine mv_iload_n (pc := 56) B d_Exprs_join_56 rfl 1 rfl ?_
        refine mv_iadd (pc := 57) B d_Exprs_join_57 ?_
        refine mv_callVv (pc := 58) (n := 1) (ci := 6) (C := R_Exprs) B (mK_ok sk sv) hNs rfl rfl (c_Exprs_hold l hi _ _ hR.1 (by have := hX.1.2.2.1; omega) (by have := hX.1.2.2.1; omega)) rfl (ma_goodc kc_Exprs_hold) (B.2.2.2.1 _ k_1432) (B.2.2.2.1 _ k_1434) (B.2.2.2.1 _ ks_51) (B.2.2.2.1 _ k_7) ⟨by decide +kernel, by decide +kernel, by decide +kernel⟩ rfl d_Exprs_join_58 rfl (Nat.le_of_ble_eq_true rfl) ⟨by decide, by decide⟩ ⟨by decide, by decide⟩ ⟨by decide, by decide⟩ (mv_noH hno _) (fun σ58 h58 => ?_)
        subst h58
        refine mv_gen (fun S61 eS61 => ?_)
        have hR : Rw 48 (mv_r S61) := by rw [eS61]; exact hR
        have hF : RF 48 σ S61 := by rw [eS61]; exact hF.hold _
        have hX : XM 48 th e0 bs BL f0 g0 ns S61 (((123, w8) : Mk) :: ms) (sm wt ms + 1) (sm wr ms + 1) (s0 + 1) := by rw [eS61]; exact hX.hold hP (by omega) _
        have t7 : (mv_i S61 3 7).toInt = a := by rw [eS61]; exact t7
        have t8 : (mv_i S61 3 8).toInt = (mv_i σ 3 8).toInt := by rw [eS61]; exact t8
        have t9 : (mv_i S61 3 9).toInt = (mv_i σ 3 9).toInt := by rw [eS61]; exact t9
        have kp : mv_a S61 4 = mv_a σ 4 := by rw [eS61]; exact kp
        have m22 : mv_i S61 22 8 = mv_i σ 22 8 := by rw [eS61]; exact m22
        clear eS61
        have hs1 : s0 + 1 ≤ s0 + 1 := Nat.le_refl _
        have ht9 : mv_i σ 22 8 - 1 = mv_i S61 22 8 - 1 := by rw [m22]
        refine mv_lpick [2, 3, 4] rfl ?_
        exact j61 _ _ _ hR hF hX hs1 t7 t8 t9 kp ht9
      · skip
        refine mv_iconst (pc := 50) (v := 0) B d_Exprs_join_50 (by decide) ?_
        refine mv_goto (pc := 51) (tgt := 58) B d_Exprs_join_51 rfl ?_
        refine mv_callVv (pc := 58) (n := 1) (ci := 6) (C := R_Exprs) B (mK_ok sk sv) hNs rfl rfl (c_Exprs_hold l hi _ _ hR.1 (by have := hX.1.2.2.1; omega) (by have := hX.1.2.2.1; omega)) rfl (ma_goodc kc_Exprs_hold) (B.2.2.2.1 _ k_1432) (B.2.2.2.1 _ k_1434) (B.2.2.2.1 _ ks_51) (B.2.2.2.1 _ k_7) ⟨by decide +kernel, by decide +kernel, by decide +kernel⟩ rfl d_Exprs_join_58 rfl (Nat.le_of_ble_eq_true rfl) ⟨by decide, by decide⟩ ⟨by decide, by decide⟩ ⟨by decide, by decide⟩ (mv_noH hno _) (fun σ58 h58 => ?_)
        subst h58
        refine mv_gen (fun S61 eS61 => ?_)
        have hR : Rw 48 (mv_r S61) := by rw [eS61]; exact hR
        have hF : RF 48 σ S61 := by rw [eS61]; exact hF.hold _
        have hX : XM 48 th e0 bs BL f0 g0 ns S61 (((123, w8) : Mk) :: ms) (sm wt ms + 1) (sm wr ms + 1) (s0 + 1) := by rw [eS61]; exact hX.hold hP (by omega) _
        have t7 : (mv_i S61 3 7).toInt = a := by rw [eS61]; exact t7
        have t8 : (mv_i S61 3 8).toInt = (mv_i σ 3 8).toInt := by rw [eS61]; exact t8
        have t9 : (mv_i S61 3 9).toInt = (mv_i σ 3 9).toInt := by rw [eS61]; exact t9
        have kp : mv_a S61 4 = mv_a σ 4 := by rw [eS61]; exact kp
        have m22 : mv_i S61 22 8 = mv_i σ 22 8 := by rw [eS61]; exact m22
        clear eS61
        have hs1 : s0 + 1 ≤ s0 + 1 := Nat.le_refl _
        have ht9 : mv_i σ 22 8 - 1 = mv_i S61 22 8 - 1 := by rw [m22]
        refine mv_lpick [2, 3, 4] rfl ?_
        exact j61 _ _ _ hR hF hX hs1 t7 t8 t9 kp ht9
set_option maxHeartbeats 4000000 in
set_option maxRecDepth 100000 in
theorem c_Exprs_join_c (l : Launch) {dA : FieldType → ClassId} {D : va_G} {al : Nat → Nat} {sk sv : Nat → Nat} (hi : mv_inj (mg dA D al me)) (σ : mv_H) (k9 w8 : Int32) {t len n z sz th sl e0 bs ns : Nat} {BL : (Nat → Nat) → Prop} {f0 : Nat → Int32} {g0 : Nat → Int64} {ms : List Mk} {s0 bd a : Nat} (hB0 : SB 145 σ t len n z sz th sl) (ht2 : t = 1 ∨ t = 144) (hX : XM 145 th e0 bs BL f0 g0 ns σ (((123, w8) : Mk) :: ms) (sm wt (((123, w8) : Mk) :: ms) + 1) (sm wr (((123, w8) : Mk) :: ms) + 1) (s0)) (hI : TI σ sz bd (((123, w8) : Mk) :: ms) s0 a) (hlen : len ≤ 8192) (hbs : bs ≤ 1) (hk3 : mv_a σ 4 (mv_i σ 3 7).toNatClampNeg = k9) (hkd : k9 = 44 ∨ k9 = 125) : mv_C l y_Exprs_join (Cond.code y_Exprs_join b_Exprs_join 5 (Option.some Jvm.ClassFile.FieldType.int) :: ma) ({ frames := 3, cells := 0, slots := 0, locals := 63 }) (mg dA D al me) (mK sk sv) [.ref (al 22), .int k9] σ (mv_Ri (fun v σ1 => RF 145 σ σ1 ∧ Mt (mv_a σ1 24) ∧ (v = 0 ∨ v = 1) ∧ (0 ≤ (mv_i σ1 3 9).toInt ∨ ∃ ms2 s2 a2, a < a2 ∧ XM 145 th e0 bs BL f0 g0 ns σ1 (ms2) (sm wt ms2 + v.toNatClampNeg) (sm wr ms2 + v.toNatClampNeg) (s2) ∧ TI σ1 sz bd ms2 s2 a2))) := by
  refine mv_C.ofV (cc := b_Exprs_join) (nL := 5) (ret := (Option.some Jvm.ClassFile.FieldType.int)) (by decide +kernel) rfl hi (Nat.le_of_ble_eq_true rfl) ?_
  intro p e s m below meth c B hNs hr hnm hno
  have hP : PQ 145 := by unfold PQ; omega
  have hR := hB0.1
  have hF : RF 145 σ σ := RF0
  have hT : mv_i σ 3 = mv_i σ 3 := rfl
  have hsz := hB0.2.1.2.2.2.2.2
  have hsz2 := hB0.2.1.2.2.2.1
  have hI5 := hI.2.2.2.2.1
  have ha9 := hI.2.2.2.2.2.1
  have pl := hI.len hX
  have hm8 := hX.1.1
  have t7 := hI.1
  have hw9 := hI.2.1
  have t9 : (mv_i σ 3 9).toInt = (mv_i σ 3 9).toInt := rfl
  have hd8 := hI.2.2.1
  have hd9 := hI.2.2.2.1
  have hWm := hI.2.2.2.2.2.2
  have kp : mv_a σ 4 = mv_a σ 4 := rfl
  have t8 : (mv_i σ 3 8).toInt = (mv_i σ 3 8).toInt := rfl
  obtain ⟨p1, p2, p3, p4⟩ := hX.top
  have g1 : sm wt (((123, w8) : Mk) :: ms) = wt (123, w8) + sm wt ms := rfl
  have g2 : sm wr (((123, w8) : Mk) :: ms) = wr (123, w8) + sm wr ms := rfl
  have g3 : sm wd (((123, w8) : Mk) :: ms) = wd (123, w8) + sm wd ms := rfl
  have g4 : sm wc (((123, w8) : Mk) :: ms) = wc (123, w8) + sm wc ms := rfl
  have g7 : wd (123, w8) = 1 := rfl
  have g8 : wc (123, w8) = 0 := rfl
  have gl : ((((123, w8)) : Mk) :: ms).length = ms.length + 1 := rfl
  have gw := hWm (123, w8) List.mem_cons_self rfl
  have gw0 : 0 ≤ w8.toInt := gw.1
  have gw1 : w8.toInt ≤ a := gw.2
  have gw2 : (w8 + 1).toInt = w8.toInt + 1 := i32_inc (by omega)
  have hw0 : ¬ w8 + 1 = 0 := fun q => by rw [q] at gw2; have : (0 : Int32).toInt = 0 := rfl; omega
  have j61 : ∀ (υ : mv_H) (s1 : Nat) (tp : Int32) (hR : Rw 145 (mv_r υ)) (hF : RF 145 σ υ) (hX : XM 145 th e0 bs BL f0 g0 ns υ (((123, w8) : Mk) :: ms) (sm wt ms + 1) (sm wr ms + 1) (s1)) (hs1 : s1 ≤ s0 + 1) (t7 : (mv_i υ 3 7).toInt = a) (t8 : (mv_i υ 3 8).toInt = (mv_i σ 3 8).toInt) (t9 : (mv_i υ 3 9).toInt = (mv_i σ 3 9).toInt) (kp : mv_a υ 4 = mv_a σ 4) (htp : tp = mv_i υ 22 8 - 1), mv_V p l e ({ frames := 3, cells := 0, slots := 0, locals := 63 }) s m ([.ref (al 22), .int k9] : List Value).toArray below meth c (mg dA D al me) 5 0 0 (mv_Q (mg dA D al me) below s 0 0 (mv_Ri (fun v σ1 => RF 145 σ σ1 ∧ Mt (mv_a σ1 24) ∧ (v = 0 ∨ v = 1) ∧ (0 ≤ (mv_i σ1 3 9).toInt ∨ ∃ ms2 s2 a2, a < a2 ∧ XM 145 th e0 bs BL f0 g0 ns σ1 (ms2) (sm wt ms2 + v.toNatClampNeg) (sm wr ms2 + v.toNatClampNeg) (s2) ∧ TI σ1 sz bd ms2 s2 a2)))) υ 61 [(2, .int tp), (0, .ref (al 22)), (1, .int k9)] [] := by
    intro υ s1 tp hR hF hX hs1 t7 t8 t9 kp htp
    obtain ⟨p1, p2, p3, p4⟩ := hX.top
    have p9 : tp.toNatClampNeg = (mv_i υ 22 8 - 1).toNatClampNeg := by rw [htp]
    have p8 : tp.toInt = (mv_i υ 22 8 - 1).toInt := by rw [htp]
    have p9 : tp = mv_i υ 22 8 - 1 := htp
    have pw : mv_a υ 25 (mv_i υ 22 8 - 1).toNatClampNeg + 1 = w8 + 1 := by rw [p4]
    refine mv_aload_n (pc := 61) B d_Exprs_join_61 rfl 1 rfl ?_
    refine mv_getR (pc := 62) (ci := 6) (C := R_Exprs) (T := F_Exprs) (N := 11) B 6 rfl rfl (by decide) i_Exprs (B.2.2.2.1 _ k_200) rfl (hR.1 _ 6 _ rfl) d_Exprs_join_62 ?_
    refine mv_iload_n (pc := 65) B d_Exprs_join_65 rfl 0 rfl ?_
    refine mv_dup2_11 (pc := 66) B d_Exprs_join_66 rfl rfl ?_
    refine mv_iald (pc := 67) B rfl (i32_in (by rw [p9]; omega) (by rw [p9]; omega)) d_Exprs_join_67 ?_
    refine mv_iconst (pc := 68) (v := 1) B d_Exprs_join_68 (by decide) ?_
    refine mv_iadd (pc := 69) B d_Exprs_join_69 ?_
    refine mv_iast (pc := 70) B rfl (i32_in (by rw [p9]; omega) (by rw [p9]; omega)) d_Exprs_join_70 ?_
    refine mv_gen (fun S71 eS71 => ?_)
    have hR : Rw 145 (mv_r S71) := by rw [eS71]; exact hR
    have hF : RF 145 σ S71 := by rw [eS71]; exact hF.row ⟨by omega, by omega⟩ _ _
    have hX : XM 145 th e0 bs BL f0 g0 ns S71 (((123, w8 + 1) : Mk) :: ms) (sm wt ms + 1) (sm wr ms + 1) (s1) := by rw [eS71, p9, pw]; exact hX.with hP p2 (by decide)
    have t7 := Eq.trans (congrArg Int32.toInt (show mv_i S71 3 7 = mv_i _ 3 7 by rw [eS71]; rfl)) t7
    have t8 := Eq.trans (congrArg Int32.toInt (show mv_i S71 3 8 = mv_i _ 3 8 by rw [eS71]; rfl)) t8
    have t9 := Eq.trans (congrArg Int32.toInt (show mv_i S71 3 9 = mv_i _ 3 9 by rw [eS71]; rfl)) t9
    have kp := Eq.trans (show mv_a S71 4 = mv_a _ 4 by rw [eS71]; rfl) kp
    have e7 : (mv_i S71 3 7).toNatClampNeg = (mv_i σ 3 7).toNatClampNeg := by have := i32_cl (x := mv_i S71 3 7) (by omega); have := i32_cl (x := mv_i σ 3 7) (by omega); omega
    clear eS71
    refine mv_iload_n (pc := 71) B d_Exprs_join_71 rfl 2 rfl ?_
    refine mv_bipush (pc := 72) (v := 44) B d_Exprs_join_72 (by decide) ?_
    refine mv_icmp_ne (pc := 74) (tgt := 89) B d_Exprs_join_74 rfl (fun h74 => ?_) (fun h74 => ?_)
    · skip
      refine mv_aload_n (pc := 89) B d_Exprs_join_89 rfl 1 rfl ?_
      refine mv_getR (pc := 90) (ci := 6) (C := R_Exprs) (T := F_Exprs) (N := 11) B 0 rfl rfl (by decide) i_Exprs (B.2.2.2.1 _ k_193) rfl (hR.1 _ 0 _ rfl) d_Exprs_join_90 ?_
      refine mv_bipush (pc := 93) (v := 125) B d_Exprs_join_93 (by decide) ?_
      refine mv_callVi (pc := 95) (n := 1) (ci := 2) (C := R_Tokens) B (mK_ok sk sv) hNs rfl rfl (c_Tokens_closeN l hi _ _ hR.1 (hB0.rf hF hP ht2).2.1 (by omega) (by omega) (by decide)) rfl (ma_goodc kc_Tokens_close) (B.2.2.2.1 _ k_1468) (B.2.2.2.1 _ k_1397) (B.2.2.2.1 _ k_1398) (B.2.2.2.1 _ k_3) ⟨by decide +kernel, by decide +kernel, by decide +kernel⟩ rfl d_Exprs_join_95 rfl (Nat.le_of_ble_eq_true rfl) ⟨by decide, by decide⟩ ⟨by decide, by decide⟩ ⟨by decide, by decide⟩ (mv_noH hno _) (fun v95 σ95 h95 => ?_)
      obtain ⟨a95, w95, e95, r95⟩ := h95
      have q95 := r95.1
      have z95 := fun q => (r95.2.1 q).1
      have y95 := And.intro r95.2.2.2.1 r95.2.2.2.2.1
      subst e95
      have hw95 := r95.2.2.1 (by rw [t9]; exact hw9) (by rw [kp, e7]; exact hk3.trans (hkd.resolve_left h74)) trivial
      refine mv_gen (fun S98 eS98 => ?_)
      have hR : Rw 145 (mv_r S98) := by rw [eS98]; exact hR
      have hF : RF 145 σ S98 := by rw [eS98]; exact hF.tk3 _ _ _
      have hX : XM 145 th e0 bs BL f0 g0 ns S98 (((123, w8 + 1) : Mk) :: ms) (sm wt ms + 1) (sm wr ms + 1) (s1) := by rw [eS98]; exact hX.tk3 hP _ _ _
      have t7 : (mv_i S98 3 7).toInt = a95.toInt := by rw [eS98]; rfl
      have t8 : (mv_i S98 3 8).toInt = (mv_i σ 3 8).toInt - 1 := by rw [eS98]; first | exact t8 | exact (sub_one (by omega)).trans (by omega) | exact (i32_inc (by omega)).trans (by omega)
      have t9 : (mv_i S98 3 9).toInt = w95.toInt := by rw [eS98]; rfl
      have kS98 : mv_a S98 4 = mv_a σ 4 := by rw [eS98]; first | rfl | exact kp
      have kp := kS98
      clear eS98
      refine mv_pop (pc := 98) B d_Exprs_join_98 rfl ?_
      refine mv_aload_n (pc := 99) B d_Exprs_join_99 rfl 1 rfl ?_
      refine mv_dup (pc := 100) B d_Exprs_join_100 rfl ?_
      refine mv_getI (pc := 101) (ci := 6) (C := R_Exprs) (T := F_Exprs) (N := 11) B 8 rfl rfl (by decide) i_Exprs (B.2.2.2.1 _ k_202) rfl d_Exprs_join_101 ?_
      refine mv_iconst (pc := 104) (v := 1) B d_Exprs_join_104 (by decide) ?_
      refine mv_isub (pc := 105) B d_Exprs_join_105 ?_
      refine mv_putI (pc := 106) (ci := 6) (C := R_Exprs) (T := F_Exprs) (N := 11) B 8 rfl rfl (by decide) i_Exprs t_Exprs_ok n_Exprs (B.2.2.2.1 _ k_202) rfl rfl rfl rfl d_Exprs_join_106 ?_
      refine mv_gen (fun S109 eS109 => ?_)
      have hR : Rw 145 (mv_r S109) := by rw [eS109]; exact hR
      have hF : RF 145 σ S109 := by rw [eS109]; exact hF.pop
      have hX : XM 145 th e0 bs BL f0 g0 ns S109 (ms) (sm wt ms + 1) (sm wr ms + 1) (s1) := by rw [eS109]; exact hX.pop hP ⟨show ¬ (123 : Int32) = 63 by decide, show ¬ (123 : Int32) = 58 by decide⟩
      have t7 := Eq.trans (congrArg Int32.toInt (show mv_i S109 3 7 = mv_i _ 3 7 by rw [eS109]; rfl)) t7
      have t8 := Eq.trans (congrArg Int32.toInt (show mv_i S109 3 8 = mv_i _ 3 8 by rw [eS109]; rfl)) t8
      have t9 := Eq.trans (congrArg Int32.toInt (show mv_i S109 3 9 = mv_i _ 3 9 by rw [eS109]; rfl)) t9
      have kp := Eq.trans (show mv_a S109 4 = mv_a _ 4 by rw [eS109]; rfl) kp
      clear eS109
      refine mv_aload_n (pc := 109) B d_Exprs_join_109 rfl 1 rfl ?_
      refine mv_callVi (pc := 110) (n := 0) (ci := 6) (C := R_Exprs) B (mK_ok sk sv) hNs rfl rfl (c_Exprs_release l hi _ hR.1 (by have := hX.1.2.2.1; omega) (by have := hX.1.2.2.1; omega)) rfl (ma_goodc kc_Exprs_release) (B.2.2.2.1 _ k_1469) (B.2.2.2.1 _ k_1470) (B.2.2.2.1 _ k_1471) (B.2.2.2.1 _ k_7) ⟨by decide +kernel, by decide +kernel, by decide +kernel⟩ rfl d_Exprs_join_110 rfl (Nat.le_of_ble_eq_true rfl) ⟨by decide, by decide⟩ ⟨by decide, by decide⟩ ⟨by decide, by decide⟩ (mv_noH hno _) (fun v110 σ110 h110 => ?_)
      subst h110
      refine mv_gen (fun S113 eS113 => ?_)
      have hR : Rw 145 (mv_r S113) := by rw [eS113]; exact hR
      have hF : RF 145 σ S113 := by rw [eS113]; exact hF.rel
      have hX : XM 145 th e0 bs BL f0 g0 ns S113 (ms) (sm wt ms) (sm wr ms + 1) (s1) := by rw [eS113]; exact hX.rel hP
      have t7 := Eq.trans (congrArg Int32.toInt (show mv_i S113 3 7 = mv_i _ 3 7 by rw [eS113]; rfl)) t7
      have t8 := Eq.trans (congrArg Int32.toInt (show mv_i S113 3 8 = mv_i _ 3 8 by rw [eS113]; rfl)) t8
      have t9 := Eq.trans (congrArg Int32.toInt (show mv_i S113 3 9 = mv_i _ 3 9 by rw [eS113]; rfl)) t9
      have kp := Eq.trans (show mv_a S113 4 = mv_a _ 4 by rw [eS113]; rfl) kp
      have hk9 := hX.tok (i := (mv_i S113 22 8).toNatClampNeg) (by have := hX.n; omega)
      clear eS113
      refine mv_istore_n (pc := 113) B d_Exprs_join_113 rfl (by decide) rfl ?_
      refine mv_iload_n (pc := 114) B d_Exprs_join_114 rfl 0 rfl ?_
      refine mv_bipush (pc := 115) (v := 64) B d_Exprs_join_115 (by decide) ?_
      refine mv_icmp_le (pc := 117) (tgt := 136) B d_Exprs_join_117 rfl (fun h117 => ?_) (fun h117 => ?_)
      · skip
        refine mv_aload_n (pc := 136) B d_Exprs_join_136 rfl 2 rfl ?_
        refine mv_iload_n (pc := 137) B d_Exprs_join_137 rfl 0 rfl ?_
        refine mv_callVv (pc := 138) (n := 1) (ci := 6) (C := R_Exprs) B (mK_ok sk sv) hNs rfl rfl (c_Exprs_hold l hi _ _ hR.1 (by have := hX.1.2.2.1; omega) (by have := hX.1.2.2.1; omega)) rfl (ma_goodc kc_Exprs_hold) (B.2.2.2.1 _ k_1432) (B.2.2.2.1 _ k_1434) (B.2.2.2.1 _ ks_51) (B.2.2.2.1 _ k_7) ⟨by decide +kernel, by decide +kernel, by decide +kernel⟩ rfl d_Exprs_join_138 rfl (Nat.le_of_ble_eq_true rfl) ⟨by decide, by decide⟩ ⟨by decide, by decide⟩ ⟨by decide, by decide⟩ (mv_noH hno _) (fun σ138 h138 => ?_)
        subst h138
        refine mv_gen (fun S141 eS141 => ?_)
        have hR : Rw 145 (mv_r S141) := by rw [eS141]; exact hR
        have hF : RF 145 σ S141 := by rw [eS141]; exact hF.hold _
        have hX : XM 145 th e0 bs BL f0 g0 ns S141 (ms) (sm wt ms + 1) (sm wr ms + 1) (s1) := by rw [eS141]; exact hX.hold hP (by omega) _
        have t7 := Eq.trans (congrArg Int32.toInt (show mv_i S141 3 7 = mv_i _ 3 7 by rw [eS141]; rfl)) t7
        have t8 := Eq.trans (congrArg Int32.toInt (show mv_i S141 3 8 = mv_i _ 3 8 by rw [eS141]; rfl)) t8
        have t9 := Eq.trans (congrArg Int32.toInt (show mv_i S141 3 9 = mv_i _ 3 9 by rw [eS141]; rfl)) t9
        have kp := Eq.trans (show mv_a S141 4 = mv_a _ 4 by rw [eS141]; rfl) kp
        have hend : 0 ≤ (mv_i S141 3 9).toInt ∨ ∃ ms2 s2 a2, a < a2 ∧ XM 145 th e0 bs BL f0 g0 ns S141 (ms2) (sm wt ms2 + (1 : Int32).toNatClampNeg) (sm wr ms2 + (1 : Int32).toNatClampNeg) (s2) ∧ TI S141 sz bd ms2 s2 a2 := Or.inr ⟨ms, s1, a + 1, by omega, hX, by omega, by omega, by omega, by omega, by omega, by omega, hWm.tail.up (by omega)⟩
        clear eS141
        refine mv_iconst (pc := 141) (v := 1) B d_Exprs_join_141 (by decide) ?_
        exact mv_iret (pc := 142) B hr rfl d_Exprs_join_142 (Nat.le_refl _) (Nat.le_refl _) ⟨_, rfl, hF, hX.1.2.2.2.1, Or.inr rfl, hend⟩
      · skip
        refine mv_aload_n (pc := 120) B d_Exprs_join_120 rfl 2 rfl ?_
        refine mv_aload_n (pc := 121) B d_Exprs_join_121 rfl 2 rfl ?_
        refine mv_getR (pc := 122) (ci := 6) (C := R_Exprs) (T := F_Exprs) (N := 11) B 5 rfl rfl (by decide) i_Exprs (B.2.2.2.1 _ k_199) rfl (hR.1 _ 5 _ rfl) d_Exprs_join_122 ?_
        refine mv_aload_n (pc := 125) B d_Exprs_join_125 rfl 2 rfl ?_
        refine mv_getI (pc := 126) (ci := 6) (C := R_Exprs) (T := F_Exprs) (N := 11) B 8 rfl rfl (by decide) i_Exprs (B.2.2.2.1 _ k_202) rfl d_Exprs_join_126 ?_
        refine mv_iald (pc := 129) B rfl (i32_in (show 0 ≤ (mv_i S113 22 8).toInt by have := hX.1.1; omega) (show (mv_i S113 22 8).toInt < 1024 by have := hX.1.1; omega)) d_Exprs_join_129 ?_
        refine mv_iconst (pc := 130) (v := 4) B d_Exprs_join_130 (by decide) ?_
        refine mv_callVv (pc := 131) (n := 2) (ci := 6) (C := R_Exprs) B (mK_ok sk sv) hNs rfl rfl (c_Exprs_tell l hi _ _ _ hR.1 hk9.1 hk9.2 (by decide)) rfl (ma_goodc kc_Exprs_tell) (B.2.2.2.1 _ k_1427) (B.2.2.2.1 _ k_1429) (B.2.2.2.1 _ ks_50) (B.2.2.2.1 _ k_7) ⟨by decide +kernel, by decide +kernel, by decide +kernel⟩ rfl d_Exprs_join_131 rfl (Nat.le_of_ble_eq_true rfl) ⟨by decide, by decide⟩ ⟨by decide, by decide⟩ ⟨by decide, by decide⟩ (mv_noH hno _) (fun σ131 h131 => ?_)
        obtain ⟨x9, y9, e131, z131⟩ := h131
        subst e131
        refine mv_gen (fun S134 eS134 => ?_)
        have hR : Rw 145 (mv_r S134) := by rw [eS134]; exact hR
        have hF : RF 145 σ S134 := by rw [eS134]; exact hF.tell _ _
        have hX : XM 145 th e0 bs BL f0 g0 ns S134 (ms) (sm wt ms) (sm wr ms + 1) (s1) := by rw [eS134]; exact hX.tell hP z131 _ _
        have t7 := Eq.trans (congrArg Int32.toInt (show mv_i S134 3 7 = mv_i _ 3 7 by rw [eS134]; rfl)) t7
        have t8 := Eq.trans (congrArg Int32.toInt (show mv_i S134 3 8 = mv_i _ 3 8 by rw [eS134]; rfl)) t8
        have t9 := Eq.trans (congrArg Int32.toInt (show mv_i S134 3 9 = mv_i _ 3 9 by rw [eS134]; rfl)) t9
        have kp := Eq.trans (show mv_a S134 4 = mv_a _ 4 by rw [eS134]; rfl) kp
        clear eS134
        refine mv_iconst (pc := 134) (v := 0) B d_Exprs_join_134 (by decide) ?_
        refine mv_istore_n (pc := 135) B d_Exprs_join_135 rfl (by decide) rfl ?_
        refine mv_aload_n (pc := 136) B d_Exprs_join_136 rfl 2 rfl ?_
        refine mv_iload_n (pc := 137) B d_Exprs_join_137 rfl 0 rfl ?_
        refine mv_callVv (pc := 138) (n := 1) (ci := 6) (C := R_Exprs) B (mK_ok sk sv) hNs rfl rfl (c_Exprs_hold l hi _ _ hR.1 (by have := hX.1.2.2.1; omega) (by have := hX.1.2.2.1; omega)) rfl (ma_goodc kc_Exprs_hold) (B.2.2.2.1 _ k_1432) (B.2.2.2.1 _ k_1434) (B.2.2.2.1 _ ks_51) (B.2.2.2.1 _ k_7) ⟨by decide +kernel, by decide +kernel, by decide +kernel⟩ rfl d_Exprs_join_138 rfl (Nat.le_of_ble_eq_true rfl) ⟨by decide, by decide⟩ ⟨by decide, by decide⟩ ⟨by decide, by decide⟩ (mv_noH hno _) (fun σ138 h138 => ?_)
        subst h138
        refine mv_gen (fun S141 eS141 => ?_)
        have hR : Rw 145 (mv_r S141) := by rw [eS141]; exact hR
        have hF : RF 145 σ S141 := by rw [eS141]; exact hF.hold _
        have hX : XM 145 th e0 bs BL f0 g0 ns S141 (ms) (sm wt ms + 1) (sm wr ms + 1) (s1) := by rw [eS141]; exact hX.hold hP (by omega) _
        have t7 := Eq.trans (congrArg Int32.toInt (show mv_i S141 3 7 = mv_i _ 3 7 by rw [eS141]; rfl)) t7
        have t8 := Eq.trans (congrArg Int32.toInt (show mv_i S141 3 8 = mv_i _ 3 8 by rw [eS141]; rfl)) t8
        have t9 := Eq.trans (congrArg Int32.toInt (show mv_i S141 3 9 = mv_i _ 3 9 by rw [eS141]; rfl)) t9
        have kp := Eq.trans (show mv_a S141 4 = mv_a _ 4 by rw [eS141]; rfl) kp
        have hend : 0 ≤ (mv_i S141 3 9).toInt ∨ ∃ ms2 s2 a2, a < a2 ∧ XM 145 th e0 bs BL f0 g0 ns S141 (ms2) (sm wt ms2 + (1 : Int32).toNatClampNeg) (sm wr ms2 + (1 : Int32).toNatClampNeg) (s2) ∧ TI S141 sz bd ms2 s2 a2 := Or.inr ⟨ms, s1, a + 1, by omega, hX, by omega, by omega, by omega, by omega, by omega, by omega, hWm.tail.up (by omega)⟩
        clear eS141
        refine mv_iconst (pc := 141) (v := 1) B d_Exprs_join_141 (by decide) ?_
        exact mv_iret (pc := 142) B hr rfl d_Exprs_join_142 (Nat.le_refl _) (Nat.le_refl _) ⟨_, rfl, hF, hX.1.2.2.2.1, Or.inr rfl, hend⟩
    · skip
      refine mv_aload_n (pc := 77) B d_Exprs_join_77 rfl 1 rfl ?_
      refine mv_getR (pc := 78) (ci := 6) (C := R_Exprs) (T := F_Exprs) (N := 11) B 0 rfl rfl (by decide) i_Exprs (B.2.2.2.1 _ k_193) rfl (hR.1 _ 0 _ rfl) d_Exprs_join_78 ?_
      refine mv_bipush (pc := 81) (v := 44) B d_Exprs_join_81 (by decide) ?_
      refine mv_callVi (pc := 83) (n := 1) (ci := 2) (C := R_Tokens) B (mK_ok sk sv) hNs rfl rfl (c_Tokens_takeN l hi _ _ hR.1 (hB0.rf hF hP ht2).2.1 (by omega) (by omega) (by decide)) rfl (ma_goodc kc_Tokens_take) (B.2.2.2.1 _ k_1424) (B.2.2.2.1 _ k_1267) (B.2.2.2.1 _ k_1268) (B.2.2.2.1 _ k_3) ⟨by decide +kernel, by decide +kernel, by decide +kernel⟩ rfl d_Exprs_join_83 rfl (Nat.le_of_ble_eq_true rfl) ⟨by decide, by decide⟩ ⟨by decide, by decide⟩ ⟨by decide, by decide⟩ (mv_noH hno _) (fun v83 σ83 h83 => ?_)
      obtain ⟨a83, w83, e83, r83⟩ := h83
      have q83 := r83.1
      have z83 := fun q => (r83.2.1 q).1
      have y83 := And.intro r83.2.2.2.1 r83.2.2.2.2.1
      subst e83
      have hw83 := r83.2.2.1 (by rw [t9]; exact hw9) (by rw [kp, e7]; exact hk3.trans h74) trivial
      refine mv_gen (fun S86 eS86 => ?_)
      have hR : Rw 145 (mv_r S86) := by rw [eS86]; exact hR
      have hF : RF 145 σ S86 := by rw [eS86]; exact hF.tk3 _ _ _
      have hX : XM 145 th e0 bs BL f0 g0 ns S86 (((123, w8 + 1) : Mk) :: ms) (sm wt ms + 1) (sm wr ms + 1) (s1) := by rw [eS86]; exact hX.tk3 hP _ _ _
      have t7 : (mv_i S86 3 7).toInt = a83.toInt := by rw [eS86]; rfl
      have t8 : (mv_i S86 3 8).toInt = (mv_i σ 3 8).toInt := by rw [eS86]; first | exact t8 | exact (sub_one (by omega)).trans (by omega) | exact (i32_inc (by omega)).trans (by omega)
      have t9 : (mv_i S86 3 9).toInt = w83.toInt := by rw [eS86]; rfl
      have kS86 : mv_a S86 4 = mv_a σ 4 := by rw [eS86]; first | rfl | exact kp
      have kp := kS86
      have y1 : sm wt (((123, w8 + 1) : Mk) :: ms) = wt (123, w8 + 1) + sm wt ms := rfl
      have y2 : sm wr (((123, w8 + 1) : Mk) :: ms) = wr (123, w8 + 1) + sm wr ms := rfl
      have y3 : sm wd (((123, w8 + 1) : Mk) :: ms) = wd (123, w8 + 1) + sm wd ms := rfl
      have y4 : sm wc (((123, w8 + 1) : Mk) :: ms) = wc (123, w8 + 1) + sm wc ms := rfl
      have x1 : wt (123, w8 + 1) = 1 := if_neg hw0
      have x2 : wr (123, w8 + 1) = 1 := if_neg hw0
      have x3 : wd (123, w8 + 1) = 1 := rfl
      have x4 : wc (123, w8 + 1) = 0 := rfl
      have hend : 0 ≤ (mv_i S86 3 9).toInt ∨ ∃ ms2 s2 a2, a < a2 ∧ XM 145 th e0 bs BL f0 g0 ns S86 (ms2) (sm wt ms2 + (0 : Int32).toNatClampNeg) (sm wr ms2 + (0 : Int32).toNatClampNeg) (s2) ∧ TI S86 sz bd ms2 s2 a2 := by
        refine Or.inr ⟨((123, w8 + 1) : Mk) :: ms, s1, a + 1, by omega, ?_, by omega, by omega, by omega, by omega, by omega, by omega, (hWm.tail.up (by omega)).cons (fun _ => ⟨by show 0 ≤ (w8 + 1).toInt; omega, by show (w8 + 1).toInt ≤ ((a + 1 : Nat) : Int); omega⟩)⟩
        rw [y1, y2, x1, x2, Nat.add_comm 1, Nat.add_comm 1]
        exact hX
      clear eS86
      refine mv_pop (pc := 86) B d_Exprs_join_86 rfl ?_
      refine mv_iconst (pc := 87) (v := 0) B d_Exprs_join_87 (by decide) ?_
      exact mv_iret (pc := 88) B hr rfl d_Exprs_join_88 (Nat.le_refl _) (Nat.le_refl _) ⟨_, rfl, hF, hX.1.2.2.2.1, Or.inl rfl, hend⟩
  refine mv_aload_n (pc := 0) B d_Exprs_join_0 rfl 0 rfl ?_
  refine mv_getI (pc := 1) (ci := 6) (C := R_Exprs) (T := F_Exprs) (N := 11) B 8 rfl rfl (by decide) i_Exprs (B.2.2.2.1 _ k_202) rfl d_Exprs_join_1 ?_
  refine mv_iconst (pc := 4) (v := 1) B d_Exprs_join_4 (by decide) ?_
  refine mv_isub (pc := 5) B d_Exprs_join_5 ?_
  refine mv_istore_n (pc := 6) B d_Exprs_join_6 rfl (by decide) rfl ?_
  refine mv_aload_n (pc := 7) B d_Exprs_join_7 rfl 1 rfl ?_
  refine mv_getR (pc := 8) (ci := 6) (C := R_Exprs) (T := F_Exprs) (N := 11) B 6 rfl rfl (by decide) i_Exprs (B.2.2.2.1 _ k_200) rfl (hR.1 _ 6 _ rfl) d_Exprs_join_8 ?_
  refine mv_iload_n (pc := 11) B d_Exprs_join_11 rfl 0 rfl ?_
  refine mv_iald (pc := 12) B rfl (i32_in (by omega) (by omega)) d_Exprs_join_12 ?_
  rw [p4]
  refine mv_if_le (pc := 13) (tgt := 61) B d_Exprs_join_13 rfl (fun h13 => ?_) (fun h13 => ?_)
  · skip
    rw [Int32.le_iff_toInt_le] at h13
    simp only [Int32.reduceToInt] at h13
    have w0 : w8 = 0 := Int32.toInt_inj.mp (by show w8.toInt = 0; omega)
    have x5 : wt (123, w8) = 0 := if_pos w0
    have x6 : wr (123, w8) = 0 := if_pos w0
    rw [g1, g2, x5, x6, Nat.zero_add, Nat.zero_add] at hX
    have hs1 : s0 ≤ s0 + 1 := Nat.le_succ _
    have ht9 : mv_i σ 22 8 - 1 = mv_i σ 22 8 - 1 := rfl
    refine mv_lpick [0, 1, 2] rfl ?_
    exact j61 _ _ _ hR hF hX hs1 t7 t8 t9 kp ht9
  · skip
    rw [Int32.le_iff_toInt_le] at h13
    simp only [Int32.reduceToInt] at h13
    have w0 : ¬ w8 = 0 := fun q => by rw [q] at h13; exact h13 (by decide)
    have x5 : wt (123, w8) = 1 := if_neg w0
    have x6 : wr (123, w8) = 1 := if_neg w0
    rw [g1, g2, x5, x6, show 1 + sm wt ms + 1 = sm wt ms + 1 + 1 by omega, show 1 + sm wr ms + 1 = sm wr ms + 2 by omega] at hX
    have m22 : mv_i σ 22 8 = mv_i σ 22 8 := rfl
    refine mv_aload_n (pc := 16) B d_Exprs_join_16 rfl 1 rfl ?_
    refine mv_callVi (pc := 17) (n := 0) (ci := 6) (C := R_Exprs) B (mK_ok sk sv) hNs rfl rfl (c_Exprs_release l hi _ hR.1 (by have := hX.1.2.2.1; omega) (by have := hX.1.2.2.1; omega)) rfl (ma_goodc kc_Exprs_release) (B.2.2.2.1 _ k_1469) (B.2.2.2.1 _ k_1470) (B.2.2.2.1 _ k_1471) (B.2.2.2.1 _ k_7) ⟨by decide +kernel, by decide +kernel, by decide +kernel⟩ rfl d_Exprs_join_17 rfl (Nat.le_of_ble_eq_true rfl) ⟨by decide, by decide⟩ ⟨by decide, by decide⟩ ⟨by decide, by decide⟩ (mv_noH hno _) (fun v17 σ17 h17 => ?_)
    subst h17
    refine mv_gen (fun S20 eS20 => ?_)
    have hR : Rw 145 (mv_r S20) := by rw [eS20]; exact hR
    have hF : RF 145 σ S20 := by rw [eS20]; exact hF.rel
    have hX : XM 145 th e0 bs BL f0 g0 ns S20 (((123, w8) : Mk) :: ms) (sm wt ms + 1) (sm wr ms + 2) (s0) := by rw [eS20]; exact hX.rel hP
    have t7 : (mv_i S20 3 7).toInt = a := by rw [eS20]; exact t7
    have t8 : (mv_i S20 3 8).toInt = (mv_i σ 3 8).toInt := by rw [eS20]; exact t8
    have t9 : (mv_i S20 3 9).toInt = (mv_i σ 3 9).toInt := by rw [eS20]; exact t9
    have kp : mv_a S20 4 = mv_a σ 4 := by rw [eS20]; exact kp
    have m22 : mv_i S20 22 8 = mv_i σ 22 8 := by rw [eS20]; exact m22
    clear eS20
    refine mv_istore_n (pc := 20) B d_Exprs_join_20 rfl (by decide) rfl ?_
    refine mv_aload_n (pc := 21) B d_Exprs_join_21 rfl 2 rfl ?_
    refine mv_callVi (pc := 22) (n := 0) (ci := 6) (C := R_Exprs) B (mK_ok sk sv) hNs rfl rfl (c_Exprs_release l hi _ hR.1 (by have := hX.1.2.2.1; omega) (by have := hX.1.2.2.1; omega)) rfl (ma_goodc kc_Exprs_release) (B.2.2.2.1 _ k_1469) (B.2.2.2.1 _ k_1470) (B.2.2.2.1 _ k_1471) (B.2.2.2.1 _ k_7) ⟨by decide +kernel, by decide +kernel, by decide +kernel⟩ rfl d_Exprs_join_22 rfl (Nat.le_of_ble_eq_true rfl) ⟨by decide, by decide⟩ ⟨by decide, by decide⟩ ⟨by decide, by decide⟩ (mv_noH hno _) (fun v22 σ22 h22 => ?_)
    subst h22
    refine mv_gen (fun S25 eS25 => ?_)
    have hR : Rw 145 (mv_r S25) := by rw [eS25]; exact hR
    have hF : RF 145 σ S25 := by rw [eS25]; exact hF.rel
    have hX : XM 145 th e0 bs BL f0 g0 ns S25 (((123, w8) : Mk) :: ms) (sm wt ms) (sm wr ms + 2) (s0) := by rw [eS25]; exact hX.rel hP
    have t7 : (mv_i S25 3 7).toInt = a := by rw [eS25]; exact t7
    have t8 : (mv_i S25 3 8).toInt = (mv_i σ 3 8).toInt := by rw [eS25]; exact t8
    have t9 : (mv_i S25 3 9).toInt = (mv_i σ 3 9).toInt := by rw [eS25]; exact t9
    have kp : mv_a S25 4 = mv_a σ 4 := by rw [eS25]; exact kp
    have m22 : mv_i S25 22 8 = mv_i σ 22 8 := by rw [eS25]; exact m22
    clear eS25
    refine mv_istore (pc := 25) B d_Exprs_join_25 (by decide) rfl ?_
    refine mv_aload_n (pc := 27) B d_Exprs_join_27 rfl 3 rfl ?_
    refine mv_getR (pc := 28) (ci := 6) (C := R_Exprs) (T := F_Exprs) (N := 11) B 3 rfl rfl (by decide) i_Exprs (B.2.2.2.1 _ k_197) rfl hR.2.2.2 d_Exprs_join_28 ?_
    refine mv_sipush (pc := 31) (v := 309) B d_Exprs_join_31 (by decide) ?_
    refine mv_iload_n (pc := 34) B d_Exprs_join_34 rfl 1 rfl ?_
    refine mv_i2l (pc := 35) B d_Exprs_join_35 ?_
    refine mv_callVi (pc := 36) (n := 2) (ci := 7) (C := R_Program) B (mK_ok sk sv) hNs rfl rfl (c_Program_emit_c l hi _ _ _ hR.2.1 (by have := hX.2.1.1; omega) (by have := hX.2.1.1; omega)) rfl (ma_goodc kc_Program_emit) (B.2.2.2.1 _ k_1425) (B.2.2.2.1 _ k_1385) (B.2.2.2.1 _ k_1386) (B.2.2.2.1 _ k_8) ⟨by decide +kernel, by decide +kernel, by decide +kernel⟩ rfl d_Exprs_join_36 rfl (Nat.le_of_ble_eq_true rfl) ⟨by decide, by decide⟩ ⟨by decide, by decide⟩ ⟨by decide, by decide⟩ (mv_noH hno _) (fun v36 σ36 h36 => ?_)
    obtain ⟨e36, -⟩ := h36
    subst e36
    refine mv_gen (fun S39 eS39 => ?_)
    have hR : Rw 145 (mv_r S39) := by rw [eS39]; exact hR
    have hF : RF 145 σ S39 := by rw [eS39]; exact hF.emit _ _
    have hX : XM 145 th e0 bs BL f0 g0 ns S39 (((123, w8) : Mk) :: ms) (sm wt ms) (sm wr ms + 1) (s0 + 1) := by rw [eS39]; exact hX.emit0 hP (by omega) (sm wr ms + 1) (by decide) (by decide) (Op1_join th _ (bs + sm wr ms)) (by omega)
    have t7 : (mv_i S39 3 7).toInt = a := by rw [eS39]; exact t7
    have t8 : (mv_i S39 3 8).toInt = (mv_i σ 3 8).toInt := by rw [eS39]; exact t8
    have t9 : (mv_i S39 3 9).toInt = (mv_i σ 3 9).toInt := by rw [eS39]; exact t9
    have kp : mv_a S39 4 = mv_a σ 4 := by rw [eS39]; exact kp
    have m22 : mv_i S39 22 8 = mv_i σ 22 8 := by rw [eS39]; exact m22
    clear eS39
    refine mv_pop (pc := 39) B d_Exprs_join_39 rfl ?_
    refine mv_aload_n (pc := 40) B d_Exprs_join_40 rfl 3 rfl ?_
    refine mv_iload (pc := 41) B d_Exprs_join_41 0 rfl ?_
    refine mv_if_eq (pc := 43) (tgt := 50) B d_Exprs_join_43 rfl (fun h43 => ?_) (fun h43 => ?_)
    · skip
      refine mv_iconst (pc := 50) (v := 0) B d_Exprs_join_50 (by decide) ?_
      refine mv_goto (pc := 51) (tgt := 58) B d_Exprs_join_51 rfl ?_
      refine mv_callVv (pc := 58) (n := 1) (ci := 6) (C := R_Exprs) B (mK_ok sk sv) hNs rfl rfl (c_Exprs_hold l hi _ _ hR.1 (by have := hX.1.2.2.1; omega) (by have := hX.1.2.2.1; omega)) rfl (ma_goodc kc_Exprs_hold) (B.2.2.2.1 _ k_1432) (B.2.2.2.1 _ k_1434) (B.2.2.2.1 _ ks_51) (B.2.2.2.1 _ k_7) ⟨by decide +kernel, by decide +kernel, by decide +kernel⟩ rfl d_Exprs_join_58 rfl (Nat.le_of_ble_eq_true rfl) ⟨by decide, by decide⟩ ⟨by decide, by decide⟩ ⟨by decide, by decide⟩ (mv_noH hno _) (fun σ58 h58 => ?_)
      subst h58
      refine mv_gen (fun S61 eS61 => ?_)
      have hR : Rw 145 (mv_r S61) := by rw [eS61]; exact hR
      have hF : RF 145 σ S61 := by rw [eS61]; exact hF.hold _
      have hX : XM 145 th e0 bs BL f0 g0 ns S61 (((123, w8) : Mk) :: ms) (sm wt ms + 1) (sm wr ms + 1) (s0 + 1) := by rw [eS61]; exact hX.hold hP (by omega) _
      have t7 : (mv_i S61 3 7).toInt = a := by rw [eS61]; exact t7
      have t8 : (mv_i S61 3 8).toInt = (mv_i σ 3 8).toInt := by rw [eS61]; exact t8
      have t9 : (mv_i S61 3 9).toInt = (mv_i σ 3 9).toInt := by rw [eS61]; exact t9
      have kp : mv_a S61 4 = mv_a σ 4 := by rw [eS61]; exact kp
      have m22 : mv_i S61 22 8 = mv_i σ 22 8 := by rw [eS61]; exact m22
      clear eS61
      have hs1 : s0 + 1 ≤ s0 + 1 := Nat.le_refl _
      have ht9 : mv_i σ 22 8 - 1 = mv_i S61 22 8 - 1 := by rw [m22]
      refine mv_lpick [2, 3, 4] rfl ?_
      exact j61 _ _ _ hR hF hX hs1 t7 t8 t9 kp ht9
    · skip
      refine mv_iload_n (pc := 46) B d_Exprs_join_46 rfl 1 rfl ?_
      refine mv_if_ne (pc := 47) (tgt := 54) B d_Exprs_join_47 rfl (fun h47 => ?_) (fun h47 => ?_)
      · skip
        refine mv_iload (pc := 54) B d_Exprs_join_54 0 rfl ?_
        refine mv_iload_n (pc := 56) B d_Exprs_join_56 rfl 1 rfl ?_
        refine mv_iadd (pc := 57) B d_Exprs_join_57 ?_
        refine mv_callVv (pc := 58) (n := 1) (ci := 6) (C := R_Exprs) B (mK_ok sk sv) hNs rfl rfl (c_Exprs_hold l hi _ _ hR.1 (by have := hX.1.2.2.1; omega) (by have := hX.1.2.2.1; omega)) rfl (ma_goodc kc_Exprs_hold) (B.2.2.2.1 _ k_1432) (B.2.2.2.1 _ k_1434) (B.2.2.2.1 _ ks_51) (B.2.2.2.1 _ k_7) ⟨by decide +kernel, by decide +kernel, by decide +kernel⟩ rfl d_Exprs_join_58 rfl (Nat.le_of_ble_eq_true rfl) ⟨by decide, by decide⟩ ⟨by decide, by decide⟩ ⟨by decide, by decide⟩ (mv_noH hno _) (fun σ58 h58 => ?_)
        subst h58
        refine mv_gen (fun S61 eS61 => ?_)
        have hR : Rw 145 (mv_r S61) := by rw [eS61]; exact hR
        have hF : RF 145 σ S61 := by rw [eS61]; exact hF.hold _
        have hX : XM 145 th e0 bs BL f0 g0 ns S61 (((123, w8) : Mk) :: ms) (sm wt ms + 1) (sm wr ms + 1) (s0 + 1) := by rw [eS61]; exact hX.hold hP (by omega) _
        have t7 : (mv_i S61 3 7).toInt = a := by rw [eS61]; exact t7
        have t8 : (mv_i S61 3 8).toInt = (mv_i σ 3 8).toInt := by rw [eS61]; exact t8
        have t9 : (mv_i S61 3 9).toInt = (mv_i σ 3 9).toInt := by rw [eS61]; exact t9
        have kp : mv_a S61 4 = mv_a σ 4 := by rw [eS61]; exact kp
        have m22 : mv_i S61 22 8 = mv_i σ 22 8 := by rw [eS61]; exact m22
        clear eS61
        have hs1 : s0 + 1 ≤ s0 + 1 := Nat.le_refl _
        have ht9 : mv_i σ 22 8 - 1 = mv_i S61 22 8 - 1 := by rw [m22]
        refine mv_lpick [2, 3, 4] rfl ?_
        exact j61 _ _ _ hR hF hX hs1 t7 t8 t9 kp ht9
      · skip
        refine mv_iconst (pc := 50) (v := 0) B d_Exprs_join_50 (by decide) ?_
        refine mv_goto (pc := 51) (tgt := 58) B d_Exprs_join_51 rfl ?_
        refine mv_callVv (pc := 58) (n := 1) (ci := 6) (C := R_Exprs) B (mK_ok sk sv) hNs rfl rfl (c_Exprs_hold l hi _ _ hR.1 (by have := hX.1.2.2.1; omega) (by have := hX.1.2.2.1; omega)) rfl (ma_goodc kc_Exprs_hold) (B.2.2.2.1 _ k_1432) (B.2.2.2.1 _ k_1434) (B.2.2.2.1 _ ks_51) (B.2.2.2.1 _ k_7) ⟨by decide +kernel, by decide +kernel, by decide +kernel⟩ rfl d_Exprs_join_58 rfl (Nat.le_of_ble_eq_true rfl) ⟨by decide, by decide⟩ ⟨by decide, by decide⟩ ⟨by decide, by decide⟩ (mv_noH hno _) (fun σ58 h58 => ?_)
        subst h58
        refine mv_gen (fun S61 eS61 => ?_)
        have hR : Rw 145 (mv_r S61) := by rw [eS61]; exact hR
        have hF : RF 145 σ S61 := by rw [eS61]; exact hF.hold _
        have hX : XM 145 th e0 bs BL f0 g0 ns S61 (((123, w8) : Mk) :: ms) (sm wt ms + 1) (sm wr ms + 1) (s0 + 1) := by rw [eS61]; exact hX.hold hP (by omega) _
        have t7 : (mv_i S61 3 7).toInt = a := by rw [eS61]; exact t7
        have t8 : (mv_i S61 3 8).toInt = (mv_i σ 3 8).toInt := by rw [eS61]; exact t8
        have t9 : (mv_i S61 3 9).toInt = (mv_i σ 3 9).toInt := by rw [eS61]; exact t9
        have kp : mv_a S61 4 = mv_a σ 4 := by rw [eS61]; exact kp
        have m22 : mv_i S61 22 8 = mv_i σ 22 8 := by rw [eS61]; exact m22
        clear eS61
        have hs1 : s0 + 1 ≤ s0 + 1 := Nat.le_refl _
        have ht9 : mv_i σ 22 8 - 1 = mv_i S61 22 8 - 1 := by rw [m22]
        refine mv_lpick [2, 3, 4] rfl ?_
        exact j61 _ _ _ hR hF hX hs1 t7 t8 t9 kp ht9
