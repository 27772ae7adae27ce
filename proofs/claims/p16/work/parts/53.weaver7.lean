/-! Weaver: beginLet, beginAssignment -/
def y_Weaver_beginLet : MethodName := ⟨"MachineLoom$Weaver", "beginLet", "()V"⟩
abbrev b_Weaver_beginLet : ByteArray := prog_12_method_19_code
theorem kc_Weaver_beginLet : Cond.code y_Weaver_beginLet b_Weaver_beginLet 2 (Option.none : Option Jvm.ClassFile.FieldType) ∈ ma := ma_of (tb_6 _ (List.mem_of_getElem? (i := 170) rfl)) rfl
theorem k_239 : (Jvm.Cond.fieldLink "MachineLoom$Weaver" (290 : Nat) "MachineLoom$Weaver" "goalIndex" "I") ∈ ma := ma_of (tb_1 _ (List.mem_of_getElem? (i := 239) rfl)) rfl
theorem k_149 : (Jvm.Cond.fieldLink "MachineLoom$Weaver" (293 : Nat) "MachineLoom$Names" "lets" "I") ∈ ma := ma_of (tb_1 _ (List.mem_of_getElem? (i := 149) rfl)) rfl
theorem d_Weaver_beginLet_0 : decode b_Weaver_beginLet 0 = .ok (.aload_n 0, 1) := by decide +kernel
theorem d_Weaver_beginLet_1 : decode b_Weaver_beginLet 1 = .ok (.getfield 12, 3) := by decide +kernel
theorem d_Weaver_beginLet_4 : decode b_Weaver_beginLet 4 = .ok (.sipush 207, 3) := by decide +kernel
theorem d_Weaver_beginLet_7 : decode b_Weaver_beginLet 7 = .ok (.invokevirtual 143, 3) := by decide +kernel
theorem d_Weaver_beginLet_10 : decode b_Weaver_beginLet 10 = .ok (.pop, 1) := by decide +kernel
theorem d_Weaver_beginLet_11 : decode b_Weaver_beginLet 11 = .ok (.aload_n 0, 1) := by decide +kernel
theorem d_Weaver_beginLet_12 : decode b_Weaver_beginLet 12 = .ok (.getfield 12, 3) := by decide +kernel
theorem d_Weaver_beginLet_15 : decode b_Weaver_beginLet 15 = .ok (.iconst 3, 1) := by decide +kernel
theorem d_Weaver_beginLet_16 : decode b_Weaver_beginLet 16 = .ok (.invokevirtual 143, 3) := by decide +kernel
theorem d_Weaver_beginLet_19 : decode b_Weaver_beginLet 19 = .ok (.istore_n 1, 1) := by decide +kernel
theorem d_Weaver_beginLet_20 : decode b_Weaver_beginLet 20 = .ok (.aload_n 0, 1) := by decide +kernel
theorem d_Weaver_beginLet_21 : decode b_Weaver_beginLet 21 = .ok (.aload_n 0, 1) := by decide +kernel
theorem d_Weaver_beginLet_22 : decode b_Weaver_beginLet 22 = .ok (.getfield 12, 3) := by decide +kernel
theorem d_Weaver_beginLet_25 : decode b_Weaver_beginLet 25 = .ok (.bipush 61, 2) := by decide +kernel
theorem d_Weaver_beginLet_27 : decode b_Weaver_beginLet 27 = .ok (.invokevirtual 143, 3) := by decide +kernel
theorem d_Weaver_beginLet_30 : decode b_Weaver_beginLet 30 = .ok (.putfield 281, 3) := by decide +kernel
theorem d_Weaver_beginLet_33 : decode b_Weaver_beginLet 33 = .ok (.aload_n 0, 1) := by decide +kernel
theorem d_Weaver_beginLet_34 : decode b_Weaver_beginLet 34 = .ok (.aload_n 0, 1) := by decide +kernel
theorem d_Weaver_beginLet_35 : decode b_Weaver_beginLet 35 = .ok (.iload_n 1, 1) := by decide +kernel
theorem d_Weaver_beginLet_36 : decode b_Weaver_beginLet 36 = .ok (.invokevirtual 185, 3) := by decide +kernel
theorem d_Weaver_beginLet_39 : decode b_Weaver_beginLet 39 = .ok (.putfield 290, 3) := by decide +kernel
theorem d_Weaver_beginLet_42 : decode b_Weaver_beginLet 42 = .ok (.aload_n 0, 1) := by decide +kernel
theorem d_Weaver_beginLet_43 : decode b_Weaver_beginLet 43 = .ok (.getfield 27, 3) := by decide +kernel
theorem d_Weaver_beginLet_46 : decode b_Weaver_beginLet 46 = .ok (.aload_n 0, 1) := by decide +kernel
theorem d_Weaver_beginLet_47 : decode b_Weaver_beginLet 47 = .ok (.getfield 290, 3) := by decide +kernel
theorem d_Weaver_beginLet_50 : decode b_Weaver_beginLet 50 = .ok (.invokevirtual 200, 3) := by decide +kernel
theorem d_Weaver_beginLet_53 : decode b_Weaver_beginLet 53 = .ok (.ifCond .eq (17), 3) := by decide +kernel
theorem d_Weaver_beginLet_56 : decode b_Weaver_beginLet 56 = .ok (.aload_n 0, 1) := by decide +kernel
theorem d_Weaver_beginLet_57 : decode b_Weaver_beginLet 57 = .ok (.iload_n 1, 1) := by decide +kernel
theorem d_Weaver_beginLet_58 : decode b_Weaver_beginLet 58 = .ok (.iconst 2, 1) := by decide +kernel
theorem d_Weaver_beginLet_59 : decode b_Weaver_beginLet 59 = .ok (.invokevirtual 158, 3) := by decide +kernel
theorem d_Weaver_beginLet_62 : decode b_Weaver_beginLet 62 = .ok (.aload_n 0, 1) := by decide +kernel
theorem d_Weaver_beginLet_63 : decode b_Weaver_beginLet 63 = .ok (.iconst (-1), 1) := by decide +kernel
theorem d_Weaver_beginLet_64 : decode b_Weaver_beginLet 64 = .ok (.putfield 290, 3) := by decide +kernel
theorem d_Weaver_beginLet_67 : decode b_Weaver_beginLet 67 = .ok (.goto (27), 3) := by decide +kernel
theorem d_Weaver_beginLet_70 : decode b_Weaver_beginLet 70 = .ok (.aload_n 0, 1) := by decide +kernel
theorem d_Weaver_beginLet_71 : decode b_Weaver_beginLet 71 = .ok (.getfield 27, 3) := by decide +kernel
theorem d_Weaver_beginLet_74 : decode b_Weaver_beginLet 74 = .ok (.getfield 293, 3) := by decide +kernel
theorem d_Weaver_beginLet_77 : decode b_Weaver_beginLet 77 = .ok (.bipush 64, 2) := by decide +kernel
theorem d_Weaver_beginLet_79 : decode b_Weaver_beginLet 79 = .ok (.if_icmp .ne (15), 3) := by decide +kernel
theorem d_Weaver_beginLet_82 : decode b_Weaver_beginLet 82 = .ok (.aload_n 0, 1) := by decide +kernel
theorem d_Weaver_beginLet_83 : decode b_Weaver_beginLet 83 = .ok (.iload_n 1, 1) := by decide +kernel
theorem d_Weaver_beginLet_84 : decode b_Weaver_beginLet 84 = .ok (.bipush 6, 2) := by decide +kernel
theorem d_Weaver_beginLet_86 : decode b_Weaver_beginLet 86 = .ok (.invokevirtual 158, 3) := by decide +kernel
theorem d_Weaver_beginLet_89 : decode b_Weaver_beginLet 89 = .ok (.aload_n 0, 1) := by decide +kernel
theorem d_Weaver_beginLet_90 : decode b_Weaver_beginLet 90 = .ok (.iconst (-1), 1) := by decide +kernel
theorem d_Weaver_beginLet_91 : decode b_Weaver_beginLet 91 = .ok (.putfield 290, 3) := by decide +kernel
theorem d_Weaver_beginLet_94 : decode b_Weaver_beginLet 94 = .ok (.aload_n 0, 1) := by decide +kernel
theorem d_Weaver_beginLet_95 : decode b_Weaver_beginLet 95 = .ok (.iconst 0, 1) := by decide +kernel
theorem d_Weaver_beginLet_96 : decode b_Weaver_beginLet 96 = .ok (.invokevirtual 287, 3) := by decide +kernel
theorem d_Weaver_beginLet_99 : decode b_Weaver_beginLet 99 = .ok (.return_, 1) := by decide +kernel
set_option maxHeartbeats 4000000 in
set_option maxRecDepth 100000 in
theorem c_Weaver_beginLet_a (l : Launch) {dA : FieldType → ClassId} {D : va_G} {al : Nat → Nat} {ext : mv_Sh} {sk sv : Nat → Nat} (hi : mv_inj (mg dA D al ext)) (σ : mv_H) {t tn len n z sz th sl s0 a ns no : Nat} (hG : WG 32 32768 512 ext σ t tn len n z sz) (hM : Mt (mv_a σ 24)) (hW : WN 32 512 σ n th sl no) {bl : List Bk} (hS : WS 32 σ sz th s0 a ns no bl) (hne : ¬ bl = []) (hk3 : mv_a σ 4 (mv_i σ 3 7).toNatClampNeg = 207) : mv_C l y_Weaver_beginLet (Cond.code y_Weaver_beginLet b_Weaver_beginLet 2 (Option.none : Option Jvm.ClassFile.FieldType) :: ma) ({ frames := 2, cells := 0, slots := 0, locals := 44 }) (mg dA D al ext) (mK sk sv) [.ref (al 2)] σ (mv_Rv (fun σ1 => TP 32 512 σ σ1 n sz a)) := by
  refine mv_C.ofV (cc := b_Weaver_beginLet) (nL := 2) (ret := (Option.none : Option Jvm.ClassFile.FieldType)) (by decide +kernel) rfl hi (Nat.le_of_ble_eq_true rfl) ?_
  intro p e s m below meth c B hNs hr hnm hno
  have hP : PQ 32 := by unfold PQ; omega
  have hR := hG.1
  have ht2 := hG.2.1.2.2.2.2.2.2
  have hF : EF σ σ := Fr.rf
  have hN : mv_i σ 21 0 = 0 → mv_i σ 21 0 = 0 := fun q => q
  have hE := hG.2.2.1
  have hsz := hE.2.2.2.2.2
  have hsz2 := hE.2.2.2.1
  have hlen := hG.2.2.2.2.1
  have hlen2 := hG.2.2.2.2.2
  have t7 := hS.1.1
  have hw9 := hS.1.2.1
  have ha9 := hS.1.2.2.2.2.1
  have t9 : (mv_i σ 3 9).toInt = (mv_i σ 3 9).toInt := rfl
  have t8 : (mv_i σ 3 8).toInt = (mv_i σ 3 8).toInt := rfl
  have kp : mv_a σ 4 = mv_a σ 4 := rfl
  have k6 : mv_b σ 6 = mv_b σ 6 := rfl
  have hs5 := hS.1.2.2.2.2.2.1
  have hs6 := hS.1.2.2.2.2.2.2.1
  have hd8 := hS.1.2.2.1
  have hd9 := hS.1.2.2.2.1
  have j94 : ∀ (υ : mv_H) (hR : Rw 32 (mv_r υ)) (hF : EF σ υ) (t8 : (mv_i υ 3 8).toInt = (mv_i σ 3 8).toInt) (q9 : 0 ≤ (mv_i υ 3 9).toInt ∨ ((mv_i υ 3 9).toInt < 0 ∧ (mv_i υ 3 7).toInt = a + 3 ∧ a + 3 < sz)) (qg : 0 ≤ (mv_i υ 2 8).toInt ∧ (mv_i υ 2 8).toInt < 32770) (qi : mv_i υ 21 0 = 0 → mv_i σ 21 0 = 0 ∧ 0 ≤ (mv_i υ 2 9).toInt) (qj : 0 ≤ (mv_i υ 2 9).toInt → (mv_i υ 2 9).toInt < n ∧ (mv_i υ 13 9).toInt < 64), mv_V p l e ({ frames := 2, cells := 0, slots := 0, locals := 44 }) s m ([.ref (al 2)] : List Value).toArray below meth c (mg dA D al ext) 2 0 0 (mv_Q (mg dA D al ext) below s 0 0 (mv_Rv (fun σ1 => TP 32 512 σ σ1 n sz a))) υ 94 [(0, .ref (al 2))] [] := by
    intro υ hR hF t8 q9 qg qi qj
    refine mv_aload_n (pc := 94) B d_Weaver_beginLet_94 rfl 0 rfl ?_
    refine mv_iconst (pc := 95) (v := 0) B d_Weaver_beginLet_95 (by decide) ?_
    refine mv_callVv (pc := 96) (n := 1) (ci := 1) (C := R_Weaver) B (mK_ok sk sv) hNs rfl rfl (c_Weaver_beginExpr l hi _ _ hR.1) rfl (ma_goodc kc_Weaver_beginExpr) (B.2.2.2.1 _ k_1371) (B.2.2.2.1 _ k_1373) (B.2.2.2.1 _ ks_44) (B.2.2.2.1 _ k_2) ⟨by decide +kernel, by decide +kernel, by decide +kernel⟩ rfl d_Weaver_beginLet_96 rfl (Nat.le_of_ble_eq_true rfl) ⟨by decide, by decide⟩ ⟨by decide, by decide⟩ ⟨by decide, by decide⟩ (mv_noH hno _) (fun σ96 h96 => ?_)
    subst h96
    refine mv_gen (fun S99 eS99 => ?_)
    have hend : TP 32 512 σ S99 n sz a := by
      rw [eS99]
      have g := hF.wx 0
      refine ⟨g.wt, Eq.mpr (congrArg Mt (g.2.1 24 (fun q => q))) hM, th, sl, no, hW.of hP g.of, ?_⟩
      rcases q9 with q | ⟨q1, q2, q3⟩
      · exact Or.inl q
      · exact Or.inr ⟨a + 3, by omega, Or.inr (Or.inr (Or.inl ⟨rfl, WE.of (bd := bl.length) hP hS g hne hM q2 q1 (show (bl.length : Int) ≤ (mv_i υ 3 8).toInt by omega) (show (mv_i υ 3 8).toInt ≤ 60 by omega) (by omega) q3 (fun _ => by omega) rfl rfl (Or.inl ⟨rfl, rfl, rfl, qj⟩) (show ¬ (0 : Int32) = 4 by decide) (Or.inr qg) qi⟩))⟩
    clear eS99
    exact mv_vret (pc := 99) B hr d_Weaver_beginLet_99 (Nat.le_refl _) (Nat.le_refl _) ⟨rfl, hend⟩
  refine mv_aload_n (pc := 0) B d_Weaver_beginLet_0 rfl 0 rfl ?_
  refine mv_getR (pc := 1) (ci := 1) (C := R_Weaver) (T := F_Weaver) (N := 16) B 0 rfl rfl (by decide) i_Weaver (B.2.2.2.1 _ k_228) rfl (hR.1 _ 0 _ rfl) d_Weaver_beginLet_1 ?_
  refine mv_sipush (pc := 4) (v := 207) B d_Weaver_beginLet_4 (by decide) ?_
  refine mv_callVi (pc := 7) (n := 1) (ci := 2) (C := R_Tokens) B (mK_ok sk sv) hNs rfl rfl (c_Tokens_takeN l hi _ _ hR.1 (hG.2.2.1.wt (hF.wt (P := 32)) hP ht2) (by omega) (by omega) (by decide)) rfl (ma_goodc kc_Tokens_take) (B.2.2.2.1 _ k_1266) (B.2.2.2.1 _ k_1267) (B.2.2.2.1 _ k_1268) (B.2.2.2.1 _ k_3) ⟨by decide +kernel, by decide +kernel, by decide +kernel⟩ rfl d_Weaver_beginLet_7 rfl (Nat.le_of_ble_eq_true rfl) ⟨by decide, by decide⟩ ⟨by decide, by decide⟩ ⟨by decide, by decide⟩ (mv_noH hno _) (fun v7 σ7 h7 => ?_)
  obtain ⟨a7, w7, e7, r7⟩ := h7
  have q7 := r7.1
  have z7 := fun q => (r7.2.1 q).1
  have y7 := And.intro r7.2.2.2.1 r7.2.2.2.2.1
  subst e7
  have hw7 := r7.2.2.1 hw9 hk3 trivial
  refine mv_gen (fun S10 eS10 => ?_)
  have hR : Rw 32 (mv_r S10) := by rw [eS10]; exact hR
  have hF : EF σ S10 := by rw [eS10]; exact hF.tk3 _ _ _
  have hN : mv_i S10 21 0 = 0 → mv_i σ 21 0 = 0 := by rw [eS10]; exact hN
  have t7 : (mv_i S10 3 7).toInt = a7.toInt := by rw [eS10]; rfl
  have t8 : (mv_i S10 3 8).toInt = (mv_i σ 3 8).toInt := by rw [eS10]; first | exact t8 | exact (sub_one (by omega)).trans (by omega) | exact (i32_inc (by omega)).trans (by omega)
  have t9 : (mv_i S10 3 9).toInt = w7.toInt := by rw [eS10]; rfl
  have kp := Eq.trans (show mv_a S10 4 = mv_a _ 4 by rw [eS10]; rfl) kp
  have k6 := Eq.trans (show mv_b S10 6 = mv_b _ 6 by rw [eS10]; rfl) k6
  clear eS10
  refine mv_pop (pc := 10) B d_Weaver_beginLet_10 rfl ?_
  refine mv_aload_n (pc := 11) B d_Weaver_beginLet_11 rfl 0 rfl ?_
  refine mv_getR (pc := 12) (ci := 1) (C := R_Weaver) (T := F_Weaver) (N := 16) B 0 rfl rfl (by decide) i_Weaver (B.2.2.2.1 _ k_228) rfl (hR.1 _ 0 _ rfl) d_Weaver_beginLet_12 ?_
  refine mv_iconst (pc := 15) (v := 3) B d_Weaver_beginLet_15 (by decide) ?_
  refine mv_callVi (pc := 16) (n := 1) (ci := 2) (C := R_Tokens) B (mK_ok sk sv) hNs rfl rfl (c_Tokens_takeN l hi _ _ hR.1 (hG.2.2.1.wt (hF.wt (P := 32)) hP ht2) (by omega) (by omega) (by decide)) rfl (ma_goodc kc_Tokens_take) (B.2.2.2.1 _ k_1266) (B.2.2.2.1 _ k_1267) (B.2.2.2.1 _ k_1268) (B.2.2.2.1 _ k_3) ⟨by decide +kernel, by decide +kernel, by decide +kernel⟩ rfl d_Weaver_beginLet_16 rfl (Nat.le_of_ble_eq_true rfl) ⟨by decide, by decide⟩ ⟨by decide, by decide⟩ ⟨by decide, by decide⟩ (mv_noH hno _) (fun v16 σ16 h16 => ?_)
  have kz := k6
  obtain ⟨a16, w16, e16, r16⟩ := h16
  have q16 := r16.1
  have z16 := fun q => (r16.2.1 q).1
  have y16 := And.intro r16.2.2.2.1 r16.2.2.2.2.1
  subst e16
  have sy16 := TkR.sym (hG.2.2.1.wt (hF.wt (P := 32)) hP ht2) r16
  refine mv_gen (fun S19 eS19 => ?_)
  have hR : Rw 32 (mv_r S19) := by rw [eS19]; exact hR
  have hF : EF σ S19 := by rw [eS19]; exact hF.tk3 _ _ _
  have hN : mv_i S19 21 0 = 0 → mv_i σ 21 0 = 0 := by rw [eS19]; exact hN
  have t7 : (mv_i S19 3 7).toInt = a16.toInt := by rw [eS19]; rfl
  have t8 : (mv_i S19 3 8).toInt = (mv_i σ 3 8).toInt := by rw [eS19]; first | exact t8 | exact (sub_one (by omega)).trans (by omega) | exact (i32_inc (by omega)).trans (by omega)
  have t9 : (mv_i S19 3 9).toInt = w16.toInt := by rw [eS19]; rfl
  have kp := Eq.trans (show mv_a S19 4 = mv_a _ 4 by rw [eS19]; rfl) kp
  have k6 := Eq.trans (show mv_b S19 6 = mv_b _ 6 by rw [eS19]; rfl) k6
  have sy16 : 0 ≤ (mv_b σ 6 v16.toNatClampNeg).toInt ∧ (mv_b σ 6 v16.toNatClampNeg).toInt < n := by rw [← kz]; exact sy16
  have hn16 := hG.2.2.1.1.2.1
  clear eS19
  refine mv_istore_n (pc := 19) B d_Weaver_beginLet_19 rfl (by decide) rfl ?_
  refine mv_aload_n (pc := 20) B d_Weaver_beginLet_20 rfl 1 rfl ?_
  refine mv_aload_n (pc := 21) B d_Weaver_beginLet_21 rfl 1 rfl ?_
  refine mv_getR (pc := 22) (ci := 1) (C := R_Weaver) (T := F_Weaver) (N := 16) B 0 rfl rfl (by decide) i_Weaver (B.2.2.2.1 _ k_228) rfl (hR.1 _ 0 _ rfl) d_Weaver_beginLet_22 ?_
  refine mv_bipush (pc := 25) (v := 61) B d_Weaver_beginLet_25 (by decide) ?_
  refine mv_callVi (pc := 27) (n := 1) (ci := 2) (C := R_Tokens) B (mK_ok sk sv) hNs rfl rfl (c_Tokens_takeN l hi _ _ hR.1 (hG.2.2.1.wt (hF.wt (P := 32)) hP ht2) (by omega) (by omega) (by decide)) rfl (ma_goodc kc_Tokens_take) (B.2.2.2.1 _ k_1266) (B.2.2.2.1 _ k_1267) (B.2.2.2.1 _ k_1268) (B.2.2.2.1 _ k_3) ⟨by decide +kernel, by decide +kernel, by decide +kernel⟩ rfl d_Weaver_beginLet_27 rfl (Nat.le_of_ble_eq_true rfl) ⟨by decide, by decide⟩ ⟨by decide, by decide⟩ ⟨by decide, by decide⟩ (mv_noH hno _) (fun v27 σ27 h27 => ?_)
  obtain ⟨a27, w27, e27, r27⟩ := h27
  have q27 := r27.1
  have z27 := fun q => (r27.2.1 q).1
  have y27 := And.intro r27.2.2.2.1 r27.2.2.2.2.1
  subst e27
  refine mv_gen (fun S30 eS30 => ?_)
  have hR : Rw 32 (mv_r S30) := by rw [eS30]; exact hR
  have hF : EF σ S30 := by rw [eS30]; exact hF.tk3 _ _ _
  have hN : mv_i S30 21 0 = 0 → mv_i σ 21 0 = 0 := by rw [eS30]; exact hN
  have t7 : (mv_i S30 3 7).toInt = a27.toInt := by rw [eS30]; rfl
  have t8 : (mv_i S30 3 8).toInt = (mv_i σ 3 8).toInt := by rw [eS30]; first | exact t8 | exact (sub_one (by omega)).trans (by omega) | exact (i32_inc (by omega)).trans (by omega)
  have t9 : (mv_i S30 3 9).toInt = w27.toInt := by rw [eS30]; rfl
  have kp := Eq.trans (show mv_a S30 4 = mv_a _ 4 by rw [eS30]; rfl) kp
  have k6 := Eq.trans (show mv_b S30 6 = mv_b _ 6 by rw [eS30]; rfl) k6
  clear eS30
  refine mv_putI (pc := 30) (ci := 1) (C := R_Weaver) (T := F_Weaver) (N := 16) B 8 rfl rfl (by decide) i_Weaver t_Weaver_ok n_Weaver (B.2.2.2.1 _ k_238) rfl rfl rfl rfl d_Weaver_beginLet_30 ?_
  refine mv_aload_n (pc := 33) B d_Weaver_beginLet_33 rfl 1 rfl ?_
  refine mv_aload_n (pc := 34) B d_Weaver_beginLet_34 rfl 1 rfl ?_
  refine mv_iload_n (pc := 35) B d_Weaver_beginLet_35 rfl 0 rfl ?_
  refine mv_callVi (pc := 36) (n := 1) (ci := 1) (C := R_Weaver) B (mK_ok sk sv) hNs rfl rfl (c_Weaver_symbolOf l hi _ _ hR.1 y16.1 (by omega)) rfl (ma_goodc kc_Weaver_symbolOf) (B.2.2.2.1 _ k_1312) (B.2.2.2.1 _ k_1314) (B.2.2.2.1 _ ks_37) (B.2.2.2.1 _ k_2) ⟨by decide +kernel, by decide +kernel, by decide +kernel⟩ rfl d_Weaver_beginLet_36 rfl (Nat.le_of_ble_eq_true rfl) ⟨by decide, by decide⟩ ⟨by decide, by decide⟩ ⟨by decide, by decide⟩ (mv_noH hno _) (fun v36 σ36 h36 => ?_)
  obtain ⟨e36, z36⟩ := h36
  have e36 := e36.symm
  subst e36
  have z37 : v36.toInt = (mv_b σ 6 v16.toNatClampNeg).toInt := by rw [z36]; show (mv_b S30 6 _).toInt32.toInt = _; rw [k6]; exact l2i_nn sy16.1 (by omega)
  refine mv_putI (pc := 39) (ci := 1) (C := R_Weaver) (T := F_Weaver) (N := 16) B 9 rfl rfl (by decide) i_Weaver t_Weaver_ok n_Weaver (B.2.2.2.1 _ k_239) rfl rfl rfl rfl d_Weaver_beginLet_39 ?_
  refine mv_gen (fun S42 eS42 => ?_)
  have hR : Rw 32 (mv_r S42) := by rw [eS42]; exact hR
  have hF : EF σ S42 := by rw [eS42]; exact hF.w (by omega) _ |>.w (by omega) _
  have hN : mv_i S42 21 0 = 0 → mv_i σ 21 0 = 0 := by rw [eS42]; exact hN
  have t7 := Eq.trans (congrArg Int32.toInt (show mv_i S42 3 7 = mv_i _ 3 7 by rw [eS42]; rfl)) t7
  have t8 := Eq.trans (congrArg Int32.toInt (show mv_i S42 3 8 = mv_i _ 3 8 by rw [eS42]; rfl)) t8
  have t9 := Eq.trans (congrArg Int32.toInt (show mv_i S42 3 9 = mv_i _ 3 9 by rw [eS42]; rfl)) t9
  have kp := Eq.trans (show mv_a S42 4 = mv_a _ 4 by rw [eS42]; rfl) kp
  have k6 := Eq.trans (show mv_b S42 6 = mv_b _ 6 by rw [eS42]; rfl) k6
  have g9 : (mv_i S42 2 9).toInt = (mv_b σ 6 v16.toNatClampNeg).toInt := by rw [eS42]; exact z37
  have hgt : 0 ≤ (mv_i S42 2 8).toInt ∧ (mv_i S42 2 8).toInt < 32770 := by rw [eS42]; exact ⟨y27.1, by show v27.toInt < 32770; omega⟩
  have h139 : mv_i S42 13 9 = mv_i σ 13 9 := hF.1 13 9 (by decide)
  have hl64 := hW.2.2.2.1.2
  clear eS42
  refine mv_aload_n (pc := 42) B d_Weaver_beginLet_42 rfl 1 rfl ?_
  refine mv_getR (pc := 43) (ci := 1) (C := R_Weaver) (T := F_Weaver) (N := 16) B 1 rfl rfl (by decide) i_Weaver (B.2.2.2.1 _ k_229) rfl (hR.1 _ 1 _ rfl) d_Weaver_beginLet_43 ?_
  refine mv_aload_n (pc := 46) B d_Weaver_beginLet_46 rfl 1 rfl ?_
  refine mv_getI (pc := 47) (ci := 1) (C := R_Weaver) (T := F_Weaver) (N := 16) B 9 rfl rfl (by decide) i_Weaver (B.2.2.2.1 _ k_239) rfl d_Weaver_beginLet_47 ?_
  refine mv_callVi (pc := 50) (n := 1) (ci := 4) (C := R_Names) B (mK_ok sk sv) hNs rfl rfl (c_Names_kindOf l hi _ _ hR.1 n z (hG.2.2.1.wt (hF.wt (P := 32)) hP ht2).1 (by omega) (by omega)) rfl (ma_goodc kc_Names_kindOf) (B.2.2.2.1 _ k_1316) (B.2.2.2.1 _ k_1317) (B.2.2.2.1 _ k_1318) (B.2.2.2.1 _ k_5) ⟨by decide +kernel, by decide +kernel, by decide +kernel⟩ rfl d_Weaver_beginLet_50 rfl (Nat.le_of_ble_eq_true rfl) ⟨by decide, by decide⟩ ⟨by decide, by decide⟩ ⟨by decide, by decide⟩ (mv_noH hno _) (fun v50 σ50 h50 => ?_)
  obtain ⟨e50, -⟩ := h50
  have e50 := e50.symm
  subst e50
  refine mv_if_eq (pc := 53) (tgt := 70) B d_Weaver_beginLet_53 rfl (fun h53 => ?_) (fun h53 => ?_)
  · skip
    refine mv_aload_n (pc := 70) B d_Weaver_beginLet_70 rfl 1 rfl ?_
    refine mv_getR (pc := 71) (ci := 1) (C := R_Weaver) (T := F_Weaver) (N := 16) B 1 rfl rfl (by decide) i_Weaver (B.2.2.2.1 _ k_229) rfl (hR.1 _ 1 _ rfl) d_Weaver_beginLet_71 ?_
    refine mv_getI (pc := 74) (ci := 4) (C := R_Names) (T := F_Names) (N := 10) B 9 rfl rfl (by decide) i_Names (B.2.2.2.1 _ k_149) rfl d_Weaver_beginLet_74 ?_
    refine mv_bipush (pc := 77) (v := 64) B d_Weaver_beginLet_77 (by decide) ?_
    refine mv_icmp_ne (pc := 79) (tgt := 94) B d_Weaver_beginLet_79 rfl (fun h79 => ?_) (fun h79 => ?_)
    · skip
      have hlt : ¬ (mv_i S42 13 9).toInt = 64 := fun q => h79 (Int32.toInt_inj.mp q)
      have go := j94 S42 hR hF t8 (by omega) hgt (fun q => ⟨hN q, by omega⟩) (fun _ => ⟨by omega, by rw [h139] at hlt ⊢; omega⟩)
      refine mv_lpick [1] rfl ?_
      exact go
    · skip
      refine mv_aload_n (pc := 82) B d_Weaver_beginLet_82 rfl 1 rfl ?_
      refine mv_iload_n (pc := 83) B d_Weaver_beginLet_83 rfl 0 rfl ?_
      refine mv_bipush (pc := 84) (v := 6) B d_Weaver_beginLet_84 (by decide) ?_
      refine mv_callVv (pc := 86) (n := 2) (ci := 1) (C := R_Weaver) B (mK_ok sk sv) hNs rfl rfl (c_Weaver_tell l hi _ _ _ hR.1 y16.1 (by omega) (by decide)) rfl (ma_goodc kc_Weaver_tell) (B.2.2.2.1 _ k_1282) (B.2.2.2.1 _ k_1284) (B.2.2.2.1 _ ks_32) (B.2.2.2.1 _ k_2) ⟨by decide +kernel, by decide +kernel, by decide +kernel⟩ rfl d_Weaver_beginLet_86 rfl (Nat.le_of_ble_eq_true rfl) ⟨by decide, by decide⟩ ⟨by decide, by decide⟩ ⟨by decide, by decide⟩ (mv_noH hno _) (fun σ86 h86 => ?_)
      obtain ⟨x9, y9, q1, q2⟩ := h86
      subst q1
      have go := j94 (mv_si (ex_tell S42 x9 y9) 2 9 (-1)) hR ((hF.tell x9 y9).w (by omega) (-1)) t8 (show 0 ≤ (mv_i S42 3 9).toInt ∨ ((mv_i S42 3 9).toInt < 0 ∧ (mv_i S42 3 7).toInt = a + 3 ∧ a + 3 < sz) by omega) hgt (fun q => absurd (show x9 = 0 from q) q2) (fun q => absurd (show (0 : Int) ≤ -1 from q) (by omega))
      refine mv_aload_n (pc := 89) B d_Weaver_beginLet_89 rfl 1 rfl ?_
      refine mv_iconst (pc := 90) (v := -1) B d_Weaver_beginLet_90 (by decide) ?_
      refine mv_putI (pc := 91) (ci := 1) (C := R_Weaver) (T := F_Weaver) (N := 16) B 9 rfl rfl (by decide) i_Weaver t_Weaver_ok n_Weaver (B.2.2.2.1 _ k_239) rfl rfl rfl rfl d_Weaver_beginLet_91 ?_
      refine mv_lpick [1] rfl ?_
      exact go
  · skip
    refine mv_aload_n (pc := 56) B d_Weaver_beginLet_56 rfl 1 rfl ?_
    refine mv_iload_n (pc := 57) B d_Weaver_beginLet_57 rfl 0 rfl ?_
    refine mv_iconst (pc := 58) (v := 2) B d_Weaver_beginLet_58 (by decide) ?_
    refine mv_callVv (pc := 59) (n := 2) (ci := 1) (C := R_Weaver) B (mK_ok sk sv) hNs rfl rfl (c_Weaver_tell l hi _ _ _ hR.1 y16.1 (by omega) (by decide)) rfl (ma_goodc kc_Weaver_tell) (B.2.2.2.1 _ k_1282) (B.2.2.2.1 _ k_1284) (B.2.2.2.1 _ ks_32) (B.2.2.2.1 _ k_2) ⟨by decide +kernel, by decide +kernel, by decide +kernel⟩ rfl d_Weaver_beginLet_59 rfl (Nat.le_of_ble_eq_true rfl) ⟨by decide, by decide⟩ ⟨by decide, by decide⟩ ⟨by decide, by decide⟩ (mv_noH hno _) (fun σ59 h59 => ?_)
    obtain ⟨x9, y9, q1, q2⟩ := h59
    subst q1
    have go := j94 (mv_si (ex_tell S42 x9 y9) 2 9 (-1)) hR ((hF.tell x9 y9).w (by omega) (-1)) t8 (show 0 ≤ (mv_i S42 3 9).toInt ∨ ((mv_i S42 3 9).toInt < 0 ∧ (mv_i S42 3 7).toInt = a + 3 ∧ a + 3 < sz) by omega) hgt (fun q => absurd (show x9 = 0 from q) q2) (fun q => absurd (show (0 : Int) ≤ -1 from q) (by omega))
    refine mv_aload_n (pc := 62) B d_Weaver_beginLet_62 rfl 1 rfl ?_
    refine mv_iconst (pc := 63) (v := -1) B d_Weaver_beginLet_63 (by decide) ?_
    refine mv_putI (pc := 64) (ci := 1) (C := R_Weaver) (T := F_Weaver) (N := 16) B 9 rfl rfl (by decide) i_Weaver t_Weaver_ok n_Weaver (B.2.2.2.1 _ k_239) rfl rfl rfl rfl d_Weaver_beginLet_64 ?_
    refine mv_goto (pc := 67) (tgt := 94) B d_Weaver_beginLet_67 rfl ?_
    refine mv_lpick [1] rfl ?_
    exact go
set_option maxHeartbeats 4000000 in
set_option maxRecDepth 100000 in
theorem c_Weaver_beginLet_b (l : Launch) {dA : FieldType → ClassId} {D : va_G} {al : Nat → Nat} {ext : mv_Sh} {sk sv : Nat → Nat} (hi : mv_inj (mg dA D al ext)) (σ : mv_H) {t tn len n z sz th sl s0 a ns no : Nat} (hG : WG 48 32768 512 ext σ t tn len n z sz) (hM : Mt (mv_a σ 24)) (hW : WN 48 512 σ n th sl no) {bl : List Bk} (hS : WS 48 σ sz th s0 a ns no bl) (hne : ¬ bl = []) (hk3 : mv_a σ 4 (mv_i σ 3 7).toNatClampNeg = 207) : mv_C l y_Weaver_beginLet (Cond.code y_Weaver_beginLet b_Weaver_beginLet 2 (Option.none : Option Jvm.ClassFile.FieldType) :: ma) ({ frames := 2, cells := 0, slots := 0, locals := 44 }) (mg dA D al ext) (mK sk sv) [.ref (al 2)] σ (mv_Rv (fun σ1 => TP 48 512 σ σ1 n sz a)) := by
  refine mv_C.ofV (cc := b_Weaver_beginLet) (nL := 2) (ret := (Option.none : Option Jvm.ClassFile.FieldType)) (by decide +kernel) rfl hi (Nat.le_of_ble_eq_true rfl) ?_
  intro p e s m below meth c B hNs hr hnm hno
  have hP : PQ 48 := by unfold PQ; omega
  have hR := hG.1
  have ht2 := hG.2.1.2.2.2.2.2.2
  have hF : EF σ σ := Fr.rf
  have hN : mv_i σ 21 0 = 0 → mv_i σ 21 0 = 0 := fun q => q
  have hE := hG.2.2.1
  have hsz := hE.2.2.2.2.2
  have hsz2 := hE.2.2.2.1
  have hlen := hG.2.2.2.2.1
  have hlen2 := hG.2.2.2.2.2
  have t7 := hS.1.1
  have hw9 := hS.1.2.1
  have ha9 := hS.1.2.2.2.2.1
  have t9 : (mv_i σ 3 9).toInt = (mv_i σ 3 9).toInt := rfl
  have t8 : (mv_i σ 3 8).toInt = (mv_i σ 3 8).toInt := rfl
  have kp : mv_a σ 4 = mv_a σ 4 := rfl
  have k6 : mv_b σ 6 = mv_b σ 6 := rfl
  have hs5 := hS.1.2.2.2.2.2.1
  have hs6 := hS.1.2.2.2.2.2.2.1
  have hd8 := hS.1.2.2.1
  have hd9 := hS.1.2.2.2.1
  have j94 : ∀ (υ : mv_H) (hR : Rw 48 (mv_r υ)) (hF : EF σ υ) (t8 : (mv_i υ 3 8).toInt = (mv_i σ 3 8).toInt) (q9 : 0 ≤ (mv_i υ 3 9).toInt ∨ ((mv_i υ 3 9).toInt < 0 ∧ (mv_i υ 3 7).toInt = a + 3 ∧ a + 3 < sz)) (qg : 0 ≤ (mv_i υ 2 8).toInt ∧ (mv_i υ 2 8).toInt < 32770) (qi : mv_i υ 21 0 = 0 → mv_i σ 21 0 = 0 ∧ 0 ≤ (mv_i υ 2 9).toInt) (qj : 0 ≤ (mv_i υ 2 9).toInt → (mv_i υ 2 9).toInt < n ∧ (mv_i υ 13 9).toInt < 64), mv_V p l e ({ frames := 2, cells := 0, slots := 0, locals := 44 }) s m ([.ref (al 2)] : List Value).toArray below meth c (mg dA D al ext) 2 0 0 (mv_Q (mg dA D al ext) below s 0 0 (mv_Rv (fun σ1 => TP 48 512 σ σ1 n sz a))) υ 94 [(0, .ref (al 2))] [] := by
    intro υ hR hF t8 q9 qg qi qj
    refine mv_aload_n (pc := 94) B d_Weaver_beginLet_94 rfl 0 rfl ?_
    refine mv_iconst (pc := 95) (v := 0) B d_Weaver_beginLet_95 (by decide) ?_
    refine mv_callVv (pc := 96) (n := 1) (ci := 1) (C := R_Weaver) B (mK_ok sk sv) hNs rfl rfl (c_Weaver_beginExpr l hi _ _ hR.1) rfl (ma_goodc kc_Weaver_beginExpr) (B.2.2.2.1 _ k_1371) (B.2.2.2.1 _ k_1373) (B.2.2.2.1 _ ks_44) (B.2.2.2.1 _ k_2) ⟨by decide +kernel, by decide +kernel, by decide +kernel⟩ rfl d_Weaver_beginLet_96 rfl (Nat.le_of_ble_eq_true rfl) ⟨by decide, by decide⟩ ⟨by decide, by decide⟩ ⟨by decide, by decide⟩ (mv_noH hno _) (fun σ96 h96 => ?_)
    subst h96
    refine mv_gen (fun S99 eS99 => ?_)
    have hend : TP 48 512 σ S99 n sz a := by
      rw [eS99]
      have g := hF.wx 0
      refine ⟨g.wt, Eq.mpr (congrArg Mt (g.2.1 24 (fun q => q))) hM, th, sl, no, hW.of hP g.of, ?_⟩
      rcases q9 with q | ⟨q1, q2, q3⟩
      · exact Or.inl q
      · exact Or.inr ⟨a + 3, by omega, Or.inr (Or.inr (Or.inl ⟨rfl, WE.of (bd := bl.length) hP hS g hne hM q2 q1 (show (bl.length : Int) ≤ (mv_i υ 3 8).toInt by omega) (show (mv_i υ 3 8).toInt ≤ 60 by omega) (by omega) q3 (fun _ => by omega) rfl rfl (Or.inl ⟨rfl, rfl, rfl, qj⟩) (show ¬ (0 : Int32) = 4 by decide) (Or.inr qg) qi⟩))⟩
    clear eS99
    exact mv_vret (pc := 99) B hr d_Weaver_beginLet_99 (Nat.le_refl _) (Nat.le_refl _) ⟨rfl, hend⟩
  refine mv_aload_n (pc := 0) B d_Weaver_beginLet_0 rfl 0 rfl ?_
  refine mv_getR (pc := 1) (ci := 1) (C := R_Weaver) (T := F_Weaver) (N := 16) B 0 rfl rfl (by decide) i_Weaver (B.2.2.2.1 _ k_228) rfl (hR.1 _ 0 _ rfl) d_Weaver_beginLet_1 ?_
  refine mv_sipush (pc := 4) (v := 207) B d_Weaver_beginLet_4 (by decide) ?_
  refine mv_callVi (pc := 7) (n := 1) (ci := 2) (C := R_Tokens) B (mK_ok sk sv) hNs rfl rfl (c_Tokens_takeN l hi _ _ hR.1 (hG.2.2.1.wt (hF.wt (P := 48)) hP ht2) (by omega) (by omega) (by decide)) rfl (ma_goodc kc_Tokens_take) (B.2.2.2.1 _ k_1266) (B.2.2.2.1 _ k_1267) (B.2.2.2.1 _ k_1268) (B.2.2.2.1 _ k_3) ⟨by decide +kernel, by decide +kernel, by decide +kernel⟩ rfl d_Weaver_beginLet_7 rfl (Nat.le_of_ble_eq_true rfl) ⟨by decide, by decide⟩ ⟨by decide, by decide⟩ ⟨by decide, by decide⟩ (mv_noH hno _) (fun v7 σ7 h7 => ?_)
  obtain ⟨a7, w7, e7, r7⟩ := h7
  have q7 := r7.1
  have z7 := fun q => (r7.2.1 q).1
  have y7 := And.intro r7.2.2.2.1 r7.2.2.2.2.1
  subst e7
  have hw7 := r7.2.2.1 hw9 hk3 trivial
  refine mv_gen (fun S10 eS10 => ?_)
  have hR : Rw 48 (mv_r S10) := by rw [eS10]; exact hR
  have hF : EF σ S10 := by rw [eS10]; exact hF.tk3 _ _ _
  have hN : mv_i S10 21 0 = 0 → mv_i σ 21 0 = 0 := by rw [eS10]; exact hN
  have t7 : (mv_i S10 3 7).toInt = a7.toInt := by rw [eS10]; rfl
  have t8 : (mv_i S10 3 8).toInt = (mv_i σ 3 8).toInt := by rw [eS10]; first | exact t8 | exact (sub_one (by omega)).trans (by omega) | exact (i32_inc (by omega)).trans (by omega)
  have t9 : (mv_i S10 3 9).toInt = w7.toInt := by rw [eS10]; rfl
  have kp := Eq.trans (show mv_a S10 4 = mv_a _ 4 by rw [eS10]; rfl) kp
  have k6 := Eq.trans (show mv_b S10 6 = mv_b _ 6 by rw [eS10]; rfl) k6
  clear eS10
  refine mv_pop (pc := 10) B d_Weaver_beginLet_10 rfl ?_
  refine mv_aload_n (pc := 11) B d_Weaver_beginLet_11 rfl 0 rfl ?_
  refine mv_getR (pc := 12) (ci := 1) (C := R_Weaver) (T := F_Weaver) (N := 16) B 0 rfl rfl (by decide) i_Weaver (B.2.2.2.1 _ k_228) rfl (hR.1 _ 0 _ rfl) d_Weaver_beginLet_12 ?_
  refine mv_iconst (pc := 15) (v := 3) B d_Weaver_beginLet_15 (by decide) ?_
  refine mv_callVi (pc := 16) (n := 1) (ci := 2) (C := R_Tokens) B (mK_ok sk sv) hNs rfl rfl (c_Tokens_takeN l hi _ _ hR.1 (hG.2.2.1.wt (hF.wt (P := 48)) hP ht2) (by omega) (by omega) (by decide)) rfl (ma_goodc kc_Tokens_take) (B.2.2.2.1 _ k_1266) (B.2.2.2.1 _ k_1267) (B.2.2.2.1 _ k_1268) (B.2.2.2.1 _ k_3) ⟨by decide +kernel, by decide +kernel, by decide +kernel⟩ rfl d_Weaver_beginLet_16 rfl (Nat.le_of_ble_eq_true rfl) ⟨by decide, by decide⟩ ⟨by decide, by decide⟩ ⟨by decide, by decide⟩ (mv_noH hno _) (fun v16 σ16 h16 => ?_)
  have kz := k6
  obtain ⟨a16, w16, e16, r16⟩ := h16
  have q16 := r16.1
  have z16 := fun q => (r16.2.1 q).1
  have y16 := And.intro r16.2.2.2.1 r16.2.2.2.2.1
  subst e16
  have sy16 := TkR.sym (hG.2.2.1.wt (hF.wt (P := 48)) hP ht2) r16
  refine mv_gen (fun S19 eS19 => ?_)
  have hR : Rw 48 (mv_r S19) := by rw [eS19]; exact hR
  have hF : EF σ S19 := by rw [eS19]; exact hF.tk3 _ _ _
  have hN : mv_i S19 21 0 = 0 → mv_i σ 21 0 = 0 := by rw [eS19]; exact hN
  have t7 : (mv_i S19 3 7).toInt = a16.toInt := by rw [eS19]; rfl
  have t8 : (mv_i S19 3 8).toInt = (mv_i σ 3 8).toInt := by rw [eS19]; first | exact t8 | exact (sub_one (by omega)).trans (by omega) | exact (i32_inc (by omega)).trans (by omega)
  have t9 : (mv_i S19 3 9).toInt = w16.toInt := by rw [eS19]; rfl
  have kp := Eq.trans (show mv_a S19 4 = mv_a _ 4 by rw [eS19]; rfl) kp
  have k6 := Eq.trans (show mv_b S19 6 = mv_b _ 6 by rw [eS19]; rfl) k6
  have sy16 : 0 ≤ (mv_b σ 6 v16.toNatClampNeg).toInt ∧ (mv_b σ 6 v16.toNatClampNeg).toInt < n := by rw [← kz]; exact sy16
  have hn16 := hG.2.2.1.1.2.1
  clear eS19
  refine mv_istore_n (pc := 19) B d_Weaver_beginLet_19 rfl (by decide) rfl ?_
  refine mv_aload_n (pc := 20) B d_Weaver_beginLet_20 rfl 1 rfl ?_
  refine mv_aload_n (pc := 21) B d_Weaver_beginLet_21 rfl 1 rfl ?_
  refine mv_getR (pc := 22) (ci := 1) (C := R_Weaver) (T := F_Weaver) (N := 16) B 0 rfl rfl (by decide) i_Weaver (B.2.2.2.1 _ k_228) rfl (hR.1 _ 0 _ rfl) d_Weaver_beginLet_22 ?_
  refine mv_bipush (pc := 25) (v := 61) B d_Weaver_beginLet_25 (by decide) ?_
  refine mv_callVi (pc := 27) (n := 1) (ci := 2) (C := R_Tokens) B (mK_ok sk sv) hNs rfl rfl (c_Tokens_takeN l hi _ _ hR.1 (hG.2.2.1.wt (hF.wt (P := 48)) hP ht2) (by omega) (by omega) (by decide)) rfl (ma_goodc kc_Tokens_take) (B.2.2.2.1 _ k_1266) (B.2.2.2.1 _ k_1267) (B.2.2.2.1 _ k_1268) (B.2.2.2.1 _ k_3) ⟨by decide +kernel, by decide +kernel, by decide +kernel⟩ rfl d_Weaver_beginLet_27 rfl (Nat.le_of_ble_eq_true rfl) ⟨by decide, by decide⟩ ⟨by decide, by decide⟩ ⟨by decide, by decide⟩ (mv_noH hno _) (fun v27 σ27 h27 => ?_)
  obtain ⟨a27, w27, e27, r27⟩ := h27
  have q27 := r27.1
  have z27 := fun q => (r27.2.1 q).1
  have y27 := And.intro r27.2.2.2.1 r27.2.2.2.2.1
  subst e27
  refine mv_gen (fun S30 eS30 => ?_)
  have hR : Rw 48 (mv_r S30) := by rw [eS30]; exact hR
  have hF : EF σ S30 := by rw [eS30]; exact hF.tk3 _ _ _
  have hN : mv_i S30 21 0 = 0 → mv_i σ 21 0 = 0 := by rw [eS30]; exact hN
  have t7 : (mv_i S30 3 7).toInt = a27.toInt := by rw [eS30]; rfl
  have t8 : (mv_i S30 3 8).toInt = (mv_i σ 3 8).toInt := by rw [eS30]; first | exact t8 | exact (sub_one (by omega)).trans (by omega) | exact (i32_inc (by omega)).trans (by omega)
  have t9 : (mv_i S30 3 9).toInt = w27.toInt := by rw [eS30]; rfl
  have kp := Eq.trans (show mv_a S30 4 = mv_a _ 4 by rw [eS30]; rfl) kp
  have k6 := Eq.trans (show mv_b S30 6 = mv_b _ 6 by rw [eS30]; rfl) k6
  clear eS30
  refine mv_putI (pc := 30) (ci := 1) (C := R_Weaver) (T := F_Weaver) (N := 16) B 8 rfl rfl (by decide) i_Weaver t_Weaver_ok n_Weaver (B.2.2.2.1 _ k_238) rfl rfl rfl rfl d_Weaver_beginLet_30 ?_
  refine mv_aload_n (pc := 33) B d_Weaver_beginLet_33 rfl 1 rfl ?_
  refine mv_aload_n (pc := 34) B d_Weaver_beginLet_34 rfl 1 rfl ?_
  refine mv_iload_n (pc := 35) B d_Weaver_beginLet_35 rfl 0 rfl ?_
  refine mv_callVi (pc := 36) (n := 1) (ci := 1) (C := R_Weaver) B (mK_ok sk sv) hNs rfl rfl (c_Weaver_symbolOf l hi _ _ hR.1 y16.1 (by omega)) rfl (ma_goodc kc_Weaver_symbolOf) (B.2.2.2.1 _ k_1312) (B.2.2.2.1 _ k_1314) (B.2.2.2.1 _ ks_37) (B.2.2.2.1 _ k_2) ⟨by decide +kernel, by decide +kernel, by decide +kernel⟩ rfl d_Weaver_beginLet_36 rfl (Nat.le_of_ble_eq_true rfl) ⟨by decide, by decide⟩ ⟨by decide, by decide⟩ ⟨by decide, by decide⟩ (mv_noH hno _) (fun v36 σ36 h36 => ?_)
  obtain ⟨e36, z36⟩ := h36
  have e36 := e36.symm
  subst e36
  have z37 : v36.toInt = (mv_b σ 6 v16.toNatClampNeg).toInt := by rw [z36]; show (mv_b S30 6 _).toInt32.toInt = _; rw [k6]; exact l2i_nn sy16.1 (by omega)
  refine mv_putI (pc := 39) (ci := 1) (C := R_Weaver) (T := F_Weaver) (N := 16) B 9 rfl rfl (by decide) i_Weaver t_Weaver_ok n_Weaver (B.2.2.2.1 _ k_239) rfl rfl rfl rfl d_Weaver_beginLet_39 ?_
  refine mv_gen (fun S42 eS42 => ?_)
  have hR : Rw 48 (mv_r S42) := by rw [eS42]; exact hR
  have hF : EF σ S42 := by rw [eS42]; exact hF.w (by omega) _ |>.w (by omega) _
  have hN : mv_i S42 21 0 = 0 → mv_i σ 21 0 = 0 := by rw [eS42]; exact hN
  have t7 := Eq.trans (congrArg Int32.toInt (show mv_i S42 3 7 = mv_i _ 3 7 by rw [eS42]; rfl)) t7
  have t8 := Eq.trans (congrArg Int32.toInt (show mv_i S42 3 8 = mv_i _ 3 8 by rw [eS42]; rfl)) t8
  have t9 := Eq.trans (congrArg Int32.toInt (show mv_i S42 3 9 = mv_i _ 3 9 by rw [eS42]; rfl)) t9
  have kp := Eq.trans (show mv_a S42 4 = mv_a _ 4 by rw [eS42]; rfl) kp
  have k6 := Eq.trans (show mv_b S42 6 = mv_b _ 6 by rw [eS42]; rfl) k6
  have g9 : (mv_i S42 2 9).toInt = (mv_b σ 6 v16.toNatClampNeg).toInt := by rw [eS42]; exact z37
  have hgt : 0 ≤ (mv_i S42 2 8).toInt ∧ (mv_i S42 2 8).toInt < 32770 := by rw [eS42]; exact ⟨y27.1, by show v27.toInt < 32770; omega⟩
  have h139 : mv_i S42 13 9 = mv_i σ 13 9 := hF.1 13 9 (by decide)
  have hl64 := hW.2.2.2.1.2
  clear eS42
  refine mv_aload_n (pc := 42) B d_Weaver_beginLet_42 rfl 1 rfl ?_
  refine mv_getR (pc := 43) (ci := 1) (C := R_Weaver) (T := F_Weaver) (N := 16) B 1 rfl rfl (by decide) i_Weaver (B.2.2.2.1 _ k_229) rfl (hR.1 _ 1 _ rfl) d_Weaver_beginLet_43 ?_
  refine mv_aload_n (pc := 46) B d_Weaver_beginLet_46 rfl 1 rfl ?_
  refine mv_getI (pc := 47) (ci := 1) (C := R_Weaver) (T := F_Weaver) (N := 16) B 9 rfl rfl (by decide) i_Weaver (B.2.2.2.1 _ k_239) rfl d_Weaver_beginLet_47 ?_
  refine mv_callVi (pc := 50) (n := 1) (ci := 4) (C := R_Names) B (mK_ok sk sv) hNs rfl rfl (c_Names_kindOf l hi _ _ hR.1 n z (hG.2.2.1.wt (hF.wt (P := 48)) hP ht2).1 (by omega) (by omega)) rfl (ma_goodc kc_Names_kindOf) (B.2.2.2.1 _ k_1316) (B.2.2.2.1 _ k_1317) (B.2.2.2.1 _ k_1318) (B.2.2.2.1 _ k_5) ⟨by decide +kernel, by decide +kernel, by decide +kernel⟩ rfl d_Weaver_beginLet_50 rfl (Nat.le_of_ble_eq_true rfl) ⟨by decide, by decide⟩ ⟨by decide, by decide⟩ ⟨by decide, by decide⟩ (mv_noH hno _) (fun v50 σ50 h50 => ?_)
  obtain ⟨e50, -⟩ := h50
  have e50 := e50.symm
  subst e50
  refine mv_if_eq (pc := 53) (tgt := 70) B d_Weaver_beginLet_53 rfl (fun h53 => ?_) (fun h53 => ?_)
  · skip
    refine mv_aload_n (pc := 70) B d_Weaver_beginLet_70 rfl 1 rfl ?_
    refine mv_getR (pc := 71) (ci := 1) (C := R_Weaver) (T := F_Weaver) (N := 16) B 1 rfl rfl (by decide) i_Weaver (B.2.2.2.1 _ k_229) rfl (hR.1 _ 1 _ rfl) d_Weaver_beginLet_71 ?_
    refine mv_getI (pc := 74) (ci := 4) (C := R_Names) (T := F_Names) (N := 10) B 9 rfl rfl (by decide) i_Names (B.2.2.2.1 _ k_149) rfl d_Weaver_beginLet_74 ?_
    refine mv_bipush (pc := 77) (v := 64) B d_Weaver_beginLet_77 (by decide) ?_
    refine mv_icmp_ne (pc := 79) (tgt := 94) B d_Weaver_beginLet_79 rfl (fun h79 => ?_) (fun h79 => ?_)
    · skip
      have hlt : ¬ (mv_i S42 13 9).toInt = 64 := fun q => h79 (Int32.toInt_inj.mp q)
      have go := j94 S42 hR hF t8 (by omega) hgt (fun q => ⟨hN q, by omega⟩) (fun _ => ⟨by omega, by rw [h139] at hlt ⊢; omega⟩)
      refine mv_lpick [1] rfl ?_
      exact go
    · skip
      refine mv_aload_n (pc := 82) B d_Weaver_beginLet_82 rfl 1 rfl ?_
      refine mv_iload_n (pc := 83) B d_Weaver_beginLet_83 rfl 0 rfl ?_
      refine mv_bipush (pc := 84) (v := 6) B d_Weaver_beginLet_84 (by decide) ?_
      refine mv_callVv (pc := 86) (n := 2) (ci := 1) (C := R_Weaver) B (mK_ok sk sv) hNs rfl rfl (c_Weaver_tell l hi _ _ _ hR.1 y16.1 (by omega) (by decide)) rfl (ma_goodc kc_Weaver_tell) (B.2.2.2.1 _ k_1282) (B.2.2.2.1 _ k_1284) (B.2.2.2.1 _ ks_32) (B.2.2.2.1 _ k_2) ⟨by decide +kernel, by decide +kernel, by decide +kernel⟩ rfl d_Weaver_beginLet_86 rfl (Nat.le_of_ble_eq_true rfl) ⟨by decide, by decide⟩ ⟨by decide, by decide⟩ ⟨by decide, by decide⟩ (mv_noH hno _) (fun σ86 h86 => ?_)
      obtain ⟨x9, y9, q1, q2⟩ := h86
      subst q1
      have go := j94 (mv_si (ex_tell S42 x9 y9) 2 9 (-1)) hR ((hF.tell x9 y9).w (by omega) (-1)) t8 (show 0 ≤ (mv_i S42 3 9).toInt ∨ ((mv_i S42 3 9).toInt < 0 ∧ (mv_i S42 3 7).toInt = a + 3 ∧ a + 3 < sz) by omega) hgt (fun q => absurd (show x9 = 0 from q) q2) (fun q => absurd (show (0 : Int) ≤ -1 from q) (by omega))
      refine mv_aload_n (pc := 89) B d_Weaver_beginLet_89 rfl 1 rfl ?_
      refine mv_iconst (pc := 90) (v := -1) B d_Weaver_beginLet_90 (by decide) ?_
      refine mv_putI (pc := 91) (ci := 1) (C := R_Weaver) (T := F_Weaver) (N := 16) B 9 rfl rfl (by decide) i_Weaver t_Weaver_ok n_Weaver (B.2.2.2.1 _ k_239) rfl rfl rfl rfl d_Weaver_beginLet_91 ?_
      refine mv_lpick [1] rfl ?_
      exact go
  · skip
    refine mv_aload_n (pc := 56) B d_Weaver_beginLet_56 rfl 1 rfl ?_
    refine mv_iload_n (pc := 57) B d_Weaver_beginLet_57 rfl 0 rfl ?_
    refine mv_iconst (pc := 58) (v := 2) B d_Weaver_beginLet_58 (by decide) ?_
    refine mv_callVv (pc := 59) (n := 2) (ci := 1) (C := R_Weaver) B (mK_ok sk sv) hNs rfl rfl (c_Weaver_tell l hi _ _ _ hR.1 y16.1 (by omega) (by decide)) rfl (ma_goodc kc_Weaver_tell) (B.2.2.2.1 _ k_1282) (B.2.2.2.1 _ k_1284) (B.2.2.2.1 _ ks_32) (B.2.2.2.1 _ k_2) ⟨by decide +kernel, by decide +kernel, by decide +kernel⟩ rfl d_Weaver_beginLet_59 rfl (Nat.le_of_ble_eq_true rfl) ⟨by decide, by decide⟩ ⟨by decide, by decide⟩ ⟨by decide, by decide⟩ (mv_noH hno _) (fun σ59 h59 => ?_)
    obtain ⟨x9, y9, q1, q2⟩ := h59
    subst q1
    have go := j94 (mv_si (ex_tell S42 x9 y9) 2 9 (-1)) hR ((hF.tell x9 y9).w (by omega) (-1)) t8 (show 0 ≤ (mv_i S42 3 9).toInt ∨ ((mv_i S42 3 9).toInt < 0 ∧ (mv_i S42 3 7).toInt = a + 3 ∧ a + 3 < sz) by omega) hgt (fun q => absurd (show x9 = 0 from q) q2) (fun q => absurd (show (0 : Int) ≤ -1 from q) (by omega))
    refine mv_aload_n (pc := 62) B d_Weaver_beginLet_62 rfl 1 rfl ?_
    refine mv_iconst (pc := 63) (v := -1) B d_Weaver_beginLet_63 (by decide) ?_
    refine mv_putI (pc := 64) (ci := 1) (C := R_Weaver) (T := F_Weaver) (N := 16) B 9 rfl rfl (by decide) i_Weaver t_Weaver_ok n_Weaver (B.2.2.2.1 _ k_239) rfl rfl rfl rfl d_Weaver_beginLet_64 ?_
    refine mv_goto (pc := 67) (tgt := 94) B d_Weaver_beginLet_67 rfl ?_
    refine mv_lpick [1] rfl ?_
    exact go
set_option maxHeartbeats 4000000 in
set_option maxRecDepth 100000 in
theorem c_Weaver_beginLet_c (l : Launch) {dA : FieldType → ClassId} {D : va_G} {al : Nat → Nat} {sk sv : Nat → Nat} (hi : mv_inj (mg dA D al me)) (σ : mv_H) {t tn len n z sz th sl s0 a ns no : Nat} (hG : WG 145 8192 48 me σ t tn len n z sz) (hM : Mt (mv_a σ 24)) (hW : WN 145 48 σ n th sl no) {bl : List Bk} (hS : WS 145 σ sz th s0 a ns no bl) (hne : ¬ bl = []) (hk3 : mv_a σ 4 (mv_i σ 3 7).toNatClampNeg = 207) : mv_C l y_Weaver_beginLet (Cond.code y_Weaver_beginLet b_Weaver_beginLet 2 (Option.none : Option Jvm.ClassFile.FieldType) :: ma) ({ frames := 2, cells := 0, slots := 0, locals := 44 }) (mg dA D al me) (mK sk sv) [.ref (al 2)] σ (mv_Rv (fun σ1 => TP 145 48 σ σ1 n sz a)) := by
  refine mv_C.ofV (cc := b_Weaver_beginLet) (nL := 2) (ret := (Option.none : Option Jvm.ClassFile.FieldType)) (by decide +kernel) rfl hi (Nat.le_of_ble_eq_true rfl) ?_
  intro p e s m below meth c B hNs hr hnm hno
  have hP : PQ 145 := by unfold PQ; omega
  have hR := hG.1
  have ht2 := hG.2.1.2.2.2.2.2.2
  have hF : EF σ σ := Fr.rf
  have hN : mv_i σ 21 0 = 0 → mv_i σ 21 0 = 0 := fun q => q
  have hE := hG.2.2.1
  have hsz := hE.2.2.2.2.2
  have hsz2 := hE.2.2.2.1
  have hlen := hG.2.2.2.2.1
  have hlen2 := hG.2.2.2.2.2
  have t7 := hS.1.1
  have hw9 := hS.1.2.1
  have ha9 := hS.1.2.2.2.2.1
  have t9 : (mv_i σ 3 9).toInt = (mv_i σ 3 9).toInt := rfl
  have t8 : (mv_i σ 3 8).toInt = (mv_i σ 3 8).toInt := rfl
  have kp : mv_a σ 4 = mv_a σ 4 := rfl
  have k6 : mv_b σ 6 = mv_b σ 6 := rfl
  have hs5 := hS.1.2.2.2.2.2.1
  have hs6 := hS.1.2.2.2.2.2.2.1
  have hd8 := hS.1.2.2.1
  have hd9 := hS.1.2.2.2.1
  have j94 : ∀ (υ : mv_H) (hR : Rw 145 (mv_r υ)) (hF : EF σ υ) (t8 : (mv_i υ 3 8).toInt = (mv_i σ 3 8).toInt) (q9 : 0 ≤ (mv_i υ 3 9).toInt ∨ ((mv_i υ 3 9).toInt < 0 ∧ (mv_i υ 3 7).toInt = a + 3 ∧ a + 3 < sz)) (qg : 0 ≤ (mv_i υ 2 8).toInt ∧ (mv_i υ 2 8).toInt < 32770) (qi : mv_i υ 21 0 = 0 → mv_i σ 21 0 = 0 ∧ 0 ≤ (mv_i υ 2 9).toInt) (qj : 0 ≤ (mv_i υ 2 9).toInt → (mv_i υ 2 9).toInt < n ∧ (mv_i υ 13 9).toInt < 64), mv_V p l e ({ frames := 2, cells := 0, slots := 0, locals := 44 }) s m ([.ref (al 2)] : List Value).toArray below meth c (mg dA D al me) 2 0 0 (mv_Q (mg dA D al me) below s 0 0 (mv_Rv (fun σ1 => TP 145 48 σ σ1 n sz a))) υ 94 [(0, .ref (al 2))] [] := by
    intro υ hR hF t8 q9 qg qi qj
    refine mv_aload_n (pc := 94) B d_Weaver_beginLet_94 rfl 0 rfl ?_
    refine mv_iconst (pc := 95) (v := 0) B d_Weaver_beginLet_95 (by decide) ?_
    refine mv_callVv (pc := 96) (n := 1) (ci := 1) (C := R_Weaver) B (mK_ok sk sv) hNs rfl rfl (c_Weaver_beginExpr l hi _ _ hR.1) rfl (ma_goodc kc_Weaver_beginExpr) (B.2.2.2.1 _ k_1371) (B.2.2.2.1 _ k_1373) (B.2.2.2.1 _ ks_44) (B.2.2.2.1 _ k_2) ⟨by decide +kernel, by decide +kernel, by decide +kernel⟩ rfl d_Weaver_beginLet_96 rfl (Nat.le_of_ble_eq_true rfl) ⟨by decide, by decide⟩ ⟨by decide, by decide⟩ ⟨by decide, by decide⟩ (mv_noH hno _) (fun σ96 h96 => ?_)
    subst h96
    refine mv_gen (fun S99 eS99 => ?_)
    have hend : TP 145 48 σ S99 n sz a := by
      rw [eS99]
      have g := hF.wx 0
      refine ⟨g.wt, Eq.mpr (congrArg Mt (g.2.1 24 (fun q => q))) hM, th, sl, no, hW.of hP g.of, ?_⟩
      rcases q9 with q | ⟨q1, q2, q3⟩
      · exact Or.inl q
      · exact Or.inr ⟨a + 3, by omega, Or.inr (Or.inr (Or.inl ⟨rfl, WE.of (bd := bl.length) hP hS g hne hM q2 q1 (show (bl.length : Int) ≤ (mv_i υ 3 8).toInt by omega) (show (mv_i υ 3 8).toInt ≤ 60 by omega) (by omega) q3 (fun _ => by omega) rfl rfl (Or.inl ⟨rfl, rfl, rfl, qj⟩) (show ¬ (0 : Int32) = 4 by decide) (Or.inr qg) qi⟩))⟩
    clear eS99
    exact mv_vret (pc := 99) B hr d_Weaver_beginLet_99 (Nat.le_refl _) (Nat.le_refl _) ⟨rfl, hend⟩
  refine mv_aload_n (pc := 0) B d_Weaver_beginLet_0 rfl 0 rfl ?_
  refine mv_getR (pc := 1) (ci := 1) (C := R_Weaver) (T := F_Weaver) (N := 16) B 0 rfl rfl (by decide) i_Weaver (B.2.2.2.1 _ k_228) rfl (hR.1 _ 0 _ rfl) d_Weaver_beginLet_1 ?_
  refine mv_sipush (pc := 4) (v := 207) B d_Weaver_beginLet_4 (by decide) ?_
  refine mv_callVi (pc := 7) (n := 1) (ci := 2) (C := R_Tokens) B (mK_ok sk sv) hNs rfl rfl (c_Tokens_takeN l hi _ _ hR.1 (hG.2.2.1.wt (hF.wt (P := 145)) hP ht2) (by omega) (by omega) (by decide)) rfl (ma_goodc kc_Tokens_take) (B.2.2.2.1 _ k_1266) (B.2.2.2.1 _ k_1267) (B.2.2.2.1 _ k_1268) (B.2.2.2.1 _ k_3) ⟨by decide +kernel, by decide +kernel, by decide +kernel⟩ rfl d_Weaver_beginLet_7 rfl (Nat.le_of_ble_eq_true rfl) ⟨by decide, by decide⟩ ⟨by decide, by decide⟩ ⟨by decide, by decide⟩ (mv_noH hno _) (fun v7 σ7 h7 => ?_)
  obtain ⟨a7, w7, e7, r7⟩ := h7
  have q7 := r7.1
  have z7 := fun q => (r7.2.1 q).1
  have y7 := And.intro r7.2.2.2.1 r7.2.2.2.2.1
  subst e7
  have hw7 := r7.2.2.1 hw9 hk3 trivial
  refine mv_gen (fun S10 eS10 => ?_)
  have hR : Rw 145 (mv_r S10) := by rw [eS10]; exact hR
  have hF : EF σ S10 := by rw [eS10]; exact hF.tk3 _ _ _
  have hN : mv_i S10 21 0 = 0 → mv_i σ 21 0 = 0 := by rw [eS10]; exact hN
  have t7 : (mv_i S10 3 7).toInt = a7.toInt := by rw [eS10]; rfl
  have t8 : (mv_i S10 3 8).toInt = (mv_i σ 3 8).toInt := by rw [eS10]; first | exact t8 | exact (sub_one (by omega)).trans (by omega) | exact (i32_inc (by omega)).trans (by omega)
  have t9 : (mv_i S10 3 9).toInt = w7.toInt := by rw [eS10]; rfl
  have kp := Eq.trans (show mv_a S10 4 = mv_a _ 4 by rw [eS10]; rfl) kp
  have k6 := Eq.trans (show mv_b S10 6 = mv_b _ 6 by rw [eS10]; rfl) k6
  clear eS10
  refine mv_pop (pc := 10) B d_Weaver_beginLet_10 rfl ?_
  refine mv_aload_n (pc := 11) B d_Weaver_beginLet_11 rfl 0 rfl ?_
  refine mv_getR (pc := 12) (ci := 1) (C := R_Weaver) (T := F_Weaver) (N := 16) B 0 rfl rfl (by decide) i_Weaver (B.2.2.2.1 _ k_228) rfl (hR.1 _ 0 _ rfl) d_Weaver_beginLet_12 ?_
  refine mv_iconst (pc := 15) (v := 3) B d_Weaver_beginLet_15 (by decide) ?_
  refine mv_callVi (pc := 16) (n := 1) (ci := 2) (C := R_Tokens) B (mK_ok sk sv) hNs rfl rfl (c_Tokens_takeN l hi _ _ hR.1 (hG.2.2.1.wt (hF.wt (P := 145)) hP ht2) (by omega) (by omega) (by decide)) rfl (ma_goodc kc_Tokens_take) (B.2.2.2.1 _ k_1266) (B.2.2.2.1 _ k_1267) (B.2.2.2.1 _ k_1268) (B.2.2.2.1 _ k_3) ⟨by decide +kernel, by decide +kernel, by decide +kernel⟩ rfl d_Weaver_beginLet_16 rfl (Nat.le_of_ble_eq_true rfl) ⟨by decide, by decide⟩ ⟨by decide, by decide⟩ ⟨by decide, by decide⟩ (mv_noH hno _) (fun v16 σ16 h16 => ?_)
  have kz := k6
  obtain ⟨a16, w16, e16, r16⟩ := h16
  have q16 := r16.1
  have z16 := fun q => (r16.2.1 q).1
  have y16 := And.intro r16.2.2.2.1 r16.2.2.2.2.1
  subst e16
  have sy16 := TkR.sym (hG.2.2.1.wt (hF.wt (P := 145)) hP ht2) r16
  refine mv_gen (fun S19 eS19 => ?_)
  have hR : Rw 145 (mv_r S19) := by rw [eS19]; exact hR
  have hF : EF σ S19 := by rw [eS19]; exact hF.tk3 _ _ _
  have hN : mv_i S19 21 0 = 0 → mv_i σ 21 0 = 0 := by rw [eS19]; exact hN
  have t7 : (mv_i S19 3 7).toInt = a16.toInt := by rw [eS19]; rfl
  have t8 : (mv_i S19 3 8).toInt = (mv_i σ 3 8).toInt := by rw [eS19]; first | exact t8 | exact (sub_one (by omega)).trans (by omega) | exact (i32_inc (by omega)).trans (by omega)
  have t9 : (mv_i S19 3 9).toInt = w16.toInt := by rw [eS19]; rfl
  have kp := Eq.trans (show mv_a S19 4 = mv_a _ 4 by rw [eS19]; rfl) kp
  have k6 := Eq.trans (show mv_b S19 6 = mv_b _ 6 by rw [eS19]; rfl) k6
  have sy16 : 0 ≤ (mv_b σ 6 v16.toNatClampNeg).toInt ∧ (mv_b σ 6 v16.toNatClampNeg).toInt < n := by rw [← kz]; exact sy16
  have hn16 := hG.2.2.1.1.2.1
  clear eS19
  refine mv_istore_n (pc := 19) B d_Weaver_beginLet_19 rfl (by decide) rfl ?_
  refine mv_aload_n (pc := 20) B d_Weaver_beginLet_20 rfl 1 rfl ?_
  refine mv_aload_n (pc := 21) B d_Weaver_beginLet_21 rfl 1 rfl ?_
  refine mv_getR (pc := 22) (ci := 1) (C := R_Weaver) (T := F_Weaver) (N := 16) B 0 rfl rfl (by decide) i_Weaver (B.2.2.2.1 _ k_228) rfl (hR.1 _ 0 _ rfl) d_Weaver_beginLet_22 ?_
  refine mv_bipush (pc := 25) (v := 61) B d_Weaver_beginLet_25 (by decide) ?_
  refine mv_callVi (pc := 27) (n := 1) (ci := 2) (C := R_Tokens) B (mK_ok sk sv) hNs rfl rfl (c_Tokens_takeN l hi _ _ hR.1 (hG.2.2.1.wt (hF.wt (P := 145)) hP ht2) (by omega) (by omega) (by decide)) rfl (ma_goodc kc_Tokens_take) (B.2.2.2.1 _ k_1266) (B.2.2.2.1 _ k_1267) (B.2.2.2.1 _ k_1268) (B.2.2.2.1 _ k_3) ⟨by decide +kernel, by decide +kernel, by decide +kernel⟩ rfl d_Weaver_beginLet_27 rfl (Nat.le_of_ble_eq_true rfl) ⟨by decide, by decide⟩ ⟨by decide, by decide⟩ ⟨by decide, by decide⟩ (mv_noH hno _) (fun v27 σ27 h27 => ?_)
  obtain ⟨a27, w27, e27, r27⟩ := h27
  have q27 := r27.1
  have z27 := fun q => (r27.2.1 q).1
  have y27 := And.intro r27.2.2.2.1 r27.2.2.2.2.1
  subst e27
  refine mv_gen (fun S30 eS30 => ?_)
  have hR : Rw 145 (mv_r S30) := by rw [eS30]; exact hR
  have hF : EF σ S30 := by rw [eS30]; exact hF.tk3 _ _ _
  have hN : mv_i S30 21 0 = 0 → mv_i σ 21 0 = 0 := by rw [eS30]; exact hN
  have t7 : (mv_i S30 3 7).toInt = a27.toInt := by rw [eS30]; rfl
  have t8 : (mv_i S30 3 8).toInt = (mv_i σ 3 8).toInt := by rw [eS30]; first | exact t8 | exact (sub_one (by omega)).trans (by omega) | exact (i32_inc (by omega)).trans (by omega)
  have t9 : (mv_i S30 3 9).toInt = w27.toInt := by rw [eS30]; rfl
  have kp := Eq.trans (show mv_a S30 4 = mv_a _ 4 by rw [eS30]; rfl) kp
  have k6 := Eq.trans (show mv_b S30 6 = mv_b _ 6 by rw [eS30]; rfl) k6
  clear eS30
  refine mv_putI (pc := 30) (ci := 1) (C := R_Weaver) (T := F_Weaver) (N := 16) B 8 rfl rfl (by decide) i_Weaver t_Weaver_ok n_Weaver (B.2.2.2.1 _ k_238) rfl rfl rfl rfl d_Weaver_beginLet_30 ?_
  refine mv_aload_n (pc := 33) B d_Weaver_beginLet_33 rfl 1 rfl ?_
  refine mv_aload_n (pc := 34) B d_Weaver_beginLet_34 rfl 1 rfl ?_
  refine mv_iload_n (pc := 35) B d_Weaver_beginLet_35 rfl 0 rfl ?_
  refine mv_callVi (pc := 36) (n := 1) (ci := 1) (C := R_Weaver) B (mK_ok sk sv) hNs rfl rfl (c_Weaver_symbolOf l hi _ _ hR.1 y16.1 (by omega)) rfl (ma_goodc kc_Weaver_symbolOf) (B.2.2.2.1 _ k_1312) (B.2.2.2.1 _ k_1314) (B.2.2.2.1 _ ks_37) (B.2.2.2.1 _ k_2) ⟨by decide +kernel, by decide +kernel, by decide +kernel⟩ rfl d_Weaver_beginLet_36 rfl (Nat.le_of_ble_eq_true rfl) ⟨by decide, by decide⟩ ⟨by decide, by decide⟩ ⟨by decide, by decide⟩ (mv_noH hno _) (fun v36 σ36 h36 => ?_)
  obtain ⟨e36, z36⟩ := h36
  have e36 := e36.symm
  subst e36
  have z37 : v36.toInt = (mv_b σ 6 v16.toNatClampNeg).toInt := by rw [z36]; show (mv_b S30 6 _).toInt32.toInt = _; rw [k6]; exact l2i_nn sy16.1 (by omega)
  refine mv_putI (pc := 39) (ci := 1) (C := R_Weaver) (T := F_Weaver) (N := 16) B 9 rfl rfl (by decide) i_Weaver t_Weaver_ok n_Weaver (B.2.2.2.1 _ k_239) rfl rfl rfl rfl d_Weaver_beginLet_39 ?_
  refine mv_gen (fun S42 eS42 => ?_)
  have hR : Rw 145 (mv_r S42) := by rw [eS42]; exact hR
  have hF : EF σ S42 := by rw [eS42]; exact hF.w (by omega) _ |>.w (by omega) _
  have hN : mv_i S42 21 0 = 0 → mv_i σ 21 0 = 0 := by rw [eS42]; exact hN
  have t7 := Eq.trans (congrArg Int32.toInt (show mv_i S42 3 7 = mv_i _ 3 7 by rw [eS42]; rfl)) t7
  have t8 := Eq.trans (congrArg Int32.toInt (show mv_i S42 3 8 = mv_i _ 3 8 by rw [eS42]; rfl)) t8
  have t9 := Eq.trans (congrArg Int32.toInt (show mv_i S42 3 9 = mv_i _ 3 9 by rw [eS42]; rfl)) t9
  have kp := Eq.trans (show mv_a S42 4 = mv_a _ 4 by rw [eS42]; rfl) kp
  have k6 := Eq.trans (show mv_b S42 6 = mv_b _ 6 by rw [eS42]; rfl) k6
  have g9 : (mv_i S42 2 9).toInt = (mv_b σ 6 v16.toNatClampNeg).toInt := by rw [eS42]; exact z37
  have hgt : 0 ≤ (mv_i S42 2 8).toInt ∧ (mv_i S42 2 8).toInt < 32770 := by rw [eS42]; exact ⟨y27.1, by show v27.toInt < 32770; omega⟩
  have h139 : mv_i S42 13 9 = mv_i σ 13 9 := hF.1 13 9 (by decide)
  have hl64 := hW.2.2.2.1.2
  clear eS42
  refine mv_aload_n (pc := 42) B d_Weaver_beginLet_42 rfl 1 rfl ?_
  refine mv_getR (pc := 43) (ci := 1) (C := R_Weaver) (T := F_Weaver) (N := 16) B 1 rfl rfl (by decide) i_Weaver (B.2.2.2.1 _ k_229) rfl (hR.1 _ 1 _ rfl) d_Weaver_beginLet_43 ?_
  refine mv_aload_n (pc := 46) B d_Weaver_beginLet_46 rfl 1 rfl ?_
  refine mv_getI (pc := 47) (ci := 1) (C := R_Weaver) (T := F_Weaver) (N := 16) B 9 rfl rfl (by decide) i_Weaver (B.2.2.2.1 _ k_239) rfl d_Weaver_beginLet_47 ?_
  refine mv_callVi (pc := 50) (n := 1) (ci := 4) (C := R_Names) B (mK_ok sk sv) hNs rfl rfl (c_Names_kindOf l hi _ _ hR.1 n z (hG.2.2.1.wt (hF.wt (P := 145)) hP ht2).1 (by omega) (by omega)) rfl (ma_goodc kc_Names_kindOf) (B.2.2.2.1 _ k_1316) (B.2.2.2.1 _ k_1317) (B.2.2.2.1 _ k_1318) (B.2.2.2.1 _ k_5) ⟨by decide +kernel, by decide +kernel, by decide +kernel⟩ rfl d_Weaver_beginLet_50 rfl (Nat.le_of_ble_eq_true rfl) ⟨by decide, by decide⟩ ⟨by decide, by decide⟩ ⟨by decide, by decide⟩ (mv_noH hno _) (fun v50 σ50 h50 => ?_)
  obtain ⟨e50, -⟩ := h50
  have e50 := e50.symm
  subst e50
  refine mv_if_eq (pc := 53) (tgt := 70) B d_Weaver_beginLet_53 rfl (fun h53 => ?_) (fun h53 => ?_)
  · skip
    refine mv_aload_n (pc := 70) B d_Weaver_beginLet_70 rfl 1 rfl ?_
    refine mv_getR (pc := 71) (ci := 1) (C := R_Weaver) (T := F_Weaver) (N := 16) B 1 rfl rfl (by decide) i_Weaver (B.2.2.2.1 _ k_229) rfl (hR.1 _ 1 _ rfl) d_Weaver_beginLet_71 ?_
    refine mv_getI (pc := 74) (ci := 4) (C := R_Names) (T := F_Names) (N := 10) B 9 rfl rfl (by decide) i_Names (B.2.2.2.1 _ k_149) rfl d_Weaver_beginLet_74 ?_
    refine mv_bipush (pc := 77) (v := 64) B d_Weaver_beginLet_77 (by decide) ?_
    refine mv_icmp_ne (pc := 79) (tgt := 94) B d_Weaver_beginLet_79 rfl (fun h79 => ?_) (fun h79 => ?_)
    · skip
      have hlt : ¬ (mv_i S42 13 9).toInt = 64 := fun q => h79 (Int32.toInt_inj.mp q)
      have go := j94 S42 hR hF t8 (by omega) hgt (fun q => ⟨hN q, by omega⟩) (fun _ => ⟨by omega, by rw [h139] at hlt ⊢; omega⟩)
      refine mv_lpick [1] rfl ?_
      exact go
    · skip
      refine mv_aload_n (pc := 82) B d_Weaver_beginLet_82 rfl 1 rfl ?_
      refine mv_iload_n (pc := 83) B d_Weaver_beginLet_83 rfl 0 rfl ?_
      refine mv_bipush (pc := 84) (v := 6) B d_Weaver_beginLet_84 (by decide) ?_
      refine mv_callVv (pc := 86) (n := 2) (ci := 1) (C := R_Weaver) B (mK_ok sk sv) hNs rfl rfl (c_Weaver_tell l hi _ _ _ hR.1 y16.1 (by omega) (by decide)) rfl (ma_goodc kc_Weaver_tell) (B.2.2.2.1 _ k_1282) (B.2.2.2.1 _ k_1284) (B.2.2.2.1 _ ks_32) (B.2.2.2.1 _ k_2) ⟨by decide +kernel, by decide +kernel, by decide +kernel⟩ rfl d_Weaver_beginLet_86 rfl (Nat.le_of_ble_eq_true rfl) ⟨by decide, by decide⟩ ⟨by decide, by decide⟩ ⟨by decide, by decide⟩ (mv_noH hno _) (fun σ86 h86 => ?_)
      obtain ⟨x9, y9, q1, q2⟩ := h86
      subst q1
      have go := j94 (mv_si (ex_tell S42 x9 y9) 2 9 (-1)) hR ((hF.tell x9 y9).w (by omega) (-1)) t8 (show 0 ≤ (mv_i S42 3 9).toInt ∨ ((mv_i S42 3 9).toInt < 0 ∧ (mv_i S42 3 7).toInt = a + 3 ∧ a + 3 < sz) by omega) hgt (fun q => absurd (show x9 = 0 from q) q2) (fun q => absurd (show (0 : Int) ≤ -1 from q) (by omega))
      refine mv_aload_n (pc := 89) B d_Weaver_beginLet_89 rfl 1 rfl ?_
      refine mv_iconst (pc := 90) (v := -1) B d_Weaver_beginLet_90 (by decide) ?_
      refine mv_putI (pc := 91) (ci := 1) (C := R_Weaver) (T := F_Weaver) (N := 16) B 9 rfl rfl (by decide) i_Weaver t_Weaver_ok n_Weaver (B.2.2.2.1 _ k_239) rfl rfl rfl rfl d_Weaver_beginLet_91 ?_
      refine mv_lpick [1] rfl ?_
      exact go
  · skip
    refine mv_aload_n (pc := 56) B d_Weaver_beginLet_56 rfl 1 rfl ?_
    refine mv_iload_n (pc := 57) B d_Weaver_beginLet_57 rfl 0 rfl ?_
    refine mv_iconst (pc := 58) (v := 2) B d_Weaver_beginLet_58 (by decide) ?_
    refine mv_callVv (pc := 59) (n := 2) (ci := 1) (C := R_Weaver) B (mK_ok sk sv) hNs rfl rfl (c_Weaver_tell l hi _ _ _ hR.1 y16.1 (by omega) (by decide)) rfl (ma_goodc kc_Weaver_tell) (B.2.2.2.1 _ k_1282) (B.2.2.2.1 _ k_1284) (B.2.2.2.1 _ ks_32) (B.2.2.2.1 _ k_2) ⟨by decide +kernel, by decide +kernel, by decide +kernel⟩ rfl d_Weaver_beginLet_59 rfl (Nat.le_of_ble_eq_true rfl) ⟨by decide, by decide⟩ ⟨by decide, by decide⟩ ⟨by decide, by decide⟩ (mv_noH hno _) (fun σ59 h59 => ?_)
    obtain ⟨x9, y9, q1, q2⟩ := h59
    subst q1
    have go := j94 (mv_si (ex_tell S42 x9 y9) 2 9 (-1)) hR ((hF.tell x9 y9).w (by omega) (-1)) t8 (show 0 ≤ (mv_i S42 3 9).toInt ∨ ((mv_i S42 3 9).toInt < 0 ∧ (mv_i S42 3 7).toInt = a + 3 ∧ a + 3 < sz) by omega) hgt (fun q => absurd (show x9 = 0 from q) q2) (fun q => absurd (show (0 : Int) ≤ -1 from q) (by omega))
    refine mv_aload_n (pc := 62) B d_Weaver_beginLet_62 rfl 1 rfl ?_
    refine mv_iconst (pc := 63) (v := -1) B d_Weaver_beginLet_63 (by decide) ?_
    refine mv_putI (pc := 64) (ci := 1) (C := R_Weaver) (T := F_Weaver) (N := 16) B 9 rfl rfl (by decide) i_Weaver t_Weaver_ok n_Weaver (B.2.2.2.1 _ k_239) rfl rfl rfl rfl d_Weaver_beginLet_64 ?_
    refine mv_goto (pc := 67) (tgt := 94) B d_Weaver_beginLet_67 rfl ?_
    refine mv_lpick [1] rfl ?_
    exact go
def y_Weaver_beginAssignment : MethodName := ⟨"MachineLoom$Weaver", "beginAssignment", "()V"⟩
abbrev b_Weaver_beginAssignment : ByteArray := prog_12_method_20_code
theorem kc_Weaver_beginAssignment : Cond.code y_Weaver_beginAssignment b_Weaver_beginAssignment 4 (Option.none : Option Jvm.ClassFile.FieldType) ∈ ma := ma_of (tb_6 _ (List.mem_of_getElem? (i := 182) rfl)) rfl
theorem d_Weaver_beginAssignment_0 : decode b_Weaver_beginAssignment 0 = .ok (.aload_n 0, 1) := by decide +kernel
theorem d_Weaver_beginAssignment_1 : decode b_Weaver_beginAssignment 1 = .ok (.getfield 12, 3) := by decide +kernel
theorem d_Weaver_beginAssignment_4 : decode b_Weaver_beginAssignment 4 = .ok (.iconst 3, 1) := by decide +kernel
theorem d_Weaver_beginAssignment_5 : decode b_Weaver_beginAssignment 5 = .ok (.invokevirtual 143, 3) := by decide +kernel
theorem d_Weaver_beginAssignment_8 : decode b_Weaver_beginAssignment 8 = .ok (.istore_n 1, 1) := by decide +kernel
theorem d_Weaver_beginAssignment_9 : decode b_Weaver_beginAssignment 9 = .ok (.aload_n 0, 1) := by decide +kernel
theorem d_Weaver_beginAssignment_10 : decode b_Weaver_beginAssignment 10 = .ok (.iload_n 1, 1) := by decide +kernel
theorem d_Weaver_beginAssignment_11 : decode b_Weaver_beginAssignment 11 = .ok (.invokevirtual 185, 3) := by decide +kernel
theorem d_Weaver_beginAssignment_14 : decode b_Weaver_beginAssignment 14 = .ok (.istore_n 2, 1) := by decide +kernel
theorem d_Weaver_beginAssignment_15 : decode b_Weaver_beginAssignment 15 = .ok (.aload_n 0, 1) := by decide +kernel
theorem d_Weaver_beginAssignment_16 : decode b_Weaver_beginAssignment 16 = .ok (.getfield 12, 3) := by decide +kernel
theorem d_Weaver_beginAssignment_19 : decode b_Weaver_beginAssignment 19 = .ok (.invokevirtual 159, 3) := by decide +kernel
theorem d_Weaver_beginAssignment_22 : decode b_Weaver_beginAssignment 22 = .ok (.bipush 91, 2) := by decide +kernel
theorem d_Weaver_beginAssignment_24 : decode b_Weaver_beginAssignment 24 = .ok (.if_icmp .ne (7), 3) := by decide +kernel
theorem d_Weaver_beginAssignment_27 : decode b_Weaver_beginAssignment 27 = .ok (.iconst 1, 1) := by decide +kernel
theorem d_Weaver_beginAssignment_28 : decode b_Weaver_beginAssignment 28 = .ok (.goto (4), 3) := by decide +kernel
theorem d_Weaver_beginAssignment_31 : decode b_Weaver_beginAssignment 31 = .ok (.iconst 0, 1) := by decide +kernel
theorem d_Weaver_beginAssignment_32 : decode b_Weaver_beginAssignment 32 = .ok (.istore_n 3, 1) := by decide +kernel
theorem d_Weaver_beginAssignment_33 : decode b_Weaver_beginAssignment 33 = .ok (.aload_n 0, 1) := by decide +kernel
theorem d_Weaver_beginAssignment_34 : decode b_Weaver_beginAssignment 34 = .ok (.aload_n 0, 1) := by decide +kernel
theorem d_Weaver_beginAssignment_35 : decode b_Weaver_beginAssignment 35 = .ok (.getfield 27, 3) := by decide +kernel
theorem d_Weaver_beginAssignment_38 : decode b_Weaver_beginAssignment 38 = .ok (.getfield 209, 3) := by decide +kernel
theorem d_Weaver_beginAssignment_41 : decode b_Weaver_beginAssignment 41 = .ok (.iload_n 2, 1) := by decide +kernel
theorem d_Weaver_beginAssignment_42 : decode b_Weaver_beginAssignment 42 = .ok (.iaload, 1) := by decide +kernel
theorem d_Weaver_beginAssignment_43 : decode b_Weaver_beginAssignment 43 = .ok (.putfield 290, 3) := by decide +kernel
theorem d_Weaver_beginAssignment_46 : decode b_Weaver_beginAssignment 46 = .ok (.aload_n 0, 1) := by decide +kernel
theorem d_Weaver_beginAssignment_47 : decode b_Weaver_beginAssignment 47 = .ok (.getfield 27, 3) := by decide +kernel
theorem d_Weaver_beginAssignment_50 : decode b_Weaver_beginAssignment 50 = .ok (.iload_n 2, 1) := by decide +kernel
theorem d_Weaver_beginAssignment_51 : decode b_Weaver_beginAssignment 51 = .ok (.invokevirtual 200, 3) := by decide +kernel
theorem d_Weaver_beginAssignment_54 : decode b_Weaver_beginAssignment 54 = .ok (.iload_n 3, 1) := by decide +kernel
theorem d_Weaver_beginAssignment_55 : decode b_Weaver_beginAssignment 55 = .ok (.ifCond .eq (7), 3) := by decide +kernel
theorem d_Weaver_beginAssignment_58 : decode b_Weaver_beginAssignment 58 = .ok (.iconst 2, 1) := by decide +kernel
theorem d_Weaver_beginAssignment_59 : decode b_Weaver_beginAssignment 59 = .ok (.goto (4), 3) := by decide +kernel
theorem d_Weaver_beginAssignment_62 : decode b_Weaver_beginAssignment 62 = .ok (.iconst 1, 1) := by decide +kernel
theorem d_Weaver_beginAssignment_63 : decode b_Weaver_beginAssignment 63 = .ok (.if_icmp .eq (14), 3) := by decide +kernel
theorem d_Weaver_beginAssignment_66 : decode b_Weaver_beginAssignment 66 = .ok (.aload_n 0, 1) := by decide +kernel
theorem d_Weaver_beginAssignment_67 : decode b_Weaver_beginAssignment 67 = .ok (.iload_n 1, 1) := by decide +kernel
theorem d_Weaver_beginAssignment_68 : decode b_Weaver_beginAssignment 68 = .ok (.iconst 2, 1) := by decide +kernel
theorem d_Weaver_beginAssignment_69 : decode b_Weaver_beginAssignment 69 = .ok (.invokevirtual 158, 3) := by decide +kernel
theorem d_Weaver_beginAssignment_72 : decode b_Weaver_beginAssignment 72 = .ok (.aload_n 0, 1) := by decide +kernel
theorem d_Weaver_beginAssignment_73 : decode b_Weaver_beginAssignment 73 = .ok (.iconst (-1), 1) := by decide +kernel
theorem d_Weaver_beginAssignment_74 : decode b_Weaver_beginAssignment 74 = .ok (.putfield 290, 3) := by decide +kernel
theorem d_Weaver_beginAssignment_77 : decode b_Weaver_beginAssignment 77 = .ok (.iload_n 3, 1) := by decide +kernel
theorem d_Weaver_beginAssignment_78 : decode b_Weaver_beginAssignment 78 = .ok (.ifCond .eq (21), 3) := by decide +kernel
theorem d_Weaver_beginAssignment_81 : decode b_Weaver_beginAssignment 81 = .ok (.aload_n 0, 1) := by decide +kernel
theorem d_Weaver_beginAssignment_82 : decode b_Weaver_beginAssignment 82 = .ok (.getfield 12, 3) := by decide +kernel
theorem d_Weaver_beginAssignment_85 : decode b_Weaver_beginAssignment 85 = .ok (.bipush 91, 2) := by decide +kernel
theorem d_Weaver_beginAssignment_87 : decode b_Weaver_beginAssignment 87 = .ok (.invokevirtual 237, 3) := by decide +kernel
theorem d_Weaver_beginAssignment_90 : decode b_Weaver_beginAssignment 90 = .ok (.pop, 1) := by decide +kernel
theorem d_Weaver_beginAssignment_91 : decode b_Weaver_beginAssignment 91 = .ok (.aload_n 0, 1) := by decide +kernel
theorem d_Weaver_beginAssignment_92 : decode b_Weaver_beginAssignment 92 = .ok (.iconst 1, 1) := by decide +kernel
theorem d_Weaver_beginAssignment_93 : decode b_Weaver_beginAssignment 93 = .ok (.invokevirtual 287, 3) := by decide +kernel
theorem d_Weaver_beginAssignment_96 : decode b_Weaver_beginAssignment 96 = .ok (.goto (21), 3) := by decide +kernel
theorem d_Weaver_beginAssignment_99 : decode b_Weaver_beginAssignment 99 = .ok (.aload_n 0, 1) := by decide +kernel
theorem d_Weaver_beginAssignment_100 : decode b_Weaver_beginAssignment 100 = .ok (.aload_n 0, 1) := by decide +kernel
theorem d_Weaver_beginAssignment_101 : decode b_Weaver_beginAssignment 101 = .ok (.getfield 12, 3) := by decide +kernel
theorem d_Weaver_beginAssignment_104 : decode b_Weaver_beginAssignment 104 = .ok (.bipush 61, 2) := by decide +kernel
theorem d_Weaver_beginAssignment_106 : decode b_Weaver_beginAssignment 106 = .ok (.invokevirtual 143, 3) := by decide +kernel
theorem d_Weaver_beginAssignment_109 : decode b_Weaver_beginAssignment 109 = .ok (.putfield 281, 3) := by decide +kernel
theorem d_Weaver_beginAssignment_112 : decode b_Weaver_beginAssignment 112 = .ok (.aload_n 0, 1) := by decide +kernel
theorem d_Weaver_beginAssignment_113 : decode b_Weaver_beginAssignment 113 = .ok (.iconst 2, 1) := by decide +kernel
theorem d_Weaver_beginAssignment_114 : decode b_Weaver_beginAssignment 114 = .ok (.invokevirtual 287, 3) := by decide +kernel
theorem d_Weaver_beginAssignment_117 : decode b_Weaver_beginAssignment 117 = .ok (.return_, 1) := by decide +kernel
set_option maxHeartbeats 4000000 in
set_option maxRecDepth 100000 in
theorem c_Weaver_beginAssignment_a (l : Launch) {dA : FieldType → ClassId} {D : va_G} {al : Nat → Nat} {ext : mv_Sh} {sk sv : Nat → Nat} (hi : mv_inj (mg dA D al ext)) (σ : mv_H) {t tn len n z sz th sl s0 a ns no : Nat} (hG : WG 32 32768 512 ext σ t tn len n z sz) (hM : Mt (mv_a σ 24)) (hW : WN 32 512 σ n th sl no) {bl : List Bk} (hS : WS 32 σ sz th s0 a ns no bl) (hne : ¬ bl = []) (hk3 : mv_a σ 4 (mv_i σ 3 7).toNatClampNeg = 3) : mv_C l y_Weaver_beginAssignment (Cond.code y_Weaver_beginAssignment b_Weaver_beginAssignment 4 (Option.none : Option Jvm.ClassFile.FieldType) :: ma) ({ frames := 3, cells := 0, slots := 0, locals := 63 }) (mg dA D al ext) (mK sk sv) [.ref (al 2)] σ (mv_Rv (fun σ1 => TP 32 512 σ σ1 n sz a)) := by
  refine mv_C.ofV (cc := b_Weaver_beginAssignment) (nL := 4) (ret := (Option.none : Option Jvm.ClassFile.FieldType)) (by decide +kernel) rfl hi (Nat.le_of_ble_eq_true rfl) ?_
  intro p e s m below meth c B hNs hr hnm hno
  have hP : PQ 32 := by unfold PQ; omega
  have hR := hG.1
  have ht2 := hG.2.1.2.2.2.2.2.2
  have hF : EF σ σ := Fr.rf
  have hN : mv_i σ 21 0 = 0 → mv_i σ 21 0 = 0 := fun q => q
  have hE := hG.2.2.1
  have hsz := hE.2.2.2.2.2
  have hsz2 := hE.2.2.2.1
  have hlen := hG.2.2.2.2.1
  have hlen2 := hG.2.2.2.2.2
  have t7 := hS.1.1
  have hw9 := hS.1.2.1
  have ha9 := hS.1.2.2.2.2.1
  have t9 : (mv_i σ 3 9).toInt = (mv_i σ 3 9).toInt := rfl
  have t8 : (mv_i σ 3 8).toInt = (mv_i σ 3 8).toInt := rfl
  have kp : mv_a σ 4 = mv_a σ 4 := rfl
  have k6 : mv_b σ 6 = mv_b σ 6 := rfl
  have hs5 := hS.1.2.2.2.2.2.1
  have hs6 := hS.1.2.2.2.2.2.2.1
  have hd8 := hS.1.2.2.1
  have hd9 := hS.1.2.2.2.1
  have j77 : ∀ (υ : mv_H) (fl : Int32) (hR : Rw 32 (mv_r υ)) (hF : EF σ υ) (t8 : (mv_i υ 3 8).toInt = (mv_i σ 3 8).toInt) (t9 : (mv_i υ 3 9).toInt < 0) (t7 : (mv_i υ 3 7).toInt = a + 1) (t6 : a + 1 < sz) (qi : mv_i υ 21 0 = 0 → mv_i σ 21 0 = 0 ∧ 0 ≤ (mv_i υ 2 9).toInt) (qj : 0 ≤ (mv_i υ 2 9).toInt → (mv_i υ 2 9).toInt < th) (k6 : mv_b υ 6 = mv_b σ 6) (kp : mv_a υ 4 = mv_a σ 4), mv_V p l e ({ frames := 3, cells := 0, slots := 0, locals := 63 }) s m ([.ref (al 2)] : List Value).toArray below meth c (mg dA D al ext) 4 0 0 (mv_Q (mg dA D al ext) below s 0 0 (mv_Rv (fun σ1 => TP 32 512 σ σ1 n sz a))) υ 77 [(3, .int fl), (0, .ref (al 2))] [] := by
    intro υ fl hR hF t8 t9 t7 t6 qi qj k6 kp
    have hN : mv_i υ 21 0 = 0 → mv_i σ 21 0 = 0 := fun q => (qi q).1
    refine mv_iload_n (pc := 77) B d_Weaver_beginAssignment_77 rfl 0 rfl ?_
    refine mv_if_eq (pc := 78) (tgt := 99) B d_Weaver_beginAssignment_78 rfl (fun h78 => ?_) (fun h78 => ?_)
    · skip
      refine mv_aload_n (pc := 99) B d_Weaver_beginAssignment_99 rfl 1 rfl ?_
      refine mv_aload_n (pc := 100) B d_Weaver_beginAssignment_100 rfl 1 rfl ?_
      refine mv_getR (pc := 101) (ci := 1) (C := R_Weaver) (T := F_Weaver) (N := 16) B 0 rfl rfl (by decide) i_Weaver (B.2.2.2.1 _ k_228) rfl (hR.1 _ 0 _ rfl) d_Weaver_beginAssignment_101 ?_
      refine mv_bipush (pc := 104) (v := 61) B d_Weaver_beginAssignment_104 (by decide) ?_
      refine mv_callVi (pc := 106) (n := 1) (ci := 2) (C := R_Tokens) B (mK_ok sk sv) hNs rfl rfl (c_Tokens_takeN l hi _ _ hR.1 (hG.2.2.1.wt (hF.wt (P := 32)) hP ht2) (by omega) (by omega) (by decide)) rfl (ma_goodc kc_Tokens_take) (B.2.2.2.1 _ k_1266) (B.2.2.2.1 _ k_1267) (B.2.2.2.1 _ k_1268) (B.2.2.2.1 _ k_3) ⟨by decide +kernel, by decide +kernel, by decide +kernel⟩ rfl d_Weaver_beginAssignment_106 rfl (Nat.le_of_ble_eq_true rfl) ⟨by decide, by decide⟩ ⟨by decide, by decide⟩ ⟨by decide, by decide⟩ (mv_noH hno _) (fun v106 σ106 h106 => ?_)
      obtain ⟨a106, w106, e106, r106⟩ := h106
      have q106 := r106.1
      have z106 := fun q => (r106.2.1 q).1
      have y106 := And.intro r106.2.2.2.1 r106.2.2.2.2.1
      subst e106
      refine mv_gen (fun S109 eS109 => ?_)
      have hR : Rw 32 (mv_r S109) := by rw [eS109]; exact hR
      have hF : EF σ S109 := by rw [eS109]; exact hF.tk3 _ _ _
      have hN : mv_i S109 21 0 = 0 → mv_i σ 21 0 = 0 := by rw [eS109]; exact hN
      have t7 : (mv_i S109 3 7).toInt = a106.toInt := by rw [eS109]; rfl
      have t8 : (mv_i S109 3 8).toInt = (mv_i σ 3 8).toInt := by rw [eS109]; first | exact t8 | exact (sub_one (by omega)).trans (by omega) | exact (i32_inc (by omega)).trans (by omega)
      have t9 : (mv_i S109 3 9).toInt = w106.toInt := by rw [eS109]; rfl
      have kp := Eq.trans (show mv_a S109 4 = mv_a _ 4 by rw [eS109]; rfl) kp
      have k6 := Eq.trans (show mv_b S109 6 = mv_b _ 6 by rw [eS109]; rfl) k6
      have qi : mv_i S109 21 0 = 0 → mv_i σ 21 0 = 0 ∧ 0 ≤ (mv_i S109 2 9).toInt := by rw [eS109]; exact qi
      have qj : 0 ≤ (mv_i S109 2 9).toInt → (mv_i S109 2 9).toInt < th := by rw [eS109]; exact qj
      clear eS109
      refine mv_putI (pc := 109) (ci := 1) (C := R_Weaver) (T := F_Weaver) (N := 16) B 8 rfl rfl (by decide) i_Weaver t_Weaver_ok n_Weaver (B.2.2.2.1 _ k_238) rfl rfl rfl rfl d_Weaver_beginAssignment_109 ?_
      refine mv_gen (fun S112 eS112 => ?_)
      have hR : Rw 32 (mv_r S112) := by rw [eS112]; exact hR
      have hF : EF σ S112 := by rw [eS112]; exact hF.w (by omega) _
      have u7 : (mv_i S112 3 7).toInt = (mv_i S109 3 7).toInt := by rw [eS112]; rfl
      have u8 : (mv_i S112 3 8).toInt = (mv_i S109 3 8).toInt := by rw [eS112]; rfl
      have u9 : (mv_i S112 3 9).toInt = (mv_i S109 3 9).toInt := by rw [eS112]; rfl
      have hgt : 0 ≤ (mv_i S112 2 8).toInt ∧ (mv_i S112 2 8).toInt < 32770 := by rw [eS112]; exact ⟨y106.1, by show v106.toInt < 32770; omega⟩
      have qi : mv_i S112 21 0 = 0 → mv_i σ 21 0 = 0 ∧ 0 ≤ (mv_i S112 2 9).toInt := by rw [eS112]; exact qi
      have qj : 0 ≤ (mv_i S112 2 9).toInt → (mv_i S112 2 9).toInt < th := by rw [eS112]; exact qj
      clear eS112
      refine mv_aload_n (pc := 112) B d_Weaver_beginAssignment_112 rfl 1 rfl ?_
      refine mv_iconst (pc := 113) (v := 2) B d_Weaver_beginAssignment_113 (by decide) ?_
      refine mv_callVv (pc := 114) (n := 1) (ci := 1) (C := R_Weaver) B (mK_ok sk sv) hNs rfl rfl (c_Weaver_beginExpr l hi _ _ hR.1) rfl (ma_goodc kc_Weaver_beginExpr) (B.2.2.2.1 _ k_1371) (B.2.2.2.1 _ k_1373) (B.2.2.2.1 _ ks_44) (B.2.2.2.1 _ k_2) ⟨by decide +kernel, by decide +kernel, by decide +kernel⟩ rfl d_Weaver_beginAssignment_114 rfl (Nat.le_of_ble_eq_true rfl) ⟨by decide, by decide⟩ ⟨by decide, by decide⟩ ⟨by decide, by decide⟩ (mv_noH hno _) (fun σ114 h114 => ?_)
      subst h114
      refine mv_gen (fun S117 eS117 => ?_)
      have hend : TP 32 512 σ S117 n sz a := by
        rw [eS117]
        have g := hF.wx 2
        refine ⟨g.wt, Eq.mpr (congrArg Mt (g.2.1 24 (fun q => q))) hM, th, sl, no, hW.of hP g.of, ?_⟩
        by_cases q : (mv_i S112 3 9).toInt < 0
        · exact Or.inr ⟨a + 2, by omega, Or.inr (Or.inr (Or.inl ⟨rfl, WE.of (bd := bl.length) hP hS g hne hM (show (mv_i S112 3 7).toInt = _ by omega) q (show (bl.length : Int) ≤ (mv_i S112 3 8).toInt by omega) (show (mv_i S112 3 8).toInt ≤ 60 by omega) (by omega) (by omega) (fun _ => by omega) rfl rfl (Or.inr (Or.inr (Or.inl ⟨rfl, rfl, rfl, qj⟩))) (show ¬ (2 : Int32) = 4 by decide) (Or.inr hgt) qi⟩))⟩
        · exact Or.inl (show 0 ≤ (mv_i S112 3 9).toInt by omega)
      clear eS117
      exact mv_vret (pc := 117) B hr d_Weaver_beginAssignment_117 (Nat.le_refl _) (Nat.le_refl _) ⟨rfl, hend⟩
    · skip
      refine mv_aload_n (pc := 81) B d_Weaver_beginAssignment_81 rfl 1 rfl ?_
      refine mv_getR (pc := 82) (ci := 1) (C := R_Weaver) (T := F_Weaver) (N := 16) B 0 rfl rfl (by decide) i_Weaver (B.2.2.2.1 _ k_228) rfl (hR.1 _ 0 _ rfl) d_Weaver_beginAssignment_82 ?_
      refine mv_bipush (pc := 85) (v := 91) B d_Weaver_beginAssignment_85 (by decide) ?_
      refine mv_callVi (pc := 87) (n := 1) (ci := 2) (C := R_Tokens) B (mK_ok sk sv) hNs rfl rfl (c_Tokens_openN l hi _ _ hR.1 (hG.2.2.1.wt (hF.wt (P := 32)) hP ht2) (by omega) (by omega) (by decide)) rfl (ma_goodc kc_Tokens_open) (B.2.2.2.1 _ k_1349) (B.2.2.2.1 _ k_1350) (B.2.2.2.1 _ k_1351) (B.2.2.2.1 _ k_3) ⟨by decide +kernel, by decide +kernel, by decide +kernel⟩ rfl d_Weaver_beginAssignment_87 rfl (Nat.le_of_ble_eq_true rfl) ⟨by decide, by decide⟩ ⟨by decide, by decide⟩ ⟨by decide, by decide⟩ (mv_noH hno _) (fun v87 σ87 h87 => ?_)
      obtain ⟨a87, w87, e87, r87⟩ := h87
      have q87 := r87.1
      have z87 := fun q => (r87.2.1 q).1
      have y87 := And.intro r87.2.2.2.1 r87.2.2.2.2.1
      subst e87
      refine mv_gen (fun S90 eS90 => ?_)
      have hR : Rw 32 (mv_r S90) := by rw [eS90]; exact hR
      have hF : EF σ S90 := by rw [eS90]; exact hF.tk3 _ _ _
      have hN : mv_i S90 21 0 = 0 → mv_i σ 21 0 = 0 := by rw [eS90]; exact hN
      have t7 : (mv_i S90 3 7).toInt = a87.toInt := by rw [eS90]; rfl
      have t8 : (mv_i S90 3 8).toInt = (mv_i σ 3 8).toInt + 1 := by rw [eS90]; first | exact t8 | exact (sub_one (by omega)).trans (by omega) | exact (i32_inc (by omega)).trans (by omega)
      have t9 : (mv_i S90 3 9).toInt = w87.toInt := by rw [eS90]; rfl
      have kp := Eq.trans (show mv_a S90 4 = mv_a _ 4 by rw [eS90]; rfl) kp
      have k6 := Eq.trans (show mv_b S90 6 = mv_b _ 6 by rw [eS90]; rfl) k6
      have qi : mv_i S90 21 0 = 0 → mv_i σ 21 0 = 0 ∧ 0 ≤ (mv_i S90 2 9).toInt := by rw [eS90]; exact qi
      have qj : 0 ≤ (mv_i S90 2 9).toInt → (mv_i S90 2 9).toInt < th := by rw [eS90]; exact qj
      clear eS90
      refine mv_pop (pc := 90) B d_Weaver_beginAssignment_90 rfl ?_
      refine mv_aload_n (pc := 91) B d_Weaver_beginAssignment_91 rfl 1 rfl ?_
      refine mv_iconst (pc := 92) (v := 1) B d_Weaver_beginAssignment_92 (by decide) ?_
      refine mv_callVv (pc := 93) (n := 1) (ci := 1) (C := R_Weaver) B (mK_ok sk sv) hNs rfl rfl (c_Weaver_beginExpr l hi _ _ hR.1) rfl (ma_goodc kc_Weaver_beginExpr) (B.2.2.2.1 _ k_1371) (B.2.2.2.1 _ k_1373) (B.2.2.2.1 _ ks_44) (B.2.2.2.1 _ k_2) ⟨by decide +kernel, by decide +kernel, by decide +kernel⟩ rfl d_Weaver_beginAssignment_93 rfl (Nat.le_of_ble_eq_true rfl) ⟨by decide, by decide⟩ ⟨by decide, by decide⟩ ⟨by decide, by decide⟩ (mv_noH hno _) (fun σ93 h93 => ?_)
      subst h93
      refine mv_gen (fun S96 eS96 => ?_)
      have hend : TP 32 512 σ S96 n sz a := by
        rw [eS96]
        have g := hF.wx 1
        refine ⟨g.wt, Eq.mpr (congrArg Mt (g.2.1 24 (fun q => q))) hM, th, sl, no, hW.of hP g.of, ?_⟩
        by_cases q : (mv_i S90 3 9).toInt < 0
        · have hd := (r87.2.1 (by omega)).2.2.1
          have hd : ¬ (mv_i υ 3 8).toInt = 60 := fun q => hd (Int32.toInt_inj.mp q)
          exact Or.inr ⟨a + 2, by omega, Or.inr (Or.inr (Or.inl ⟨rfl, WE.of (bd := bl.length + 1) hP hS g hne hM (show (mv_i S90 3 7).toInt = _ by omega) q (show ((bl.length + 1 : Nat) : Int) ≤ (mv_i S90 3 8).toInt by omega) (show (mv_i S90 3 8).toInt ≤ 60 by omega) (by omega) (by omega) (fun _ => by omega) rfl rfl (Or.inr (Or.inl ⟨rfl, rfl, rfl, qj⟩)) (show ¬ (1 : Int32) = 4 by decide) (Or.inl rfl) qi⟩))⟩
        · exact Or.inl (show 0 ≤ (mv_i S90 3 9).toInt by omega)
      clear eS96
      refine mv_goto (pc := 96) (tgt := 117) B d_Weaver_beginAssignment_96 rfl ?_
      exact mv_vret (pc := 117) B hr d_Weaver_beginAssignment_117 (Nat.le_refl _) (Nat.le_refl _) ⟨rfl, hend⟩
  have j32 : ∀ (υ : mv_H) (fl : Int32) (sy : Int32) (tk1 : Int32) (hR : Rw 32 (mv_r υ)) (hF : EF σ υ) (hN : mv_i υ 21 0 = 0 → mv_i σ 21 0 = 0) (t8 : (mv_i υ 3 8).toInt = (mv_i σ 3 8).toInt) (t9 : (mv_i υ 3 9).toInt < 0) (t7 : (mv_i υ 3 7).toInt = a + 1) (t6 : a + 1 < sz) (hsy : 0 ≤ sy.toInt ∧ sy.toInt < n) (b1 : 0 ≤ tk1.toInt ∧ tk1.toInt < sz) (k6 : mv_b υ 6 = mv_b σ 6) (kp : mv_a υ 4 = mv_a σ 4), mv_V p l e ({ frames := 3, cells := 0, slots := 0, locals := 63 }) s m ([.ref (al 2)] : List Value).toArray below meth c (mg dA D al ext) 4 0 0 (mv_Q (mg dA D al ext) below s 0 0 (mv_Rv (fun σ1 => TP 32 512 σ σ1 n sz a))) υ 32 [(2, .int sy), (1, .int tk1), (0, .ref (al 2))] [.int fl] := by
    intro υ fl sy tk1 hR hF hN t8 t9 t7 t6 hsy b1 k6 kp
    have hn16 := hG.2.2.1.1.2.1
    have hFυ := hF
    refine mv_istore_n (pc := 32) B d_Weaver_beginAssignment_32 rfl (by decide) rfl ?_
    refine mv_aload_n (pc := 33) B d_Weaver_beginAssignment_33 rfl 3 rfl ?_
    refine mv_aload_n (pc := 34) B d_Weaver_beginAssignment_34 rfl 3 rfl ?_
    refine mv_getR (pc := 35) (ci := 1) (C := R_Weaver) (T := F_Weaver) (N := 16) B 1 rfl rfl (by decide) i_Weaver (B.2.2.2.1 _ k_229) rfl (hR.1 _ 1 _ rfl) d_Weaver_beginAssignment_35 ?_
    refine mv_getR (pc := 38) (ci := 4) (C := R_Names) (T := F_Names) (N := 10) B 2 rfl rfl (by decide) i_Names (B.2.2.2.1 _ k_138) rfl (hR.1 _ 2 _ rfl) d_Weaver_beginAssignment_38 ?_
    refine mv_iload_n (pc := 41) B d_Weaver_beginAssignment_41 rfl 1 rfl ?_
    refine mv_iald (pc := 42) B rfl (i32_in (by omega) (by omega)) d_Weaver_beginAssignment_42 ?_
    refine mv_putI (pc := 43) (ci := 1) (C := R_Weaver) (T := F_Weaver) (N := 16) B 9 rfl rfl (by decide) i_Weaver t_Weaver_ok n_Weaver (B.2.2.2.1 _ k_239) rfl rfl rfl rfl d_Weaver_beginAssignment_43 ?_
    refine mv_gen (fun S46 eS46 => ?_)
    have hR : Rw 32 (mv_r S46) := by rw [eS46]; exact hR
    have hF : EF σ S46 := by rw [eS46]; exact hF.w (by omega) _
    have hN : mv_i S46 21 0 = 0 → mv_i σ 21 0 = 0 := by rw [eS46]; exact hN
    have t7 : (mv_i S46 3 7).toInt = a + 1 := by rw [eS46]; exact t7
    have t8 : (mv_i S46 3 8).toInt = (mv_i σ 3 8).toInt := by rw [eS46]; exact t8
    have t9 : (mv_i S46 3 9).toInt < 0 := by rw [eS46]; exact t9
    have kp : mv_a S46 4 = mv_a σ 4 := by rw [eS46]; exact kp
    have k6 : mv_b S46 6 = mv_b σ 6 := by rw [eS46]; exact k6
    have g9 : mv_i S46 2 9 = mv_a υ 15 sy.toNatClampNeg := by rw [eS46]; rfl
    have a14 : mv_a S46 14 = mv_a υ 14 := by rw [eS46]; rfl
    have nm := hW.1 sy.toNatClampNeg (by have := i32_cl (x := sy) (by omega); omega)
    have a14b : mv_a υ 14 = mv_a σ 14 := hFυ.2.1 14 (fun q => q)
    have a15b : mv_a υ 15 = mv_a σ 15 := hFυ.2.1 15 (fun q => q)
    rw [← a14b, ← a15b, ← a14, ← g9] at nm
    clear eS46
    refine mv_aload_n (pc := 46) B d_Weaver_beginAssignment_46 rfl 3 rfl ?_
    refine mv_getR (pc := 47) (ci := 1) (C := R_Weaver) (T := F_Weaver) (N := 16) B 1 rfl rfl (by decide) i_Weaver (B.2.2.2.1 _ k_229) rfl (hR.1 _ 1 _ rfl) d_Weaver_beginAssignment_47 ?_
    refine mv_iload_n (pc := 50) B d_Weaver_beginAssignment_50 rfl 1 rfl ?_
    refine mv_callVi (pc := 51) (n := 1) (ci := 4) (C := R_Names) B (mK_ok sk sv) hNs rfl rfl (c_Names_kindOf l hi _ _ hR.1 n z (hG.2.2.1.wt (hF.wt (P := 32)) hP ht2).1 (by omega) (by omega)) rfl (ma_goodc kc_Names_kindOf) (B.2.2.2.1 _ k_1316) (B.2.2.2.1 _ k_1317) (B.2.2.2.1 _ k_1318) (B.2.2.2.1 _ k_5) ⟨by decide +kernel, by decide +kernel, by decide +kernel⟩ rfl d_Weaver_beginAssignment_51 rfl (Nat.le_of_ble_eq_true rfl) ⟨by decide, by decide⟩ ⟨by decide, by decide⟩ ⟨by decide, by decide⟩ (mv_noH hno _) (fun v51 σ51 h51 => ?_)
    obtain ⟨e51, z51⟩ := h51
    have e51 := e51.symm
    subst e51
    refine mv_iload_n (pc := 54) B d_Weaver_beginAssignment_54 rfl 0 rfl ?_
    refine mv_if_eq (pc := 55) (tgt := 62) B d_Weaver_beginAssignment_55 rfl (fun h55 => ?_) (fun h55 => ?_)
    · skip
      refine mv_iconst (pc := 62) (v := 1) B d_Weaver_beginAssignment_62 (by decide) ?_
      refine mv_icmp_eq (pc := 63) (tgt := 77) B d_Weaver_beginAssignment_63 rfl (fun h63 => ?_) (fun h63 => ?_)
      · skip
        have nk : mv_a S46 14 sy.toNatClampNeg = 1 ∨ mv_a S46 14 sy.toNatClampNeg = 2 := by rcases z51 with q | q <;> rw [q] at h63 <;> first | exact absurd h63 (by decide) | exact Or.inl h63 | exact Or.inr h63
        have nk2 := nm.1 nk
        have go := j77 S46 fl hR hF t8 t9 t7 t6 (fun q => ⟨hN q, nk2.1⟩) (fun _ => nk2.2) k6 kp
        refine mv_lpick [0, 3] rfl ?_
        exact go
      · skip
        refine mv_aload_n (pc := 66) B d_Weaver_beginAssignment_66 rfl 3 rfl ?_
        refine mv_iload_n (pc := 67) B d_Weaver_beginAssignment_67 rfl 2 rfl ?_
        refine mv_iconst (pc := 68) (v := 2) B d_Weaver_beginAssignment_68 (by decide) ?_
        refine mv_callVv (pc := 69) (n := 2) (ci := 1) (C := R_Weaver) B (mK_ok sk sv) hNs rfl rfl (c_Weaver_tell l hi _ _ _ hR.1 b1.1 (by omega) (by decide)) rfl (ma_goodc kc_Weaver_tell) (B.2.2.2.1 _ k_1282) (B.2.2.2.1 _ k_1284) (B.2.2.2.1 _ ks_32) (B.2.2.2.1 _ k_2) ⟨by decide +kernel, by decide +kernel, by decide +kernel⟩ rfl d_Weaver_beginAssignment_69 rfl (Nat.le_of_ble_eq_true rfl) ⟨by decide, by decide⟩ ⟨by decide, by decide⟩ ⟨by decide, by decide⟩ (mv_noH hno _) (fun σ69 h69 => ?_)
        obtain ⟨x9, y9, q1, q2⟩ := h69
        subst q1
        have go := j77 (mv_si (ex_tell S46 x9 y9) 2 9 (-1)) fl hR ((hF.tell x9 y9).w (by omega) (-1)) t8 t9 t7 t6 (fun q => absurd (show x9 = 0 from q) q2) (fun q => absurd (show (0 : Int) ≤ -1 from q) (by omega)) k6 kp
        refine mv_aload_n (pc := 72) B d_Weaver_beginAssignment_72 rfl 3 rfl ?_
        refine mv_iconst (pc := 73) (v := -1) B d_Weaver_beginAssignment_73 (by decide) ?_
        refine mv_putI (pc := 74) (ci := 1) (C := R_Weaver) (T := F_Weaver) (N := 16) B 9 rfl rfl (by decide) i_Weaver t_Weaver_ok n_Weaver (B.2.2.2.1 _ k_239) rfl rfl rfl rfl d_Weaver_beginAssignment_74 ?_
        refine mv_lpick [0, 3] rfl ?_
        exact go
    · skip
      refine mv_iconst (pc := 58) (v := 2) B d_Weaver_beginAssignment_58 (by decide) ?_
      refine mv_goto (pc := 59) (tgt := 63) B d_Weaver_beginAssignment_59 rfl ?_
      refine mv_icmp_eq (pc := 63) (tgt := 77) B d_Weaver_beginAssignment_63 rfl (fun h63 => ?_) (fun h63 => ?_)
      · skip
        have nk : mv_a S46 14 sy.toNatClampNeg = 1 ∨ mv_a S46 14 sy.toNatClampNeg = 2 := by rcases z51 with q | q <;> rw [q] at h63 <;> first | exact absurd h63 (by decide) | exact Or.inl h63 | exact Or.inr h63
        have nk2 := nm.1 nk
        have go := j77 S46 fl hR hF t8 t9 t7 t6 (fun q => ⟨hN q, nk2.1⟩) (fun _ => nk2.2) k6 kp
        refine mv_lpick [0, 3] rfl ?_
        exact go
      · skip
        refine mv_aload_n (pc := 66) B d_Weaver_beginAssignment_66 rfl 3 rfl ?_
        refine mv_iload_n (pc := 67) B d_Weaver_beginAssignment_67 rfl 2 rfl ?_
        refine mv_iconst (pc := 68) (v := 2) B d_Weaver_beginAssignment_68 (by decide) ?_
        refine mv_callVv (pc := 69) (n := 2) (ci := 1) (C := R_Weaver) B (mK_ok sk sv) hNs rfl rfl (c_Weaver_tell l hi _ _ _ hR.1 b1.1 (by omega) (by decide)) rfl (ma_goodc kc_Weaver_tell) (B.2.2.2.1 _ k_1282) (B.2.2.2.1 _ k_1284) (B.2.2.2.1 _ ks_32) (B.2.2.2.1 _ k_2) ⟨by decide +kernel, by decide +kernel, by decide +kernel⟩ rfl d_Weaver_beginAssignment_69 rfl (Nat.le_of_ble_eq_true rfl) ⟨by decide, by decide⟩ ⟨by decide, by decide⟩ ⟨by decide, by decide⟩ (mv_noH hno _) (fun σ69 h69 => ?_)
        obtain ⟨x9, y9, q1, q2⟩ := h69
        subst q1
        have go := j77 (mv_si (ex_tell S46 x9 y9) 2 9 (-1)) fl hR ((hF.tell x9 y9).w (by omega) (-1)) t8 t9 t7 t6 (fun q => absurd (show x9 = 0 from q) q2) (fun q => absurd (show (0 : Int) ≤ -1 from q) (by omega)) k6 kp
        refine mv_aload_n (pc := 72) B d_Weaver_beginAssignment_72 rfl 3 rfl ?_
        refine mv_iconst (pc := 73) (v := -1) B d_Weaver_beginAssignment_73 (by decide) ?_
        refine mv_putI (pc := 74) (ci := 1) (C := R_Weaver) (T := F_Weaver) (N := 16) B 9 rfl rfl (by decide) i_Weaver t_Weaver_ok n_Weaver (B.2.2.2.1 _ k_239) rfl rfl rfl rfl d_Weaver_beginAssignment_74 ?_
        refine mv_lpick [0, 3] rfl ?_
        exact go
  refine mv_aload_n (pc := 0) B d_Weaver_beginAssignment_0 rfl 0 rfl ?_
  refine mv_getR (pc := 1) (ci := 1) (C := R_Weaver) (T := F_Weaver) (N := 16) B 0 rfl rfl (by decide) i_Weaver (B.2.2.2.1 _ k_228) rfl (hR.1 _ 0 _ rfl) d_Weaver_beginAssignment_1 ?_
  refine mv_iconst (pc := 4) (v := 3) B d_Weaver_beginAssignment_4 (by decide) ?_
  refine mv_callVi (pc := 5) (n := 1) (ci := 2) (C := R_Tokens) B (mK_ok sk sv) hNs rfl rfl (c_Tokens_takeN l hi _ _ hR.1 (hG.2.2.1.wt (hF.wt (P := 32)) hP ht2) (by omega) (by omega) (by decide)) rfl (ma_goodc kc_Tokens_take) (B.2.2.2.1 _ k_1266) (B.2.2.2.1 _ k_1267) (B.2.2.2.1 _ k_1268) (B.2.2.2.1 _ k_3) ⟨by decide +kernel, by decide +kernel, by decide +kernel⟩ rfl d_Weaver_beginAssignment_5 rfl (Nat.le_of_ble_eq_true rfl) ⟨by decide, by decide⟩ ⟨by decide, by decide⟩ ⟨by decide, by decide⟩ (mv_noH hno _) (fun v5 σ5 h5 => ?_)
  have kz := k6
  obtain ⟨a5, w5, e5, r5⟩ := h5
  have q5 := r5.1
  have z5 := fun q => (r5.2.1 q).1
  have y5 := And.intro r5.2.2.2.1 r5.2.2.2.2.1
  subst e5
  have hw5 := r5.2.2.1 hw9 hk3 trivial
  have sy5 := TkR.sym (hG.2.2.1.wt (hF.wt (P := 32)) hP ht2) r5
  refine mv_gen (fun S8 eS8 => ?_)
  have hR : Rw 32 (mv_r S8) := by rw [eS8]; exact hR
  have hF : EF σ S8 := by rw [eS8]; exact hF.tk3 _ _ _
  have hN : mv_i S8 21 0 = 0 → mv_i σ 21 0 = 0 := by rw [eS8]; exact hN
  have t7 : (mv_i S8 3 7).toInt = a5.toInt := by rw [eS8]; rfl
  have t8 : (mv_i S8 3 8).toInt = (mv_i σ 3 8).toInt := by rw [eS8]; first | exact t8 | exact (sub_one (by omega)).trans (by omega) | exact (i32_inc (by omega)).trans (by omega)
  have t9 : (mv_i S8 3 9).toInt = w5.toInt := by rw [eS8]; rfl
  have kp := Eq.trans (show mv_a S8 4 = mv_a _ 4 by rw [eS8]; rfl) kp
  have k6 := Eq.trans (show mv_b S8 6 = mv_b _ 6 by rw [eS8]; rfl) k6
  have hn16 := hG.2.2.1.1.2.1
  clear eS8
  refine mv_istore_n (pc := 8) B d_Weaver_beginAssignment_8 rfl (by decide) rfl ?_
  refine mv_aload_n (pc := 9) B d_Weaver_beginAssignment_9 rfl 1 rfl ?_
  refine mv_iload_n (pc := 10) B d_Weaver_beginAssignment_10 rfl 0 rfl ?_
  refine mv_callVi (pc := 11) (n := 1) (ci := 1) (C := R_Weaver) B (mK_ok sk sv) hNs rfl rfl (c_Weaver_symbolOf l hi _ _ hR.1 y5.1 (by omega)) rfl (ma_goodc kc_Weaver_symbolOf) (B.2.2.2.1 _ k_1312) (B.2.2.2.1 _ k_1314) (B.2.2.2.1 _ ks_37) (B.2.2.2.1 _ k_2) ⟨by decide +kernel, by decide +kernel, by decide +kernel⟩ rfl d_Weaver_beginAssignment_11 rfl (Nat.le_of_ble_eq_true rfl) ⟨by decide, by decide⟩ ⟨by decide, by decide⟩ ⟨by decide, by decide⟩ (mv_noH hno _) (fun v11 σ11 h11 => ?_)
  obtain ⟨e11, z11⟩ := h11
  have e11 := e11.symm
  subst e11
  have hsy : 0 ≤ v11.toInt ∧ v11.toInt < n := by rw [z11, k6, l2i_nn sy5.1 (by omega)]; exact sy5
  refine mv_istore_n (pc := 14) B d_Weaver_beginAssignment_14 rfl (by decide) rfl ?_
  refine mv_aload_n (pc := 15) B d_Weaver_beginAssignment_15 rfl 2 rfl ?_
  refine mv_getR (pc := 16) (ci := 1) (C := R_Weaver) (T := F_Weaver) (N := 16) B 0 rfl rfl (by decide) i_Weaver (B.2.2.2.1 _ k_228) rfl (hR.1 _ 0 _ rfl) d_Weaver_beginAssignment_16 ?_
  refine mv_callVi (pc := 19) (n := 0) (ci := 2) (C := R_Tokens) B (mK_ok sk sv) hNs rfl rfl (c_Tokens_kind l hi _ hR.1 (i32_in (by omega) (by omega))) rfl (ma_goodc kc_Tokens_kind) (B.2.2.2.1 _ k_1299) (B.2.2.2.1 _ k_1271) (B.2.2.2.1 _ k_1272) (B.2.2.2.1 _ k_3) ⟨by decide +kernel, by decide +kernel, by decide +kernel⟩ rfl d_Weaver_beginAssignment_19 rfl (Nat.le_of_ble_eq_true rfl) ⟨by decide, by decide⟩ ⟨by decide, by decide⟩ ⟨by decide, by decide⟩ (mv_noH hno _) (fun v19 σ19 h19 => ?_)
  obtain ⟨e19, -⟩ := h19
  have e19 := e19.symm
  subst e19
  refine mv_bipush (pc := 22) (v := 91) B d_Weaver_beginAssignment_22 (by decide) ?_
  refine mv_icmp_ne (pc := 24) (tgt := 31) B d_Weaver_beginAssignment_24 rfl (fun h24 => ?_) (fun h24 => ?_)
  · skip
    refine mv_iconst (pc := 31) (v := 0) B d_Weaver_beginAssignment_31 (by decide) ?_
    refine mv_lpick [0, 1, 2] rfl ?_
    exact j32 _ _ _ _ hR hF hN t8 (by omega) (by omega) (by omega) hsy y5 k6 kp
  · skip
    refine mv_iconst (pc := 27) (v := 1) B d_Weaver_beginAssignment_27 (by decide) ?_
    refine mv_goto (pc := 28) (tgt := 32) B d_Weaver_beginAssignment_28 rfl ?_
    refine mv_lpick [0, 1, 2] rfl ?_
    exact j32 _ _ _ _ hR hF hN t8 (by omega) (by omega) (by omega) hsy y5 k6 kp
set_option maxHeartbeats 4000000 in
set_option maxRecDepth 100000 in
theorem c_Weaver_beginAssignment_b (l : Launch) {dA : FieldType → ClassId} {D : va_G} {al : Nat → Nat} {ext : mv_Sh} {sk sv : Nat → Nat} (hi : mv_inj (mg dA D al ext)) (σ : mv_H) {t tn len n z sz th sl s0 a ns no : Nat} (hG : WG 48 32768 512 ext σ t tn len n z sz) (hM : Mt (mv_a σ 24)) (hW : WN 48 512 σ n th sl no) {bl : List Bk} (hS : WS 48 σ sz th s0 a ns no bl) (hne : ¬ bl = []) (hk3 : mv_a σ 4 (mv_i σ 3 7).toNatClampNeg = 3) : mv_C l y_Weaver_beginAssignment (Cond.code y_Weaver_beginAssignment b_Weaver_beginAssignment 4 (Option.none : Option Jvm.ClassFile.FieldType) :: ma) ({ frames := 3, cells := 0, slots := 0, locals := 63 }) (mg dA D al ext) (mK sk sv) [.ref (al 2)] σ (mv_Rv (fun σ1 => TP 48 512 σ σ1 n sz a)) := by
  refine mv_C.ofV (cc := b_Weaver_beginAssignment) (nL := 4) (ret := (Option.none : Option Jvm.ClassFile.FieldType)) (by decide +kernel) rfl hi (Nat.le_of_ble_eq_true rfl) ?_
  intro p e s m below meth c B hNs hr hnm hno
  have hP : PQ 48 := by unfold PQ; omega
  have hR := hG.1
  have ht2 := hG.2.1.2.2.2.2.2.2
  have hF : EF σ σ := Fr.rf
  have hN : mv_i σ 21 0 = 0 → mv_i σ 21 0 = 0 := fun q => q
  have hE := hG.2.2.1
  have hsz := hE.2.2.2.2.2
  have hsz2 := hE.2.2.2.1
  have hlen := hG.2.2.2.2.1
  have hlen2 := hG.2.2.2.2.2
  have t7 := hS.1.1
  have hw9 := hS.1.2.1
  have ha9 := hS.1.2.2.2.2.1
  have t9 : (mv_i σ 3 9).toInt = (mv_i σ 3 9).toInt := rfl
  have t8 : (mv_i σ 3 8).toInt = (mv_i σ 3 8).toInt := rfl
  have kp : mv_a σ 4 = mv_a σ 4 := rfl
  have k6 : mv_b σ 6 = mv_b σ 6 := rfl
  have hs5 := hS.1.2.2.2.2.2.1
  have hs6 := hS.1.2.2.2.2.2.2.1
  have hd8 := hS.1.2.2.1
  have hd9 := hS.1.2.2.2.1
  have j77 : ∀ (υ : mv_H) (fl : Int32) (hR : Rw 48 (mv_r υ)) (hF : EF σ υ) (t8 : (mv_i υ 3 8).toInt = (mv_i σ 3 8).toInt) (t9 : (mv_i υ 3 9).toInt < 0) (t7 : (mv_i υ 3 7).toInt = a + 1) (t6 : a + 1 < sz) (qi : mv_i υ 21 0 = 0 → mv_i σ 21 0 = 0 ∧ 0 ≤ (mv_i υ 2 9).toInt) (qj : 0 ≤ (mv_i υ 2 9).toInt → (mv_i υ 2 9).toInt < th) (k6 : mv_b υ 6 = mv_b σ 6) (kp : mv_a υ 4 = mv_a σ 4), mv_V p l e ({ frames := 3, cells := 0, slots := 0, locals := 63 }) s m ([.ref (al 2)] : List Value).toArray below meth c (mg dA D al ext) 4 0 0 (mv_Q (mg dA D al ext) below s 0 0 (mv_Rv (fun σ1 => TP 48 512 σ σ1 n sz a))) υ 77 [(3, .int fl), (0, .ref (al 2))] [] := by
    intro υ fl hR hF t8 t9 t7 t6 qi qj k6 kp
    have hN : mv_i υ 21 0 = 0 → mv_i σ 21 0 = 0 := fun q => (qi q).1
    refine mv_iload_n (pc := 77) B d_Weaver_beginAssignment_77 rfl 0 rfl ?_
    refine mv_if_eq (pc := 78) (tgt := 99) B d_Weaver_beginAssignment_78 rfl (fun h78 => ?_) (fun h78 => ?_)
    · skip
      refine mv_aload_n (pc := 99) B d_Weaver_beginAssignment_99 rfl 1 rfl ?_
      refine mv_aload_n (pc := 100) B d_Weaver_beginAssignment_100 rfl 1 rfl ?_
      refine mv_getR (pc := 101) (ci := 1) (C := R_Weaver) (T := F_Weaver) (N := 16) B 0 rfl rfl (by decide) i_Weaver (B.2.2.2.1 _ k_228) rfl (hR.1 _ 0 _ rfl) d_Weaver_beginAssignment_101 ?_
      refine mv_bipush (pc := 104) (v := 61) B d_Weaver_beginAssignment_104 (by decide) ?_
      refine mv_callVi (pc := 106) (n := 1) (ci := 2) (C := R_Tokens) B (mK_ok sk sv) hNs rfl rfl (c_Tokens_takeN l hi _ _ hR.1 (hG.2.2.1.wt (hF.wt (P := 48)) hP ht2) (by omega) (by omega) (by decide)) rfl (ma_goodc kc_Tokens_take) (B.2.2.2.1 _ k_1266) (B.2.2.2.1 _ k_1267) (B.2.2.2.1 _ k_1268) (B.2.2.2.1 _ k_3) ⟨by decide +kernel, by decide +kernel, by decide +kernel⟩ rfl d_Weaver_beginAssignment_106 rfl (Nat.le_of_ble_eq_true rfl) ⟨by decide, by decide⟩ ⟨by decide, by decide⟩ ⟨by decide, by decide⟩ (mv_noH hno _) (fun v106 σ106 h106 => ?_)
      obtain ⟨a106, w106, e106, r106⟩ := h106
      have q106 := r106.1
      have z106 := fun q => (r106.2.1 q).1
      have y106 := And.intro r106.2.2.2.1 r106.2.2.2.2.1
      subst e106
      refine mv_gen (fun S109 eS109 => ?_)
      have hR : Rw 48 (mv_r S109) := by rw [eS109]; exact hR
      have hF : EF σ S109 := by rw [eS109]; exact hF.tk3 _ _ _
      have hN : mv_i S109 21 0 = 0 → mv_i σ 21 0 = 0 := by rw [eS109]; exact hN
      have t7 : (mv_i S109 3 7).toInt = a106.toInt := by rw [eS109]; rfl
      have t8 : (mv_i S109 3 8).toInt = (mv_i σ 3 8).toInt := by rw [eS109]; first | exact t8 | exact (sub_one (by omega)).trans (by omega) | exact (i32_inc (by omega)).trans (by omega)
      have t9 : (mv_i S109 3 9).toInt = w106.toInt := by rw [eS109]; rfl
      have kp := Eq.trans (show mv_a S109 4 = mv_a _ 4 by rw [eS109]; rfl) kp
      have k6 := Eq.trans (show mv_b S109 6 = mv_b _ 6 by rw [eS109]; rfl) k6
      have qi : mv_i S109 21 0 = 0 → mv_i σ 21 0 = 0 ∧ 0 ≤ (mv_i S109 2 9).toInt := by rw [eS109]; exact qi
      have qj : 0 ≤ (mv_i S109 2 9).toInt → (mv_i S109 2 9).toInt < th := by rw [eS109]; exact qj
      clear eS109
      refine mv_putI (pc := 109) (ci := 1) (C := R_Weaver) (T := F_Weaver) (N := 16) B 8 rfl rfl (by decide) i_Weaver t_Weaver_ok n_Weaver (B.2.2.2.1 _ k_238) rfl rfl rfl rfl d_Weaver_beginAssignment_109 ?_
      refine mv_gen (fun S112 eS112 => ?_)
      have hR : Rw 48 (mv_r S112) := by rw [eS112]; exact hR
      have hF : EF σ S112 := by rw [eS112]; exact hF.w (by omega) _
      have u7 : (mv_i S112 3 7).toInt = (mv_i S109 3 7).toInt := by rw [eS112]; rfl
      have u8 : (mv_i S112 3 8).toInt = (mv_i S109 3 8).toInt := by rw [eS112]; rfl
      have u9 : (mv_i S112 3 9).toInt = (mv_i S109 3 9).toInt := by rw [eS112]; rfl
      have hgt : 0 ≤ (mv_i S112 2 8).toInt ∧ (mv_i S112 2 8).toInt < 32770 := by rw [eS112]; exact ⟨y106.1, by show v106.toInt < 32770; omega⟩
      have qi : mv_i S112 21 0 = 0 → mv_i σ 21 0 = 0 ∧ 0 ≤ (mv_i S112 2 9).toInt := by rw [eS112]; exact qi
      have qj : 0 ≤ (mv_i S112 2 9).toInt → (mv_i S112 2 9).toInt < th := by rw [eS112]; exact qj
      clear eS112
      refine mv_aload_n (pc := 112) B d_Weaver_beginAssignment_112 rfl 1 rfl ?_
      refine mv_iconst (pc := 113) (v := 2) B d_Weaver_beginAssignment_113 (by decide) ?_
      refine mv_callVv (pc := 114) (n := 1) (ci := 1) (C := R_Weaver) B (mK_ok sk sv) hNs rfl rfl (c_Weaver_beginExpr l hi _ _ hR.1) rfl (ma_goodc kc_Weaver_beginExpr) (B.2.2.2.1 _ k_1371) (B.2.2.2.1 _ k_1373) (B.2.2.2.1 _ ks_44) (B.2.2.2.1 _ k_2) ⟨by decide +kernel, by decide +kernel, by decide +kernel⟩ rfl d_Weaver_beginAssignment_114 rfl (Nat.le_of_ble_eq_true rfl) ⟨by decide, by decide⟩ ⟨by decide, by decide⟩ ⟨by decide, by decide⟩ (mv_noH hno _) (fun σ114 h114 => ?_)
      subst h114
      refine mv_gen (fun S117 eS117 => ?_)
      have hend : TP 48 512 σ S117 n sz a := by
        rw [eS117]
        have g := hF.wx 2
        refine ⟨g.wt, Eq.mpr (congrArg Mt (g.2.1 24 (fun q => q))) hM, th, sl, no, hW.of hP g.of, ?_⟩
        by_cases q : (mv_i S112 3 9).toInt < 0
        · exact Or.inr ⟨a + 2, by omega, Or.inr (Or.inr (Or.inl ⟨rfl, WE.of (bd := bl.length) hP hS g hne hM (show (mv_i S112 3 7).toInt = _ by omega) q (show (bl.length : Int) ≤ (mv_i S112 3 8).toInt by omega) (show (mv_i S112 3 8).toInt ≤ 60 by omega) (by omega) (by omega) (fun _ => by omega) rfl rfl (Or.inr (Or.inr (Or.inl ⟨rfl, rfl, rfl, qj⟩))) (show ¬ (2 : Int32) = 4 by decide) (Or.inr hgt) qi⟩))⟩
        · exact Or.inl (show 0 ≤ (mv_i S112 3 9).toInt by omega)
      clear eS117
      exact mv_vret (pc := 117) B hr d_Weaver_beginAssignment_117 (Nat.le_refl _) (Nat.le_refl _) ⟨rfl, hend⟩
    · skip
      refine mv_aload_n (pc := 81) B d_Weaver_beginAssignment_81 rfl 1 rfl ?_
      refine mv_getR (pc := 82) (ci := 1) (C := R_Weaver) (T := F_Weaver) (N := 16) B 0 rfl rfl (by decide) i_Weaver (B.2.2.2.1 _ k_228) rfl (hR.1 _ 0 _ rfl) d_Weaver_beginAssignment_82 ?_
      refine mv_bipush (pc := 85) (v := 91) B d_Weaver_beginAssignment_85 (by decide) ?_
      refine mv_callVi (pc := 87) (n := 1) (ci := 2) (C := R_Tokens) B (mK_ok sk sv) hNs rfl rfl (c_Tokens_openN l hi _ _ hR.1 (hG.2.2.1.wt (hF.wt (P := 48)) hP ht2) (by omega) (by omega) (by decide)) rfl (ma_goodc kc_Tokens_open) (B.2.2.2.1 _ k_1349) (B.2.2.2.1 _ k_1350) (B.2.2.2.1 _ k_1351) (B.2.2.2.1 _ k_3) ⟨by decide +kernel, by decide +kernel, by decide +kernel⟩ rfl d_Weaver_beginAssignment_87 rfl (Nat.le_of_ble_eq_true rfl) ⟨by decide, by decide⟩ ⟨by decide, by decide⟩ ⟨by decide, by decide⟩ (mv_noH hno _) (fun v87 σ87 h87 => ?_)
      obtain ⟨a87, w87, e87, r87⟩ := h87
      have q87 := r87.1
      have z87 := fun q => (r87.2.1 q).1
      have y87 := And.intro r87.2.2.2.1 r87.2.2.2.2.1
      subst e87
      refine mv_gen (fun S90 eS90 => ?_)
      have hR : Rw 48 (mv_r S90) := by rw [eS90]; exact hR
      have hF : EF σ S90 := by rw [eS90]; exact hF.tk3 _ _ _
      have hN : mv_i S90 21 0 = 0 → mv_i σ 21 0 = 0 := by rw [eS90]; exact hN
      have t7 : (mv_i S90 3 7).toInt = a87.toInt := by rw [eS90]; rfl
      have t8 : (mv_i S90 3 8).toInt = (mv_i σ 3 8).toInt + 1 := by rw [eS90]; first | exact t8 | exact (sub_one (by omega)).trans (by omega) | exact (i32_inc (by omega)).trans (by omega)
      have t9 : (mv_i S90 3 9).toInt = w87.toInt := by rw [eS90]; rfl
      have kp := Eq.trans (show mv_a S90 4 = mv_a _ 4 by rw [eS90]; rfl) kp
      have k6 := Eq.trans (show mv_b S90 6 = mv_b _ 6 by rw [eS90]; rfl) k6
      have qi : mv_i S90 21 0 = 0 → mv_i σ 21 0 = 0 ∧ 0 ≤ (mv_i S90 2 9).toInt := by rw [eS90]; exact qi
      have qj : 0 ≤ (mv_i S90 2 9).toInt → (mv_i S90 2 9).toInt < th := by rw [eS90]; exact qj
      clear eS90
      refine mv_pop (pc := 90) B d_Weaver_beginAssignment_90 rfl ?_
      refine mv_aload_n (pc := 91) B d_Weaver_beginAssignment_91 rfl 1 rfl ?_
      refine mv_iconst (pc := 92) (v := 1) B d_Weaver_beginAssignment_92 (by decide) ?_
      refine mv_callVv (pc := 93) (n := 1) (ci := 1) (C := R_Weaver) B (mK_ok sk sv) hNs rfl rfl (c_Weaver_beginExpr l hi _ _ hR.1) rfl (ma_goodc kc_Weaver_beginExpr) (B.2.2.2.1 _ k_1371) (B.2.2.2.1 _ k_1373) (B.2.2.2.1 _ ks_44) (B.2.2.2.1 _ k_2) ⟨by decide +kernel, by decide +kernel, by decide +kernel⟩ rfl d_Weaver_beginAssignment_93 rfl (Nat.le_of_ble_eq_true rfl) ⟨by decide, by decide⟩ ⟨by decide, by decide⟩ ⟨by decide, by decide⟩ (mv_noH hno _) (fun σ93 h93 => ?_)
      subst h93
      refine mv_gen (fun S96 eS96 => ?_)
      have hend : TP 48 512 σ S96 n sz a := by
        rw [eS96]
        have g := hF.wx 1
        refine ⟨g.wt, Eq.mpr (congrArg Mt (g.2.1 24 (fun q => q))) hM, th, sl, no, hW.of hP g.of, ?_⟩
        by_cases q : (mv_i S90 3 9).toInt < 0
        · have hd := (r87.2.1 (by omega)).2.2.1
          have hd : ¬ (mv_i υ 3 8).toInt = 60 := fun q => hd (Int32.toInt_inj.mp q)
          exact Or.inr ⟨a + 2, by omega, Or.inr (Or.inr (Or.inl ⟨rfl, WE.of (bd := bl.length + 1) hP hS g hne hM (show (mv_i S90 3 7).toInt = _ by omega) q (show ((bl.length + 1 : Nat) : Int) ≤ (mv_i S90 3 8).toInt by omega) (show (mv_i S90 3 8).toInt ≤ 60 by omega) (by omega) (by omega) (fun _ => by omega) rfl rfl (Or.inr (Or.inl ⟨rfl, rfl, rfl, qj⟩)) (show ¬ (1 : Int32) = 4 by decide) (Or.inl rfl) qi⟩))⟩
        · exact Or.inl (show 0 ≤ (mv_i S90 3 9).toInt by omega)
      clear eS96
      refine mv_goto (pc := 96) (tgt := 117) B d_Weaver_beginAssignment_96 rfl ?_
      exact mv_vret (pc := 117) B hr d_Weaver_beginAssignment_117 (Nat.le_refl _) (Nat.le_refl _) ⟨rfl, hend⟩
  have j32 : ∀ (υ : mv_H) (fl : Int32) (sy : Int32) (tk1 : Int32) (hR : Rw 48 (mv_r υ)) (hF : EF σ υ) (hN : mv_i υ 21 0 = 0 → mv_i σ 21 0 = 0) (t8 : (mv_i υ 3 8).toInt = (mv_i σ 3 8).toInt) (t9 : (mv_i υ 3 9).toInt < 0) (t7 : (mv_i υ 3 7).toInt = a + 1) (t6 : a + 1 < sz) (hsy : 0 ≤ sy.toInt ∧ sy.toInt < n) (b1 : 0 ≤ tk1.toInt ∧ tk1.toInt < sz) (k6 : mv_b υ 6 = mv_b σ 6) (kp : mv_a υ 4 = mv_a σ 4), mv_V p l e ({ frames := 3, cells := 0, slots := 0, locals := 63 }) s m ([.ref (al 2)] : List Value).toArray below meth c (mg dA D al ext) 4 0 0 (mv_Q (mg dA D al ext) below s 0 0 (mv_Rv (fun σ1 => TP 48 512 σ σ1 n sz a))) υ 32 [(2, .int sy), (1, .int tk1), (0, .ref (al 2))] [.int fl] := by
    intro υ fl sy tk1 hR hF hN t8 t9 t7 t6 hsy b1 k6 kp
    have hn16 := hG.2.2.1.1.2.1
    have hFυ := hF
    refine mv_istore_n (pc := 32) B d_Weaver_beginAssignment_32 rfl (by decide) rfl ?_
    refine mv_aload_n (pc := 33) B d_Weaver_beginAssignment_33 rfl 3 rfl ?_
    refine mv_aload_n (pc := 34) B d_Weaver_beginAssignment_34 rfl 3 rfl ?_
    refine mv_getR (pc := 35) (ci := 1) (C := R_Weaver) (T := F_Weaver) (N := 16) B 1 rfl rfl (by decide) i_Weaver (B.2.2.2.1 _ k_229) rfl (hR.1 _ 1 _ rfl) d_Weaver_beginAssignment_35 ?_
    refine mv_getR (pc := 38) (ci := 4) (C := R_Names) (T := F_Names) (N := 10) B 2 rfl rfl (by decide) i_Names (B.2.2.2.1 _ k_138) rfl (hR.1 _ 2 _ rfl) d_Weaver_beginAssignment_38 ?_
    refine mv_iload_n (pc := 41) B d_Weaver_beginAssignment_41 rfl 1 rfl ?_
    refine mv_iald (pc := 42) B rfl (i32_in (by omega) (by omega)) d_Weaver_beginAssignment_42 ?_
    refine mv_putI (pc := 43) (ci := 1) (C := R_Weaver) (T := F_Weaver) (N := 16) B 9 rfl rfl (by decide) i_Weaver t_Weaver_ok n_Weaver (B.2.2.2.1 _ k_239) rfl rfl rfl rfl d_Weaver_beginAssignment_43 ?_
    refine mv_gen (fun S46 eS46 => ?_)
    have hR : Rw 48 (mv_r S46) := by rw [eS46]; exact hR
    have hF : EF σ S46 := by rw [eS46]; exact hF.w (by omega) _
    have hN : mv_i S46 21 0 = 0 → mv_i σ 21 0 = 0 := by rw [eS46]; exact hN
    have t7 : (mv_i S46 3 7).toInt = a + 1 := by rw [eS46]; exact t7
    have t8 : (mv_i S46 3 8).toInt = (mv_i σ 3 8).toInt := by rw [eS46]; exact t8
    have t9 : (mv_i S46 3 9).toInt < 0 := by rw [eS46]; exact t9
    have kp : mv_a S46 4 = mv_a σ 4 := by rw [eS46]; exact kp
    have k6 : mv_b S46 6 = mv_b σ 6 := by rw [eS46]; exact k6
    have g9 : mv_i S46 2 9 = mv_a υ 15 sy.toNatClampNeg := by rw [eS46]; rfl
    have a14 : mv_a S46 14 = mv_a υ 14 := by rw [eS46]; rfl
    have nm := hW.1 sy.toNatClampNeg (by have := i32_cl (x := sy) (by omega); omega)
    have a14b : mv_a υ 14 = mv_a σ 14 := hFυ.2.1 14 (fun q => q)
    have a15b : mv_a υ 15 = mv_a σ 15 := hFυ.2.1 15 (fun q => q)
    rw [← a14b, ← a15b, ← a14, ← g9] at nm
    clear eS46
    refine mv_aload_n (pc := 46) B d_Weaver_beginAssignment_46 rfl 3 rfl ?_
    refine mv_getR (pc := 47) (ci := 1) (C := R_Weaver) (T := F_Weaver) (N := 16) B 1 rfl rfl (by decide) i_Weaver (B.2.2.2.1 _ k_229) rfl (hR.1 _ 1 _ rfl) d_Weaver_beginAssignment_47 ?_
    refine mv_iload_n (pc := 50) B d_Weaver_beginAssignment_50 rfl 1 rfl ?_
    refine mv_callVi (pc := 51) (n := 1) (ci := 4) (C := R_Names) B (mK_ok sk sv) hNs rfl rfl (c_Names_kindOf l hi _ _ hR.1 n z (hG.2.2.1.wt (hF.wt (P := 48)) hP ht2).1 (by omega) (by omega)) rfl (ma_goodc kc_Names_kindOf) (B.2.2.2.1 _ k_1316) (B.2.2.2.1 _ k_1317) (B.2.2.2.1 _ k_1318) (B.2.2.2.1 _ k_5) ⟨by decide +kernel, by decide +kernel, by decide +kernel⟩ rfl d_Weaver_beginAssignment_51 rfl (Nat.le_of_ble_eq_true rfl) ⟨by decide, by decide⟩ ⟨by decide, by decide⟩ ⟨by decide, by decide⟩ (mv_noH hno _) (fun v51 σ51 h51 => ?_)
    obtain ⟨e51, z51⟩ := h51
    have e51 := e51.symm
    subst e51
    refine mv_iload_n (pc := 54) B d_Weaver_beginAssignment_54 rfl 0 rfl ?_
    refine mv_if_eq (pc := 55) (tgt := 62) B d_Weaver_beginAssignment_55 rfl (fun h55 => ?_) (fun h55 => ?_)
    · skip
      refine mv_iconst (pc := 62) (v := 1) B d_Weaver_beginAssignment_62 (by decide) ?_
      refine mv_icmp_eq (pc := 63) (tgt := 77) B d_Weaver_beginAssignment_63 rfl (fun h63 => ?_) (fun h63 => ?_)
      · skip
        have nk : mv_a S46 14 sy.toNatClampNeg = 1 ∨ mv_a S46 14 sy.toNatClampNeg = 2 := by rcases z51 with q | q <;> rw [q] at h63 <;> first | exact absurd h63 (by decide) | exact Or.inl h63 | exact Or.inr h63
        have nk2 := nm.1 nk
        have go := j77 S46 fl hR hF t8 t9 t7 t6 (fun q => ⟨hN q, nk2.1⟩) (fun _ => nk2.2) k6 kp
        refine mv_lpick [0, 3] rfl ?_
        exact go
      · skip
        refine mv_aload_n (pc := 66) B d_Weaver_beginAssignment_66 rfl 3 rfl ?_
        refine mv_iload_n (pc := 67) B d_Weaver_beginAssignment_67 rfl 2 rfl ?_
        refine mv_iconst (pc := 68) (v := 2) B d_Weaver_beginAssignment_68 (by decide) ?_
        refine mv_callVv (pc := 69) (n := 2) (ci := 1) (C := R_Weaver) B (mK_ok sk sv) hNs rfl rfl (c_Weaver_tell l hi _ _ _ hR.1 b1.1 (by omega) (by decide)) rfl (ma_goodc kc_Weaver_tell) (B.2.2.2.1 _ k_1282) (B.2.2.2.1 _ k_1284) (B.2.2.2.1 _ ks_32) (B.2.2.2.1 _ k_2) ⟨by decide +kernel, by decide +kernel, by decide +kernel⟩ rfl d_Weaver_beginAssignment_69 rfl (Nat.le_of_ble_eq_true rfl) ⟨by decide, by decide⟩ ⟨by decide, by decide⟩ ⟨by decide, by decide⟩ (mv_noH hno _) (fun σ69 h69 => ?_)
        obtain ⟨x9, y9, q1, q2⟩ := h69
        subst q1
        have go := j77 (mv_si (ex_tell S46 x9 y9) 2 9 (-1)) fl hR ((hF.tell x9 y9).w (by omega) (-1)) t8 t9 t7 t6 (fun q => absurd (show x9 = 0 from q) q2) (fun q => absurd (show (0 : Int) ≤ -1 from q) (by omega)) k6 kp
        refine mv_aload_n (pc := 72) B d_Weaver_beginAssignment_72 rfl 3 rfl ?_
        refine mv_iconst (pc := 73) (v := -1) B d_Weaver_beginAssignment_73 (by decide) ?_
        refine mv_putI (pc := 74) (ci := 1) (C := R_Weaver) (T := F_Weaver) (N := 16) B 9 rfl rfl (by decide) i_Weaver t_Weaver_ok n_Weaver (B.2.2.2.1 _ k_239) rfl rfl rfl rfl d_Weaver_beginAssignment_74 ?_
        refine mv_lpick [0, 3] rfl ?_
        exact go
    · skip
      refine mv_iconst (pc := 58) (v := 2) B d_Weaver_beginAssignment_58 (by decide) ?_
      refine mv_goto (pc := 59) (tgt := 63) B d_Weaver_beginAssignment_59 rfl ?_
      refine mv_icmp_eq (pc := 63) (tgt := 77) B d_Weaver_beginAssignment_63 rfl (fun h63 => ?_) (fun h63 => ?_)
      · skip
        have nk : mv_a S46 14 sy.toNatClampNeg = 1 ∨ mv_a S46 14 sy.toNatClampNeg = 2 := by rcases z51 with q | q <;> rw [q] at h63 <;> first | exact absurd h63 (by decide) | exact Or.inl h63 | exact Or.inr h63
        have nk2 := nm.1 nk
        have go := j77 S46 fl hR hF t8 t9 t7 t6 (fun q => ⟨hN q, nk2.1⟩) (fun _ => nk2.2) k6 kp
        refine mv_lpick [0, 3] rfl ?_
        exact go
      · skip
        refine mv_aload_n (pc := 66) B d_Weaver_beginAssignment_66 rfl 3 rfl ?_
        refine mv_iload_n (pc := 67) B d_Weaver_beginAssignment_67 rfl 2 rfl ?_
        refine mv_iconst (pc := 68) (v := 2) B d_Weaver_beginAssignment_68 (by decide) ?_
        refine mv_callVv (pc := 69) (n := 2) (ci := 1) (C := R_Weaver) B (mK_ok sk sv) hNs rfl rfl (c_Weaver_tell l hi _ _ _ hR.1 b1.1 (by omega) (by decide)) rfl (ma_goodc kc_Weaver_tell) (B.2.2.2.1 _ k_1282) (B.2.2.2.1 _ k_1284) (B.2.2.2.1 _ ks_32) (B.2.2.2.1 _ k_2) ⟨by decide +kernel, by decide +kernel, by decide +kernel⟩ rfl d_Weaver_beginAssignment_69 rfl (Nat.le_of_ble_eq_true rfl) ⟨by decide, by decide⟩ ⟨by decide, by decide⟩ ⟨by decide, by decide⟩ (mv_noH hno _) (fun σ69 h69 => ?_)
        obtain ⟨x9, y9, q1, q2⟩ := h69
        subst q1
        have go := j77 (mv_si (ex_tell S46 x9 y9) 2 9 (-1)) fl hR ((hF.tell x9 y9).w (by omega) (-1)) t8 t9 t7 t6 (fun q => absurd (show x9 = 0 from q) q2) (fun q => absurd (show (0 : Int) ≤ -1 from q) (by omega)) k6 kp
        refine mv_aload_n (pc := 72) B d_Weaver_beginAssignment_72 rfl 3 rfl ?_
        refine mv_iconst (pc := 73) (v := -1) B d_Weaver_beginAssignment_73 (by decide) ?_
        refine mv_putI (pc := 74) (ci := 1) (C := R_Weaver) (T := F_Weaver) (N := 16) B 9 rfl rfl (by decide) i_Weaver t_Weaver_ok n_Weaver (B.2.2.2.1 _ k_239) rfl rfl rfl rfl d_Weaver_beginAssignment_74 ?_
        refine mv_lpick [0, 3] rfl ?_
        exact go
  refine mv_aload_n (pc := 0) B d_Weaver_beginAssignment_0 rfl 0 rfl ?_
  refine mv_getR (pc := 1) (ci := 1) (C := R_Weaver) (T := F_Weaver) (N := 16) B 0 rfl rfl (by decide) i_Weaver (B.2.2.2.1 _ k_228) rfl (hR.1 _ 0 _ rfl) d_Weaver_beginAssignment_1 ?_
  refine mv_iconst (pc := 4) (v := 3) B d_Weaver_beginAssignment_4 (by decide) ?_
  refine mv_callVi (pc := 5) (n := 1) (ci := 2) (C := R_Tokens) B (mK_ok sk sv) hNs rfl rfl (c_Tokens_takeN l hi _ _ hR.1 (hG.2.2.1.wt (hF.wt (P := 48)) hP ht2) (by omega) (by omega) (by decide)) rfl (ma_goodc kc_Tokens_take) (B.2.2.2.1 _ k_1266) (B.2.2.2.1 _ k_1267) (B.2.2.2.1 _ k_1268) (B.2.2.2.1 _ k_3) ⟨by decide +kernel, by decide +kernel, by decide +kernel⟩ rfl d_Weaver_beginAssignment_5 rfl (Nat.le_of_ble_eq_true rfl) ⟨by decide, by decide⟩ ⟨by decide, by decide⟩ ⟨by decide, by decide⟩ (mv_noH hno _) (fun v5 σ5 h5 => ?_)
  have kz := k6
  obtain ⟨a5, w5, e5, r5⟩ := h5
  have q5 := r5.1
  have z5 := fun q => (r5.2.1 q).1
  have y5 := And.intro r5.2.2.2.1 r5.2.2.2.2.1
  subst e5
  have hw5 := r5.2.2.1 hw9 hk3 trivial
  have sy5 := TkR.sym (hG.2.2.1.wt (hF.wt (P := 48)) hP ht2) r5
  refine mv_gen (fun S8 eS8 => ?_)
  have hR : Rw 48 (mv_r S8) := by rw [eS8]; exact hR
  have hF : EF σ S8 := by rw [eS8]; exact hF.tk3 _ _ _
  have hN : mv_i S8 21 0 = 0 → mv_i σ 21 0 = 0 := by rw [eS8]; exact hN
  have t7 : (mv_i S8 3 7).toInt = a5.toInt := by rw [eS8]; rfl
  have t8 : (mv_i S8 3 8).toInt = (mv_i σ 3 8).toInt := by rw [eS8]; first | exact t8 | exact (sub_one (by omega)).trans (by omega) | exact (i32_inc (by omega)).trans (by omega)
  have t9 : (mv_i S8 3 9).toInt = w5.toInt := by rw [eS8]; rfl
  have kp := Eq.trans (show mv_a S8 4 = mv_a _ 4 by rw [eS8]; rfl) kp
  have k6 := Eq.trans (show mv_b S8 6 = mv_b _ 6 by rw [eS8]; rfl) k6
  have hn16 := hG.2.2.1.1.2.1
  clear eS8
  refine mv_istore_n (pc := 8) B d_Weaver_beginAssignment_8 rfl (by decide) rfl ?_
  refine mv_aload_n (pc := 9) B d_Weaver_beginAssignment_9 rfl 1 rfl ?_
  refine mv_iload_n (pc := 10) B d_Weaver_beginAssignment_10 rfl 0 rfl ?_
  refine mv_callVi (pc := 11) (n := 1) (ci := 1) (C := R_Weaver) B (mK_ok sk sv) hNs rfl rfl (c_Weaver_symbolOf l hi _ _ hR.1 y5.1 (by omega)) rfl (ma_goodc kc_Weaver_symbolOf) (B.2.2.2.1 _ k_1312) (B.2.2.2.1 _ k_1314) (B.2.2.2.1 _ ks_37) (B.2.2.2.1 _ k_2) ⟨by decide +kernel, by decide +kernel, by decide +kernel⟩ rfl d_Weaver_beginAssignment_11 rfl (Nat.le_of_ble_eq_true rfl) ⟨by decide, by decide⟩ ⟨by decide, by decide⟩ ⟨by decide, by decide⟩ (mv_noH hno _) (fun v11 σ11 h11 => ?_)
  obtain ⟨e11, z11⟩ := h11
  have e11 := e11.symm
  subst e11
  have hsy : 0 ≤ v11.toInt ∧ v11.toInt < n := by rw [z11, k6, l2i_nn sy5.1 (by omega)]; exact sy5
  refine mv_istore_n (pc := 14) B d_Weaver_beginAssignment_14 rfl (by decide) rfl ?_
  refine mv_aload_n (pc := 15) B d_Weaver_beginAssignment_15 rfl 2 rfl ?_
  refine mv_getR (pc := 16) (ci := 1) (C := R_Weaver) (T := F_Weaver) (N := 16) B 0 rfl rfl (by decide) i_Weaver (B.2.2.2.1 _ k_228) rfl (hR.1 _ 0 _ rfl) d_Weaver_beginAssignment_16 ?_
  refine mv_callVi (pc := 19) (n := 0) (ci := 2) (C := R_Tokens) B (mK_ok sk sv) hNs rfl rfl (c_Tokens_kind l hi _ hR.1 (i32_in (by omega) (by omega))) rfl (ma_goodc kc_Tokens_kind) (B.2.2.2.1 _ k_1299) (B.2.2.2.1 _ k_1271) (B.2.2.2.1 _ k_1272) (B.2.2.2.1 _ k_3) ⟨by decide +kernel, by decide +kernel, by decide +kernel⟩ rfl d_Weaver_beginAssignment_19 rfl (Nat.le_of_ble_eq_true rfl) ⟨by decide, by decide⟩ ⟨by decide, by decide⟩ ⟨by decide, by decide⟩ (mv_noH hno _) (fun v19 σ19 h19 => ?_)
  obtain ⟨e19, -⟩ := h19
  have e19 := e19.symm
  subst e19
  refine mv_bipush (pc := 22) (v := 91) B d_Weaver_beginAssignment_22 (by decide) ?_
  refine mv_icmp_ne (pc := 24) (tgt := 31) B d_Weaver_beginAssignment_24 rfl (fun h24 => ?_) (fun h24 => ?_)
  · skip
    refine mv_iconst (pc := 31) (v := 0) B d_Weaver_beginAssignment_31 (by decide) ?_
    refine mv_lpick [0, 1, 2] rfl ?_
    exact j32 _ _ _ _ hR hF hN t8 (by omega) (by omega) (by omega) hsy y5 k6 kp
  · skip
    refine mv_iconst (pc := 27) (v := 1) B d_Weaver_beginAssignment_27 (by decide) ?_
    refine mv_goto (pc := 28) (tgt := 32) B d_Weaver_beginAssignment_28 rfl ?_
    refine mv_lpick [0, 1, 2] rfl ?_
    exact j32 _ _ _ _ hR hF hN t8 (by omega) (by omega) (by omega) hsy y5 k6 kp
set_option maxHeartbeats 4000000 in
set_option maxRecDepth 100000 in
theorem c_Weaver_beginAssignment_c (l : Launch) {dA : FieldType → ClassId} {D : va_G} {al : Nat → Nat} {sk sv : Nat → Nat} (hi : mv_inj (mg dA D al me)) (σ : mv_H) {t tn len n z sz th sl s0 a ns no : Nat} (hG : WG 145 8192 48 me σ t tn len n z sz) (hM : Mt (mv_a σ 24)) (hW : WN 145 48 σ n th sl no) {bl : List Bk} (hS : WS 145 σ sz th s0 a ns no bl) (hne : ¬ bl = []) (hk3 : mv_a σ 4 (mv_i σ 3 7).toNatClampNeg = 3) : mv_C l y_Weaver_beginAssignment (Cond.code y_Weaver_beginAssignment b_Weaver_beginAssignment 4 (Option.none : Option Jvm.ClassFile.FieldType) :: ma) ({ frames := 3, cells := 0, slots := 0, locals := 63 }) (mg dA D al me) (mK sk sv) [.ref (al 2)] σ (mv_Rv (fun σ1 => TP 145 48 σ σ1 n sz a)) := by
  refine mv_C.ofV (cc := b_Weaver_beginAssignment) (nL := 4) (ret := (Option.none : Option Jvm.ClassFile.FieldType)) (by decide +kernel) rfl hi (Nat.le_of_ble_eq_true rfl) ?_
  intro p e s m below meth c B hNs hr hnm hno
  have hP : PQ 145 := by unfold PQ; omega
  have hR := hG.1
  have ht2 := hG.2.1.2.2.2.2.2.2
  have hF : EF σ σ := Fr.rf
  have hN : mv_i σ 21 0 = 0 → mv_i σ 21 0 = 0 := fun q => q
  have hE := hG.2.2.1
  have hsz := hE.2.2.2.2.2
  have hsz2 := hE.2.2.2.1
  have hlen := hG.2.2.2.2.1
  have hlen2 := hG.2.2.2.2.2
  have t7 := hS.1.1
  have hw9 := hS.1.2.1
  have ha9 := hS.1.2.2.2.2.1
  have t9 : (mv_i σ 3 9).toInt = (mv_i σ 3 9).toInt := rfl
  have t8 : (mv_i σ 3 8).toInt = (mv_i σ 3 8).toInt := rfl
  have kp : mv_a σ 4 = mv_a σ 4 := rfl
  have k6 : mv_b σ 6 = mv_b σ 6 := rfl
  have hs5 := hS.1.2.2.2.2.2.1
  have hs6 := hS.1.2.2.2.2.2.2.1
  have hd8 := hS.1.2.2.1
  have hd9 := hS.1.2.2.2.1
  have j77 : ∀ (υ : mv_H) (fl : Int32) (hR : Rw 145 (mv_r υ)) (hF : EF σ υ) (t8 : (mv_i υ 3 8).toInt = (mv_i σ 3 8).toInt) (t9 : (mv_i υ 3 9).toInt < 0) (t7 : (mv_i υ 3 7).toInt = a + 1) (t6 : a + 1 < sz) (qi : mv_i υ 21 0 = 0 → mv_i σ 21 0 = 0 ∧ 0 ≤ (mv_i υ 2 9).toInt) (qj : 0 ≤ (mv_i υ 2 9).toInt → (mv_i υ 2 9).toInt < th) (k6 : mv_b υ 6 = mv_b σ 6) (kp : mv_a υ 4 = mv_a σ 4), mv_V p l e ({ frames := 3, cells := 0, slots := 0, locals := 63 }) s m ([.ref (al 2)] : List Value).toArray below meth c (mg dA D al me) 4 0 0 (mv_Q (mg dA D al me) below s 0 0 (mv_Rv (fun σ1 => TP 145 48 σ σ1 n sz a))) υ 77 [(3, .int fl), (0, .ref (al 2))] [] := by
    intro υ fl hR hF t8 t9 t7 t6 qi qj k6 kp
    have hN : mv_i υ 21 0 = 0 → mv_i σ 21 0 = 0 := fun q => (qi q).1
    refine mv_iload_n (pc := 77) B d_Weaver_beginAssignment_77 rfl 0 rfl ?_
    refine mv_if_eq (pc := 78) (tgt := 99) B d_Weaver_beginAssignment_78 rfl (fun h78 => ?_) (fun h78 => ?_)
    · skip
      refine mv_aload_n (pc := 99) B d_Weaver_beginAssignment_99 rfl 1 rfl ?_
      refine mv_aload_n (pc := 100) B d_Weaver_beginAssignment_100 rfl 1 rfl ?_
      refine mv_getR (pc := 101) (ci := 1) (C := R_Weaver) (T := F_Weaver) (N := 16) B 0 rfl rfl (by decide) i_Weaver (B.2.2.2.1 _ k_228) rfl (hR.1 _ 0 _ rfl) d_Weaver_beginAssignment_101 ?_
      refine mv_bipush (pc := 104) (v := 61) B d_Weaver_beginAssignment_104 (by decide) ?_
      refine mv_callVi (pc := 106) (n := 1) (ci := 2) (C := R_Tokens) B (mK_ok sk sv) hNs rfl rfl (c_Tokens_takeN l hi _ _ hR.1 (hG.2.2.1.wt (hF.wt (P := 145)) hP ht2) (by omega) (by omega) (by decide)) rfl (ma_goodc kc_Tokens_take) (B.2.2.2.1 _ k_1266) (B.2.2.2.1 _ k_1267) (B.2.2.2.1 _ k_1268) (B.2.2.2.1 _ k_3) ⟨by decide +kernel, by decide +kernel, by decide +kernel⟩ rfl d_Weaver_beginAssignment_106 rfl (Nat.le_of_ble_eq_true rfl) ⟨by decide, by decide⟩ ⟨by decide, by decide⟩ ⟨by decide, by decide⟩ (mv_noH hno _) (fun v106 σ106 h106 => ?_)
      obtain ⟨a106, w106, e106, r106⟩ := h106
      have q106 := r106.1
      have z106 := fun q => (r106.2.1 q).1
      have y106 := And.intro r106.2.2.2.1 r106.2.2.2.2.1
      subst e106
      refine mv_gen (fun S109 eS109 => ?_)
      have hR : Rw 145 (mv_r S109) := by rw [eS109]; exact hR
      have hF : EF σ S109 := by rw [eS109]; exact hF.tk3 _ _ _
      have hN : mv_i S109 21 0 = 0 → mv_i σ 21 0 = 0 := by rw [eS109]; exact hN
      have t7 : (mv_i S109 3 7).toInt = a106.toInt := by rw [eS109]; rfl
      have t8 : (mv_i S109 3 8).toInt = (mv_i σ 3 8).toInt := by rw [eS109]; first | exact t8 | exact (sub_one (by omega)).trans (by omega) | exact (i32_inc (by omega)).trans (by omega)
      have t9 : (mv_i S109 3 9).toInt = w106.toInt := by rw [eS109]; rfl
      have kp := Eq.trans (show mv_a S109 4 = mv_a _ 4 by rw [eS109]; rfl) kp
      have k6 := Eq.trans (show mv_b S109 6 = mv_b _ 6 by rw [eS109]; rfl) k6
      have qi : mv_i S109 21 0 = 0 → mv_i σ 21 0 = 0 ∧ 0 ≤ (mv_i S109 2 9).toInt := by rw [eS109]; exact qi
      have qj : 0 ≤ (mv_i S109 2 9).toInt → (mv_i S109 2 9).toInt < th := by rw [eS109]; exact qj
      clear eS109
      refine mv_putI (pc := 109) (ci := 1) (C := R_Weaver) (T := F_Weaver) (N := 16) B 8 rfl rfl (by decide) i_Weaver t_Weaver_ok n_Weaver (B.2.2.2.1 _ k_238) rfl rfl rfl rfl d_Weaver_beginAssignment_109 ?_
      refine mv_gen (fun S112 eS112 => ?_)
      have hR : Rw 145 (mv_r S112) := by rw [eS112]; exact hR
      have hF : EF σ S112 := by rw [eS112]; exact hF.w (by omega) _
      have u7 : (mv_i S112 3 7).toInt = (mv_i S109 3 7).toInt := by rw [eS112]; rfl
      have u8 : (mv_i S112 3 8).toInt = (mv_i S109 3 8).toInt := by rw [eS112]; rfl
      have u9 : (mv_i S112 3 9).toInt = (mv_i S109 3 9).toInt := by rw [eS112]; rfl
      have hgt : 0 ≤ (mv_i S112 2 8).toInt ∧ (mv_i S112 2 8).toInt < 32770 := by rw [eS112]; exact ⟨y106.1, by show v106.toInt < 32770; omega⟩
      have qi : mv_i S112 21 0 = 0 → mv_i σ 21 0 = 0 ∧ 0 ≤ (mv_i S112 2 9).toInt := by rw [eS112]; exact qi
      have qj : 0 ≤ (mv_i S112 2 9).toInt → (mv_i S112 2 9).toInt < th := by rw [eS112]; exact qj
      clear eS112
      refine mv_aload_n (pc := 112) B d_Weaver_beginAssignment_112 rfl 1 rfl ?_
      refine mv_iconst (pc := 113) (v := 2) B d_Weaver_beginAssignment_113 (by decide) ?_
      refine mv_callVv (pc := 114) (n := 1) (ci := 1) (C := R_Weaver) B (mK_ok sk sv) hNs rfl rfl (c_Weaver_beginExpr l hi _ _ hR.1) rfl (ma_goodc kc_Weaver_beginExpr) (B.2.2.2.1 _ k_1371) (B.2.2.2.1 _ k_1373) (B.2.2.2.1 _ ks_44) (B.2.2.2.1 _ k_2) ⟨by decide +kernel, by decide +kernel, by decide +kernel⟩ rfl d_Weaver_beginAssignment_114 rfl (Nat.le_of_ble_eq_true rfl) ⟨by decide, by decide⟩ ⟨by decide, by decide⟩ ⟨by decide, by decide⟩ (mv_noH hno _) (fun σ114 h114 => ?_)
      subst h114
      refine mv_gen (fun S117 eS117 => ?_)
      have hend : TP 145 48 σ S117 n sz a := by
        rw [eS117]
        have g := hF.wx 2
        refine ⟨g.wt, Eq.mpr (congrArg Mt (g.2.1 24 (fun q => q))) hM, th, sl, no, hW.of hP g.of, ?_⟩
        by_cases q : (mv_i S112 3 9).toInt < 0
        · exact Or.inr ⟨a + 2, by omega, Or.inr (Or.inr (Or.inl ⟨rfl, WE.of (bd := bl.length) hP hS g hne hM (show (mv_i S112 3 7).toInt = _ by omega) q (show (bl.length : Int) ≤ (mv_i S112 3 8).toInt by omega) (show (mv_i S112 3 8).toInt ≤ 60 by omega) (by omega) (by omega) (fun _ => by omega) rfl rfl (Or.inr (Or.inr (Or.inl ⟨rfl, rfl, rfl, qj⟩))) (show ¬ (2 : Int32) = 4 by decide) (Or.inr hgt) qi⟩))⟩
        · exact Or.inl (show 0 ≤ (mv_i S112 3 9).toInt by omega)
      clear eS117
      exact mv_vret (pc := 117) B hr d_Weaver_beginAssignment_117 (Nat.le_refl _) (Nat.le_refl _) ⟨rfl, hend⟩
    · skip
      refine mv_aload_n (pc := 81) B d_Weaver_beginAssignment_81 rfl 1 rfl ?_
      refine mv_getR (pc := 82) (ci := 1) (C := R_Weaver) (T := F_Weaver) (N := 16) B 0 rfl rfl (by decide) i_Weaver (B.2.2.2.1 _ k_228) rfl (hR.1 _ 0 _ rfl) d_Weaver_beginAssignment_82 ?_
      refine mv_bipush (pc := 85) (v := 91) B d_Weaver_beginAssignment_85 (by decide) ?_
      refine mv_callVi (pc := 87) (n := 1) (ci := 2) (C := R_Tokens) B (mK_ok sk sv) hNs rfl rfl (c_Tokens_openN l hi _ _ hR.1 (hG.2.2.1.wt (hF.wt (P := 145)) hP ht2) (by omega) (by omega) (by decide)) rfl (ma_goodc kc_Tokens_open) (B.2.2.2.1 _ k_1349) (B.2.2.2.1 _ k_1350) (B.2.2.2.1 _ k_1351) (B.2.2.2.1 _ k_3) ⟨by decide +kernel, by decide +kernel, by decide +kernel⟩ rfl d_Weaver_beginAssignment_87 rfl (Nat.le_of_ble_eq_true rfl) ⟨by decide, by decide⟩ ⟨by decide, by decide⟩ ⟨by decide, by decide⟩ (mv_noH hno _) (fun v87 σ87 h87 => ?_)
      obtain ⟨a87, w87, e87, r87⟩ := h87
      have q87 := r87.1
      have z87 := fun q => (r87.2.1 q).1
      have y87 := And.intro r87.2.2.2.1 r87.2.2.2.2.1
      subst e87
      refine mv_gen (fun S90 eS90 => ?_)
      have hR : Rw 145 (mv_r S90) := by rw [eS90]; exact hR
      have hF : EF σ S90 := by rw [eS90]; exact hF.tk3 _ _ _
      have hN : mv_i S90 21 0 = 0 → mv_i σ 21 0 = 0 := by rw [eS90]; exact hN
      have t7 : (mv_i S90 3 7).toInt = a87.toInt := by rw [eS90]; rfl
      have t8 : (mv_i S90 3 8).toInt = (mv_i σ 3 8).toInt + 1 := by rw [eS90]; first | exact t8 | exact (sub_one (by omega)).trans (by omega) | exact (i32_inc (by omega)).trans (by omega)
      have t9 : (mv_i S90 3 9).toInt = w87.toInt := by rw [eS90]; rfl
      have kp := Eq.trans (show mv_a S90 4 = mv_a _ 4 by rw [eS90]; rfl) kp
      have k6 := Eq.trans (show mv_b S90 6 = mv_b _ 6 by rw [eS90]; rfl) k6
      have qi : mv_i S90 21 0 = 0 → mv_i σ 21 0 = 0 ∧ 0 ≤ (mv_i S90 2 9).toInt := by rw [eS90]; exact qi
      have qj : 0 ≤ (mv_i S90 2 9).toInt → (mv_i S90 2 9).toInt < th := by rw [eS90]; exact qj
      clear eS90
      refine mv_pop (pc := 90) B d_Weaver_beginAssignment_90 rfl ?_
      refine mv_aload_n (pc := 91) B d_Weaver_beginAssignment_91 rfl 1 rfl ?_
      refine mv_iconst (pc := 92) (v := 1) B d_Weaver_beginAssignment_92 (by decide) ?_
      refine mv_callVv (pc := 93) (n := 1) (ci := 1) (C := R_Weaver) B (mK_ok sk sv) hNs rfl rfl (c_Weaver_beginExpr l hi _ _ hR.1) rfl (ma_goodc kc_Weaver_beginExpr) (B.2.2.2.1 _ k_1371) (B.2.2.2.1 _ k_1373) (B.2.2.2.1 _ ks_44) (B.2.2.2.1 _ k_2) ⟨by decide +kernel, by decide +kernel, by decide +kernel⟩ rfl d_Weaver_beginAssignment_93 rfl (Nat.le_of_ble_eq_true rfl) ⟨by decide, by decide⟩ ⟨by decide, by decide⟩ ⟨by decide, by decide⟩ (mv_noH hno _) (fun σ93 h93 => ?_)
      subst h93
      refine mv_gen (fun S96 eS96 => ?_)
      have hend : TP 145 48 σ S96 n sz a := by
        rw [eS96]
        have g := hF.wx 1
        refine ⟨g.wt, Eq.mpr (congrArg Mt (g.2.1 24 (fun q => q))) hM, th, sl, no, hW.of hP g.of, ?_⟩
        by_cases q : (mv_i S90 3 9).toInt < 0
        · have hd := (r87.2.1 (by omega)).2.2.1
          have hd : ¬ (mv_i υ 3 8).toInt = 60 := fun q => hd (Int32.toInt_inj.mp q)
          exact Or.inr ⟨a + 2, by omega, Or.inr (Or.inr (Or.inl ⟨rfl, WE.of (bd := bl.length + 1) hP hS g hne hM (show (mv_i S90 3 7).toInt = _ by omega) q (show ((bl.length + 1 : Nat) : Int) ≤ (mv_i S90 3 8).toInt by omega) (show (mv_i S90 3 8).toInt ≤ 60 by omega) (by omega) (by omega) (fun _ => by omega) rfl rfl (Or.inr (Or.inl ⟨rfl, rfl, rfl, qj⟩)) (show ¬ (1 : Int32) = 4 by decide) (Or.inl rfl) qi⟩))⟩
        · exact Or.inl (show 0 ≤ (mv_i S90 3 9).toInt by omega)
      clear eS96
      refine mv_goto (pc := 96) (tgt := 117) B d_Weaver_beginAssignment_96 rfl ?_
      exact mv_vret (pc := 117) B hr d_Weaver_beginAssignment_117 (Nat.le_refl _) (Nat.le_refl _) ⟨rfl, hend⟩
  have j32 : ∀ (υ : mv_H) (fl : Int32) (sy : Int32) (tk1 : Int32) (hR : Rw 145 (mv_r υ)) (hF : EF σ υ) (hN : mv_i υ 21 0 = 0 → mv_i σ 21 0 = 0) (t8 : (mv_i υ 3 8).toInt = (mv_i σ 3 8).toInt) (t9 : (mv_i υ 3 9).toInt < 0) (t7 : (mv_i υ 3 7).toInt = a + 1) (t6 : a + 1 < sz) (hsy : 0 ≤ sy.toInt ∧ sy.toInt < n) (b1 : 0 ≤ tk1.toInt ∧ tk1.toInt < sz) (k6 : mv_b υ 6 = mv_b σ 6) (kp : mv_a υ 4 = mv_a σ 4), mv_V p l e ({ frames := 3, cells := 0, slots := 0, locals := 63 }) s m ([.ref (al 2)] : List Value).toArray below meth c (mg dA D al me) 4 0 0 (mv_Q (mg dA D al me) below s 0 0 (mv_Rv (fun σ1 => TP 145 48 σ σ1 n sz a))) υ 32 [(2, .int sy), (1, .int tk1), (0, .ref (al 2))] [.int fl] := by
    intro υ fl sy tk1 hR hF hN t8 t9 t7 t6 hsy b1 k6 kp
    have hn16 := hG.2.2.1.1.2.1
    have hFυ := hF
    refine mv_istore_n (pc := 32) B d_Weaver_beginAssignment_32 rfl (by decide) rfl ?_
    refine mv_aload_n (pc := 33) B d_Weaver_beginAssignment_33 rfl 3 rfl ?_
    refine mv_aload_n (pc := 34) B d_Weaver_beginAssignment_34 rfl 3 rfl ?_
    refine mv_getR (pc := 35) (ci := 1) (C := R_Weaver) (T := F_Weaver) (N := 16) B 1 rfl rfl (by decide) i_Weaver (B.2.2.2.1 _ k_229) rfl (hR.1 _ 1 _ rfl) d_Weaver_beginAssignment_35 ?_
    refine mv_getR (pc := 38) (ci := 4) (C := R_Names) (T := F_Names) (N := 10) B 2 rfl rfl (by decide) i_Names (B.2.2.2.1 _ k_138) rfl (hR.1 _ 2 _ rfl) d_Weaver_beginAssignment_38 ?_
    refine mv_iload_n (pc := 41) B d_Weaver_beginAssignment_41 rfl 1 rfl ?_
    refine mv_iald (pc := 42) B rfl (i32_in (by omega) (by omega)) d_Weaver_beginAssignment_42 ?_
    refine mv_putI (pc := 43) (ci := 1) (C := R_Weaver) (T := F_Weaver) (N := 16) B 9 rfl rfl (by decide) i_Weaver t_Weaver_ok n_Weaver (B.2.2.2.1 _ k_239) rfl rfl rfl rfl d_Weaver_beginAssignment_43 ?_
    refine mv_gen (fun S46 eS46 => ?_)
    have hR : Rw 145 (mv_r S46) := by rw [eS46]; exact hR
    have hF : EF σ S46 := by rw [eS46]; exact hF.w (by omega) _
    have hN : mv_i S46 21 0 = 0 → mv_i σ 21 0 = 0 := by rw [eS46]; exact hN
    have t7 : (mv_i S46 3 7).toInt = a + 1 := by rw [eS46]; exact t7
    have t8 : (mv_i S46 3 8).toInt = (mv_i σ 3 8).toInt := by rw [eS46]; exact t8
    have t9 : (mv_i S46 3 9).toInt < 0 := by rw [eS46]; exact t9
    have kp : mv_a S46 4 = mv_a σ 4 := by rw [eS46]; exact kp
    have k6 : mv_b S46 6 = mv_b σ 6 := by rw [eS46]; exact k6
    have g9 : mv_i S46 2 9 = mv_a υ 15 sy.toNatClampNeg := by rw [eS46]; rfl
    have a14 : mv_a S46 14 = mv_a υ 14 := by rw [eS46]; rfl
    have nm := hW.1 sy.toNatClampNeg (by have := i32_cl (x := sy) (by omega); omega)
    have a14b : mv_a υ 14 = mv_a σ 14 := hFυ.2.1 14 (fun q => q)
    have a15b : mv_a υ 15 = mv_a σ 15 := hFυ.2.1 15 (fun q => q)
    rw [← a14b, ← a15b, ← a14, ← g9] at nm
    clear eS46
    refine mv_aload_n (pc := 46) B d_Weaver_beginAssignment_46 rfl 3 rfl ?_
    refine mv_getR (pc := 47) (ci := 1) (C := R_Weaver) (T := F_Weaver) (N := 16) B 1 rfl rfl (by decide) i_Weaver (B.2.2.2.1 _ k_229) rfl (hR.1 _ 1 _ rfl) d_Weaver_beginAssignment_47 ?_
    refine mv_iload_n (pc := 50) B d_Weaver_beginAssignment_50 rfl 1 rfl ?_
    refine mv_callVi (pc := 51) (n := 1) (ci := 4) (C := R_Names) B (mK_ok sk sv) hNs rfl rfl (c_Names_kindOf l hi _ _ hR.1 n z (hG.2.2.1.wt (hF.wt (P := 145)) hP ht2).1 (by omega) (by omega)) rfl (ma_goodc kc_Names_kindOf) (B.2.2.2.1 _ k_1316) (B.2.2.2.1 _ k_1317) (B.2.2.2.1 _ k_1318) (B.2.2.2.1 _ k_5) ⟨by decide +kernel, by decide +kernel, by decide +kernel⟩ rfl d_Weaver_beginAssignment_51 rfl (Nat.le_of_ble_eq_true rfl) ⟨by decide, by decide⟩ ⟨by decide, by decide⟩ ⟨by decide, by decide⟩ (mv_noH hno _) (fun v51 σ51 h51 => ?_)
    obtain ⟨e51, z51⟩ := h51
    have e51 := e51.symm
    subst e51
    refine mv_iload_n (pc := 54) B d_Weaver_beginAssignment_54 rfl 0 rfl ?_
    refine mv_if_eq (pc := 55) (tgt := 62) B d_Weaver_beginAssignment_55 rfl (fun h55 => ?_) (fun h55 => ?_)
    · skip
      refine mv_iconst (pc := 62) (v := 1) B d_Weaver_beginAssignment_62 (by decide) ?_
      refine mv_icmp_eq (pc := 63) (tgt := 77) B d_Weaver_beginAssignment_63 rfl (fun h63 => ?_) (fun h63 => ?_)
      · skip
        have nk : mv_a S46 14 sy.toNatClampNeg = 1 ∨ mv_a S46 14 sy.toNatClampNeg = 2 := by rcases z51 with q | q <;> rw [q] at h63 <;> first | exact absurd h63 (by decide) | exact Or.inl h63 | exact Or.inr h63
        have nk2 := nm.1 nk
        have go := j77 S46 fl hR hF t8 t9 t7 t6 (fun q => ⟨hN q, nk2.1⟩) (fun _ => nk2.2) k6 kp
        refine mv_lpick [0, 3] rfl ?_
        exact go
      · skip
        refine mv_aload_n (pc := 66) B d_Weaver_beginAssignment_66 rfl 3 rfl ?_
        refine mv_iload_n (pc := 67) B d_Weaver_beginAssignment_67 rfl 2 rfl ?_
        refine mv_iconst (pc := 68) (v := 2) B d_Weaver_beginAssignment_68 (by decide) ?_
        refine mv_callVv (pc := 69) (n := 2) (ci := 1) (C := R_Weaver) B (mK_ok sk sv) hNs rfl rfl (c_Weaver_tell l hi _ _ _ hR.1 b1.1 (by omega) (by decide)) rfl (ma_goodc kc_Weaver_tell) (B.2.2.2.1 _ k_1282) (B.2.2.2.1 _ k_1284) (B.2.2.2.1 _ ks_32) (B.2.2.2.1 _ k_2) ⟨by decide +kernel, by decide +kernel, by decide +kernel⟩ rfl d_Weaver_beginAssignment_69 rfl (Nat.le_of_ble_eq_true rfl) ⟨by decide, by decide⟩ ⟨by decide, by decide⟩ ⟨by decide, by decide⟩ (mv_noH hno _) (fun σ69 h69 => ?_)
        obtain ⟨x9, y9, q1, q2⟩ := h69
        subst q1
        have go := j77 (mv_si (ex_tell S46 x9 y9) 2 9 (-1)) fl hR ((hF.tell x9 y9).w (by omega) (-1)) t8 t9 t7 t6 (fun q => absurd (show x9 = 0 from q) q2) (fun q => absurd (show (0 : Int) ≤ -1 from q) (by omega)) k6 kp
        refine mv_aload_n (pc := 72) B d_Weaver_beginAssignment_72 rfl 3 rfl ?_
        refine mv_iconst (pc := 73) (v := -1) B d_Weaver_beginAssignment_73 (by decide) ?_
        refine mv_putI (pc := 74) (ci := 1) (C := R_Weaver) (T := F_Weaver) (N := 16) B 9 rfl rfl (by decide) i_Weaver t_Weaver_ok n_Weaver (B.2.2.2.1 _ k_239) rfl rfl rfl rfl d_Weaver_beginAssignment_74 ?_
        refine mv_lpick [0, 3] rfl ?_
        exact go
    · skip
      refine mv_iconst (pc := 58) (v := 2) B d_Weaver_beginAssignment_58 (by decide) ?_
      refine mv_goto (pc := 59) (tgt := 63) B d_Weaver_beginAssignment_59 rfl ?_
      refine mv_icmp_eq (pc := 63) (tgt := 77) B d_Weaver_beginAssignment_63 rfl (fun h63 => ?_) (fun h63 => ?_)
      · skip
        have nk : mv_a S46 14 sy.toNatClampNeg = 1 ∨ mv_a S46 14 sy.toNatClampNeg = 2 := by rcases z51 with q | q <;> rw [q] at h63 <;> first | exact absurd h63 (by decide) | exact Or.inl h63 | exact Or.inr h63
        have nk2 := nm.1 nk
        have go := j77 S46 fl hR hF t8 t9 t7 t6 (fun q => ⟨hN q, nk2.1⟩) (fun _ => nk2.2) k6 kp
        refine mv_lpick [0, 3] rfl ?_
        exact go
      · skip
        refine mv_aload_n (pc := 66) B d_Weaver_beginAssignment_66 rfl 3 rfl ?_
        refine mv_iload_n (pc := 67) B d_Weaver_beginAssignment_67 rfl 2 rfl ?_
        refine mv_iconst (pc := 68) (v := 2) B d_Weaver_beginAssignment_68 (by decide) ?_
        refine mv_callVv (pc := 69) (n := 2) (ci := 1) (C := R_Weaver) B (mK_ok sk sv) hNs rfl rfl (c_Weaver_tell l hi _ _ _ hR.1 b1.1 (by omega) (by decide)) rfl (ma_goodc kc_Weaver_tell) (B.2.2.2.1 _ k_1282) (B.2.2.2.1 _ k_1284) (B.2.2.2.1 _ ks_32) (B.2.2.2.1 _ k_2) ⟨by decide +kernel, by decide +kernel, by decide +kernel⟩ rfl d_Weaver_beginAssignment_69 rfl (Nat.le_of_ble_eq_true rfl) ⟨by decide, by decide⟩ ⟨by decide, by decide⟩ ⟨by decide, by decide⟩ (mv_noH hno _) (fun σ69 h69 => ?_)
        obtain ⟨x9, y9, q1, q2⟩ := h69
        subst q1
        have go := j77 (mv_si (ex_tell S46 x9 y9) 2 9 (-1)) fl hR ((hF.tell x9 y9).w (by omega) (-1)) t8 t9 t7 t6 (fun q => absurd (show x9 = 0 from q) q2) (fun q => absurd (show (0 : Int) ≤ -1 from q) (by omega)) k6 kp
        refine mv_aload_n (pc := 72) B d_Weaver_beginAssignment_72 rfl 3 rfl ?_
        refine mv_iconst (pc := 73) (v := -1) B d_Weaver_beginAssignment_73 (by decide) ?_
        refine mv_putI (pc := 74) (ci := 1) (C := R_Weaver) (T := F_Weaver) (N := 16) B 9 rfl rfl (by decide) i_Weaver t_Weaver_ok n_Weaver (B.2.2.2.1 _ k_239) rfl rfl rfl rfl d_Weaver_beginAssignment_74 ?_
        refine mv_lpick [0, 3] rfl ?_
        exact go
  refine mv_aload_n (pc := 0) B d_Weaver_beginAssignment_0 rfl 0 rfl ?_
  refine mv_getR (pc := 1) (ci := 1) (C := R_Weaver) (T := F_Weaver) (N := 16) B 0 rfl rfl (by decide) i_Weaver (B.2.2.2.1 _ k_228) rfl (hR.1 _ 0 _ rfl) d_Weaver_beginAssignment_1 ?_
  refine mv_iconst (pc := 4) (v := 3) B d_Weaver_beginAssignment_4 (by decide) ?_
  refine mv_callVi (pc := 5) (n := 1) (ci := 2) (C := R_Tokens) B (mK_ok sk sv) hNs rfl rfl (c_Tokens_takeN l hi _ _ hR.1 (hG.2.2.1.wt (hF.wt (P := 145)) hP ht2) (by omega) (by omega) (by decide)) rfl (ma_goodc kc_Tokens_take) (B.2.2.2.1 _ k_1266) (B.2.2.2.1 _ k_1267) (B.2.2.2.1 _ k_1268) (B.2.2.2.1 _ k_3) ⟨by decide +kernel, by decide +kernel, by decide +kernel⟩ rfl d_Weaver_beginAssignment_5 rfl (Nat.le_of_ble_eq_true rfl) ⟨by decide, by decide⟩ ⟨by decide, by decide⟩ ⟨by decide, by decide⟩ (mv_noH hno _) (fun v5 σ5 h5 => ?_)
  have kz := k6
  obtain ⟨a5, w5, e5, r5⟩ := h5
  have q5 := r5.1
  have z5 := fun q => (r5.2.1 q).1
  have y5 := And.intro r5.2.2.2.1 r5.2.2.2.2.1
  subst e5
  have hw5 := r5.2.2.1 hw9 hk3 trivial
  have sy5 := TkR.sym (hG.2.2.1.wt (hF.wt (P := 145)) hP ht2) r5
  refine mv_gen (fun S8 eS8 => ?_)
  have hR : Rw 145 (mv_r S8) := by rw [eS8]; exact hR
  have hF : EF σ S8 := by rw [eS8]; exact hF.tk3 _ _ _
  have hN : mv_i S8 21 0 = 0 → mv_i σ 21 0 = 0 := by rw [eS8]; exact hN
  have t7 : (mv_i S8 3 7).toInt = a5.toInt := by rw [eS8]; rfl
  have t8 : (mv_i S8 3 8).toInt = (mv_i σ 3 8).toInt := by rw [eS8]; first | exact t8 | exact (sub_one (by omega)).trans (by omega) | exact (i32_inc (by omega)).trans (by omega)
  have t9 : (mv_i S8 3 9).toInt = w5.toInt := by rw [eS8]; rfl
  have kp := Eq.trans (show mv_a S8 4 = mv_a _ 4 by rw [eS8]; rfl) kp
  have k6 := Eq.trans (show mv_b S8 6 = mv_b _ 6 by rw [eS8]; rfl) k6
  have hn16 := hG.2.2.1.1.2.1
  clear eS8
  refine mv_istore_n (pc := 8) B d_Weaver_beginAssignment_8 rfl (by decide) rfl ?_
  refine mv_aload_n (pc := 9) B d_Weaver_beginAssignment_9 rfl 1 rfl ?_
  refine mv_iload_n (pc := 10) B d_Weaver_beginAssignment_10 rfl 0 rfl ?_
  refine mv_callVi (pc := 11) (n := 1) (ci := 1) (C := R_Weaver) B (mK_ok sk sv) hNs rfl rfl (c_Weaver_symbolOf l hi _ _ hR.1 y5.1 (by omega)) rfl (ma_goodc kc_Weaver_symbolOf) (B.2.2.2.1 _ k_1312) (B.2.2.2.1 _ k_1314) (B.2.2.2.1 _ ks_37) (B.2.2.2.1 _ k_2) ⟨by decide +kernel, by decide +kernel, by decide +kernel⟩ rfl d_Weaver_beginAssignment_11 rfl (Nat.le_of_ble_eq_true rfl) ⟨by decide, by decide⟩ ⟨by decide, by decide⟩ ⟨by decide, by decide⟩ (mv_noH hno _) (fun v11 σ11 h11 => ?_)
  obtain ⟨e11, z11⟩ := h11
  have e11 := e11.symm
  subst e11
  have hsy : 0 ≤ v11.toInt ∧ v11.toInt < n := by rw [z11, k6, l2i_nn sy5.1 (by omega)]; exact sy5
  refine mv_istore_n (pc := 14) B d_Weaver_beginAssignment_14 rfl (by decide) rfl ?_
  refine mv_aload_n (pc := 15) B d_Weaver_beginAssignment_15 rfl 2 rfl ?_
  refine mv_getR (pc := 16) (ci := 1) (C := R_Weaver) (T := F_Weaver) (N := 16) B 0 rfl rfl (by decide) i_Weaver (B.2.2.2.1 _ k_228) rfl (hR.1 _ 0 _ rfl) d_Weaver_beginAssignment_16 ?_
  refine mv_callVi (pc := 19) (n := 0) (ci := 2) (C := R_Tokens) B (mK_ok sk sv) hNs rfl rfl (c_Tokens_kind l hi _ hR.1 (i32_in (by omega) (by omega))) rfl (ma_goodc kc_Tokens_kind) (B.2.2.2.1 _ k_1299) (B.2.2.2.1 _ k_1271) (B.2.2.2.1 _ k_1272) (B.2.2.2.1 _ k_3) ⟨by decide +kernel, by decide +kernel, by decide +kernel⟩ rfl d_Weaver_beginAssignment_19 rfl (Nat.le_of_ble_eq_true rfl) ⟨by decide, by decide⟩ ⟨by decide, by decide⟩ ⟨by decide, by decide⟩ (mv_noH hno _) (fun v19 σ19 h19 => ?_)
  obtain ⟨e19, -⟩ := h19
  have e19 := e19.symm
  subst e19
  refine mv_bipush (pc := 22) (v := 91) B d_Weaver_beginAssignment_22 (by decide) ?_
  refine mv_icmp_ne (pc := 24) (tgt := 31) B d_Weaver_beginAssignment_24 rfl (fun h24 => ?_) (fun h24 => ?_)
  · skip
    refine mv_iconst (pc := 31) (v := 0) B d_Weaver_beginAssignment_31 (by decide) ?_
    refine mv_lpick [0, 1, 2] rfl ?_
    exact j32 _ _ _ _ hR hF hN t8 (by omega) (by omega) (by omega) hsy y5 k6 kp
  · skip
    refine mv_iconst (pc := 27) (v := 1) B d_Weaver_beginAssignment_27 (by decide) ?_
    refine mv_goto (pc := 28) (tgt := 32) B d_Weaver_beginAssignment_28 rfl ?_
    refine mv_lpick [0, 1, 2] rfl ?_
    exact j32 _ _ _ _ hR hF hN t8 (by omega) (by omega) (by omega) hsy y5 k6 kp
