/-! the reference's build: the spare book is read, and becomes the one that runs -/
theorem bd_bad {N S : Nat} {σ υ τ : mv_H} (hmm : MM σ υ) (hq : QF N υ τ) (hm : MI N S υ) (z : mv_i υ 70 1 = 0) (hN : N = 74 ∨ N = 108) : MM σ τ ∧ mv_i τ 70 1 = 0 ∧ (MI N S τ ∨ MI S N τ) :=
  ⟨hmm.tr (hq.mm hN), (hq.sz hN).trans z, Or.inl (hm.qf hq hN)⟩
theorem bd_sw {N S : Nat} {σ τ : mv_H} (h : MI N S σ) (g : BG S σ) (e : τ = mv_si (mv_sr (mv_sr σ 70 9 (some S)) 70 10 (some N)) 70 11 0) (hS : S = 74 ∨ S = 108) : MI S N τ := by
  subst e
  refine ⟨mh_sr (mh_sr h.1 rfl) rfl, ?_, ?_, g.fr (fun j hj => mv_si_o _ _ (by omega)) (fun o j _ _ => rfl)⟩
  · show mv_u (mv_u (mv_r σ) 70 9 (some S)) 70 10 (some N) 70 9 = some S
    rw [mv_u_ne _ _ (by omega), mv_u_same]
  · show mv_u (mv_u (mv_r σ) 70 9 (some S)) 70 10 (some N) 70 10 = some N
    rw [mv_u_same]
theorem bd_mm {N S : Nat} {σ υ τ : mv_H} (hmm : MM σ υ) (e : τ = mv_si (mv_sr (mv_sr υ 70 9 (some S)) 70 10 (some N)) 70 11 0) : MM σ τ := by
  subst e
  exact ((hmm.sr (by omega)).sr (by omega)).tr (Fx.mm (pi := fun o _ => o = 70) (pl := fun _ _ => False) (pa := fun _ _ => False) (pb := fun _ => False) (Fx.si Fx.rf rfl) (fun o k z => by omega) (fun o k z => absurd z id) (fun o k z => absurd z id) (fun o z => absurd z id))
theorem bd_z {N S : Nat} {υ τ : mv_H} (z : mv_i υ 70 1 = 0) (e : τ = mv_si (mv_sr (mv_sr υ 70 9 (some S)) 70 10 (some N)) 70 11 0) : mv_i τ 70 1 = 0 := by
  subst e
  exact (mv_si_o _ _ (by omega)).trans z

def y_Model_build : MethodName := ⟨"MachineLoomModel", "build", "()I"⟩
abbrev b_Model_build : ByteArray := prog_14_method_26_code
theorem kc_Model_build : Cond.code y_Model_build b_Model_build 3 (Option.some Jvm.ClassFile.FieldType.int) ∈ ma := ma_of (tb_9 _ (List.mem_of_getElem? (i := 185) rfl)) rfl
theorem k_2055 : (Jvm.Cond.fieldLink "MachineLoomModel" (35 : Nat) "MachineLoomModel" "spare" "LMachineLoomModel$Book;") ∈ ma := ma_of (tb_9 _ (List.mem_of_getElem? (i := 135) rfl)) rfl
theorem k_2106 : (Jvm.Cond.methodLink "MachineLoomModel" (146 : Nat) ({ cls := "MachineLoomModel$Book", name := "read", desc := "([BI)Z" } : Jvm.MethodName)) ∈ ma := ma_of (tb_9 _ (List.mem_of_getElem? (i := 186) rfl)) rfl
theorem k_2107 : (Jvm.Cond.instanceMethod ({ cls := "MachineLoomModel$Book", name := "read", desc := "([BI)Z" } : Jvm.MethodName)) ∈ ma := ma_of (tb_9 _ (List.mem_of_getElem? (i := 187) rfl)) rfl
theorem k_2108 : (Jvm.Cond.selects "MachineLoomModel$Book" ({ cls := "MachineLoomModel$Book", name := "read", desc := "([BI)Z" } : Jvm.MethodName) ({ cls := "MachineLoomModel$Book", name := "read", desc := "([BI)Z" } : Jvm.MethodName)) ∈ ma := ma_of (tb_9 _ (List.mem_of_getElem? (i := 188) rfl)) rfl
theorem k_1886 : (Jvm.Cond.fieldLink "MachineLoomModel" (150 : Nat) "MachineLoomModel$Book" "bestNumber" "I") ∈ ma := ma_of (tb_8 _ (List.mem_of_getElem? (i := 206) rfl)) rfl
theorem k_1884 : (Jvm.Cond.fieldLink "MachineLoomModel" (156 : Nat) "MachineLoomModel$Book" "best" "I") ∈ ma := ma_of (tb_8 _ (List.mem_of_getElem? (i := 204) rfl)) rfl
theorem k_1887 : (Jvm.Cond.fieldLink "MachineLoomModel" (159 : Nat) "MachineLoomModel$Book" "other" "I") ∈ ma := ma_of (tb_8 _ (List.mem_of_getElem? (i := 207) rfl)) rfl
theorem d_Model_build_0 : decode b_Model_build 0 = .ok (.aload_n 0, 1) := by decide +kernel
theorem d_Model_build_1 : decode b_Model_build 1 = .ok (.iconst 0, 1) := by decide +kernel
theorem d_Model_build_2 : decode b_Model_build 2 = .ok (.putfield 38, 3) := by decide +kernel
theorem d_Model_build_5 : decode b_Model_build 5 = .ok (.aload_n 0, 1) := by decide +kernel
theorem d_Model_build_6 : decode b_Model_build 6 = .ok (.getfield 41, 3) := by decide +kernel
theorem d_Model_build_9 : decode b_Model_build 9 = .ok (.istore_n 1, 1) := by decide +kernel
theorem d_Model_build_10 : decode b_Model_build 10 = .ok (.aload_n 0, 1) := by decide +kernel
theorem d_Model_build_11 : decode b_Model_build 11 = .ok (.iconst 0, 1) := by decide +kernel
theorem d_Model_build_12 : decode b_Model_build 12 = .ok (.putfield 41, 3) := by decide +kernel
theorem d_Model_build_15 : decode b_Model_build 15 = .ok (.aload_n 0, 1) := by decide +kernel
theorem d_Model_build_16 : decode b_Model_build 16 = .ok (.getfield 35, 3) := by decide +kernel
theorem d_Model_build_19 : decode b_Model_build 19 = .ok (.aload_n 0, 1) := by decide +kernel
theorem d_Model_build_20 : decode b_Model_build 20 = .ok (.getfield 8, 3) := by decide +kernel
theorem d_Model_build_23 : decode b_Model_build 23 = .ok (.iload_n 1, 1) := by decide +kernel
theorem d_Model_build_24 : decode b_Model_build 24 = .ok (.invokevirtual 146, 3) := by decide +kernel
theorem d_Model_build_27 : decode b_Model_build 27 = .ok (.ifCond .ne (59), 3) := by decide +kernel
theorem d_Model_build_30 : decode b_Model_build 30 = .ok (.aload_n 0, 1) := by decide +kernel
theorem d_Model_build_31 : decode b_Model_build 31 = .ok (.aload_n 0, 1) := by decide +kernel
theorem d_Model_build_32 : decode b_Model_build 32 = .ok (.getfield 35, 3) := by decide +kernel
theorem d_Model_build_35 : decode b_Model_build 35 = .ok (.getfield 150, 3) := by decide +kernel
theorem d_Model_build_38 : decode b_Model_build 38 = .ok (.putfield 153, 3) := by decide +kernel
theorem d_Model_build_41 : decode b_Model_build 41 = .ok (.aload_n 0, 1) := by decide +kernel
theorem d_Model_build_42 : decode b_Model_build 42 = .ok (.aload_n 0, 1) := by decide +kernel
theorem d_Model_build_43 : decode b_Model_build 43 = .ok (.getfield 35, 3) := by decide +kernel
theorem d_Model_build_46 : decode b_Model_build 46 = .ok (.getfield 156, 3) := by decide +kernel
theorem d_Model_build_49 : decode b_Model_build 49 = .ok (.putfield 14, 3) := by decide +kernel
theorem d_Model_build_52 : decode b_Model_build 52 = .ok (.aload_n 0, 1) := by decide +kernel
theorem d_Model_build_53 : decode b_Model_build 53 = .ok (.aload_n 0, 1) := by decide +kernel
theorem d_Model_build_54 : decode b_Model_build 54 = .ok (.getfield 35, 3) := by decide +kernel
theorem d_Model_build_57 : decode b_Model_build 57 = .ok (.getfield 150, 3) := by decide +kernel
theorem d_Model_build_60 : decode b_Model_build 60 = .ok (.bipush 7, 2) := by decide +kernel
theorem d_Model_build_62 : decode b_Model_build 62 = .ok (.if_icmp .ne (13), 3) := by decide +kernel
theorem d_Model_build_65 : decode b_Model_build 65 = .ok (.aload_n 0, 1) := by decide +kernel
theorem d_Model_build_66 : decode b_Model_build 66 = .ok (.getfield 35, 3) := by decide +kernel
theorem d_Model_build_69 : decode b_Model_build 69 = .ok (.getfield 159, 3) := by decide +kernel
theorem d_Model_build_72 : decode b_Model_build 72 = .ok (.goto (4), 3) := by decide +kernel
theorem d_Model_build_75 : decode b_Model_build 75 = .ok (.iconst (-1), 1) := by decide +kernel
theorem d_Model_build_76 : decode b_Model_build 76 = .ok (.putfield 18, 3) := by decide +kernel
theorem d_Model_build_79 : decode b_Model_build 79 = .ok (.aload_n 0, 1) := by decide +kernel
theorem d_Model_build_80 : decode b_Model_build 80 = .ok (.iconst 1, 1) := by decide +kernel
theorem d_Model_build_81 : decode b_Model_build 81 = .ok (.putfield 38, 3) := by decide +kernel
theorem d_Model_build_84 : decode b_Model_build 84 = .ok (.iconst 0, 1) := by decide +kernel
theorem d_Model_build_85 : decode b_Model_build 85 = .ok (.ireturn, 1) := by decide +kernel
theorem d_Model_build_86 : decode b_Model_build 86 = .ok (.aload_n 0, 1) := by decide +kernel
theorem d_Model_build_87 : decode b_Model_build 87 = .ok (.getfield 31, 3) := by decide +kernel
theorem d_Model_build_90 : decode b_Model_build 90 = .ok (.astore_n 2, 1) := by decide +kernel
theorem d_Model_build_91 : decode b_Model_build 91 = .ok (.aload_n 0, 1) := by decide +kernel
theorem d_Model_build_92 : decode b_Model_build 92 = .ok (.aload_n 0, 1) := by decide +kernel
theorem d_Model_build_93 : decode b_Model_build 93 = .ok (.getfield 35, 3) := by decide +kernel
theorem d_Model_build_96 : decode b_Model_build 96 = .ok (.putfield 31, 3) := by decide +kernel
theorem d_Model_build_99 : decode b_Model_build 99 = .ok (.aload_n 0, 1) := by decide +kernel
theorem d_Model_build_100 : decode b_Model_build 100 = .ok (.aload_n 2, 1) := by decide +kernel
theorem d_Model_build_101 : decode b_Model_build 101 = .ok (.putfield 35, 3) := by decide +kernel
theorem d_Model_build_104 : decode b_Model_build 104 = .ok (.aload_n 0, 1) := by decide +kernel
theorem d_Model_build_105 : decode b_Model_build 105 = .ok (.iconst 0, 1) := by decide +kernel
theorem d_Model_build_106 : decode b_Model_build 106 = .ok (.putfield 162, 3) := by decide +kernel
theorem d_Model_build_109 : decode b_Model_build 109 = .ok (.aload_n 0, 1) := by decide +kernel
theorem d_Model_build_110 : decode b_Model_build 110 = .ok (.invokevirtual 166, 3) := by decide +kernel
theorem d_Model_build_113 : decode b_Model_build 113 = .ok (.aload_n 0, 1) := by decide +kernel
theorem d_Model_build_114 : decode b_Model_build 114 = .ok (.getfield 31, 3) := by decide +kernel
theorem d_Model_build_117 : decode b_Model_build 117 = .ok (.getfield 169, 3) := by decide +kernel
theorem d_Model_build_120 : decode b_Model_build 120 = .ok (.ireturn, 1) := by decide +kernel
set_option maxHeartbeats 4000000 in
set_option maxRecDepth 100000 in
theorem c_Model_build_x (l : Launch) {dA : FieldType → ClassId} {D : va_G} {al : Nat → Nat} {ext : mv_Sh} {sk sv : Nat → Nat} (hi : mv_inj (mg dA D al ext)) (σ : mv_H) (hM : MI 74 108 σ) (k9 : Nat) (hz : (mv_i σ 70 1).toInt = k9) (hk : k9 ≤ 10240) : mv_C l y_Model_build (Cond.code y_Model_build b_Model_build 3 (Option.some Jvm.ClassFile.FieldType.int) :: ma) ({ frames := 882, cells := 0, slots := 0, locals := 31499 }) (mg dA D al ext) (mK sk sv) [.ref (al 70)] σ (mv_Ri (fun v σ1 => MM σ σ1 ∧ mv_i σ1 70 1 = 0 ∧ (MI 74 108 σ1 ∨ MI 108 74 σ1))) := by
  refine mv_C.ofV (cc := b_Model_build) (nL := 3) (ret := (Option.some Jvm.ClassFile.FieldType.int)) (by decide +kernel) rfl hi (Nat.le_of_ble_eq_true rfl) ?_
  intro p e s m below meth c B hNs hr hnm hno
  have hN : 74 = 74 ∨ 74 = 108 := by decide
  have hS : 108 = 74 ∨ 108 = 108 := by decide
  refine mv_aload_n (pc := 0) B d_Model_build_0 rfl 0 rfl ?_
  refine mv_iconst (pc := 1) (v := 0) B d_Model_build_1 (by decide) ?_
  refine mv_putI (pc := 2) (ci := 11) (C := R_Model) (T := F_Model) (N := 16) B 2 rfl rfl (by decide) i_Model t_Model_ok n_Model (B.2.2.2.1 _ k_2047) rfl rfl rfl rfl d_Model_build_2 ?_
  refine mv_aload_n (pc := 5) B d_Model_build_5 rfl 0 rfl ?_
  refine mv_getI (pc := 6) (ci := 11) (C := R_Model) (T := F_Model) (N := 16) B 1 rfl rfl (by decide) i_Model (B.2.2.2.1 _ k_2046) rfl d_Model_build_6 ?_
  refine mv_istore_n (pc := 9) B d_Model_build_9 rfl (by decide) rfl ?_
  refine mv_aload_n (pc := 10) B d_Model_build_10 rfl 1 rfl ?_
  refine mv_iconst (pc := 11) (v := 0) B d_Model_build_11 (by decide) ?_
  refine mv_putI (pc := 12) (ci := 11) (C := R_Model) (T := F_Model) (N := 16) B 1 rfl rfl (by decide) i_Model t_Model_ok n_Model (B.2.2.2.1 _ k_2046) rfl rfl rfl rfl d_Model_build_12 ?_
  refine mv_gen (fun S15 eS15 => ?_)
  have hF15 : FD σ S15 := by rw [eS15]; exact FD.si (FD.si Fx.rf (Or.inr rfl)) (Or.inl rfl)
  have hM := hM.fd hF15 hN
  have x15 : mv_i S15 70 1 = 0 := by rw [eS15, mv_si_s]
  clear eS15
  refine mv_aload_n (pc := 15) B d_Model_build_15 rfl 1 rfl ?_
  refine mv_getR (pc := 16) (ci := 11) (C := R_Model) (T := F_Model) (N := 16) B 10 rfl rfl (by decide) i_Model (B.2.2.2.1 _ k_2055) rfl hM.2.2.1 d_Model_build_16 ?_
  refine mv_aload_n (pc := 19) B d_Model_build_19 rfl 1 rfl ?_
  refine mv_getR (pc := 20) (ci := 11) (C := R_Model) (T := F_Model) (N := 16) B 0 rfl rfl (by decide) i_Model (B.2.2.2.1 _ k_2045) rfl (hM.1 _ 0 _ rfl) d_Model_build_20 ?_
  refine mv_iload_n (pc := 23) B d_Model_build_23 rfl 0 rfl ?_
  refine mv_callVWi (pc := 24) (n := 2) (ci := 12) (C := R_Book) B (mK_ok sk sv) hNs rfl rfl (c_Book_read_1_y l hi _ _ k9 (by rw [mv_si_o _ _ (by omega)]; exact hz) hk hM.1) rfl (ma_goodc kc_Book_read_1) (B.2.2.2.1 _ k_2106) (B.2.2.2.1 _ k_2107) (B.2.2.2.1 _ k_2108) (B.2.2.2.1 _ k_13) ⟨by decide +kernel, by decide +kernel, by decide +kernel⟩ rfl d_Model_build_24 rfl (Nat.le_of_ble_eq_true rfl) ⟨by decide, by decide⟩ ⟨by decide, by decide⟩ ⟨by decide, by decide⟩ (mv_noH hno _) (fun v24 σ24 h24 => ?_)
  obtain ⟨f24, u24⟩ := h24
  have hmm : MM σ σ24 := (hF15.mm.sr (o := 108) (k := 1) (x := some 71) (by omega)).tr (Fx.mm f24 (fun o k z => by omega) (fun o k z => by omega) (fun o k z => by omega) (fun o z => by omega))
  have z1 : mv_i σ24 70 1 = 0 := (f24.1 70 1 (by omega)).trans x15
  have hM : MI 74 108 σ24 := ⟨by rw [f24.2.2.1]; exact mh_sr hM.1 rfl, by rw [f24.2.2.1]; show mv_u (mv_r S15) 108 1 (some 71) 70 9 = _; rw [mv_u_ne _ _ (by omega)]; exact hM.2.1, by rw [f24.2.2.1]; show mv_u (mv_r S15) 108 1 (some 71) 70 10 = _; rw [mv_u_ne _ _ (by omega)]; exact hM.2.2.1, hM.2.2.2.fr (fun j hj => f24.1 _ _ (by omega)) (fun o j h1 h2 => f24.2.2.2.1 _ _ (by omega))⟩
  refine mv_if_ne (pc := 27) (tgt := 86) B d_Model_build_27 rfl (fun h27 => ?_) (fun h27 => ?_)
  · skip
    refine mv_aload_n (pc := 86) B d_Model_build_86 rfl 1 rfl ?_
    refine mv_getR (pc := 87) (ci := 11) (C := R_Model) (T := F_Model) (N := 16) B 9 rfl rfl (by decide) i_Model (B.2.2.2.1 _ k_2054) rfl hM.2.1 d_Model_build_87 ?_
    refine mv_astore_n (pc := 90) B d_Model_build_90 rfl (by decide) rfl ?_
    refine mv_aload_n (pc := 91) B d_Model_build_91 rfl 2 rfl ?_
    refine mv_aload_n (pc := 92) B d_Model_build_92 rfl 2 rfl ?_
    refine mv_getR (pc := 93) (ci := 11) (C := R_Model) (T := F_Model) (N := 16) B 10 rfl rfl (by decide) i_Model (B.2.2.2.1 _ k_2055) rfl hM.2.2.1 d_Model_build_93 ?_
    refine mv_putR (pc := 96) (ci := 11) (C := R_Model) (T := F_Model) (N := 16) B 9 rfl rfl (by decide) i_Model t_Model_ok n_Model (B.2.2.2.1 _ k_2054) rfl rfl d_Model_build_96 ?_
    refine mv_aload_n (pc := 99) B d_Model_build_99 rfl 2 rfl ?_
    refine mv_aload_n (pc := 100) B d_Model_build_100 rfl 0 rfl ?_
    refine mv_putR (pc := 101) (ci := 11) (C := R_Model) (T := F_Model) (N := 16) B 10 rfl rfl (by decide) i_Model t_Model_ok n_Model (B.2.2.2.1 _ k_2055) rfl rfl d_Model_build_101 ?_
    refine mv_aload_n (pc := 104) B d_Model_build_104 rfl 2 rfl ?_
    refine mv_iconst (pc := 105) (v := 0) B d_Model_build_105 (by decide) ?_
    refine mv_putI (pc := 106) (ci := 11) (C := R_Model) (T := F_Model) (N := 16) B 11 rfl rfl (by decide) i_Model t_Model_ok n_Model (B.2.2.2.1 _ k_2056) rfl rfl rfl rfl d_Model_build_106 ?_
    refine mv_gen (fun S107 eS107 => ?_)
    have hmm := bd_mm hmm eS107
    have z1 := bd_z z1 eS107
    have hM : MI 108 74 S107 := bd_sw hM (u24.resolve_left h27).2 eS107 hS
    clear eS107
    refine mv_aload_n (pc := 109) B d_Model_build_109 rfl 2 rfl ?_
    refine mv_callVv (pc := 110) (n := 0) (ci := 11) (C := R_Model) B (mK_ok sk sv) hNs rfl rfl (c_Model_fresh l hi _) rfl (ma_goodc kc_Model_fresh) (B.2.2.2.1 _ k_2341) (B.2.2.2.1 _ k_2343) (B.2.2.2.1 _ ks_123) (B.2.2.2.1 _ k_12) ⟨by decide +kernel, by decide +kernel, by decide +kernel⟩ rfl d_Model_build_110 rfl (Nat.le_of_ble_eq_true rfl) ⟨by decide, by decide⟩ ⟨by decide, by decide⟩ ⟨by decide, by decide⟩ (mv_noH hno _) (fun σ110 h110 => ?_)
    have hq : QF 108 S107 σ110 := h110.qf
    have hmm := hmm.tr (hq.mm hS)
    have z1 := (hq.sz hS).trans z1
    have hM := hM.qf hq hS
    refine mv_aload_n (pc := 113) B d_Model_build_113 rfl 2 rfl ?_
    refine mv_getR (pc := 114) (ci := 11) (C := R_Model) (T := F_Model) (N := 16) B 9 rfl rfl (by decide) i_Model (B.2.2.2.1 _ k_2054) rfl hM.2.1 d_Model_build_114 ?_
    refine mv_getI (pc := 117) (ci := 12) (C := R_Book) (T := F_Book) (N := 65) B 29 rfl rfl (by decide) i_Book (B.2.2.2.1 _ k_1875) rfl d_Model_build_117 ?_
    exact mv_iret (pc := 120) B hr rfl d_Model_build_120 (Nat.le_refl _) (Nat.le_refl _) ⟨_, rfl, hmm, z1, Or.inr hM⟩
  · skip
    refine mv_aload_n (pc := 30) B d_Model_build_30 rfl 1 rfl ?_
    refine mv_aload_n (pc := 31) B d_Model_build_31 rfl 1 rfl ?_
    refine mv_getR (pc := 32) (ci := 11) (C := R_Model) (T := F_Model) (N := 16) B 10 rfl rfl (by decide) i_Model (B.2.2.2.1 _ k_2055) rfl hM.2.2.1 d_Model_build_32 ?_
    refine mv_getI (pc := 35) (ci := 12) (C := R_Book) (T := F_Book) (N := 65) B 38 rfl rfl (by decide) i_Book (B.2.2.2.1 _ k_1886) rfl d_Model_build_35 ?_
    refine mv_putI (pc := 38) (ci := 11) (C := R_Model) (T := F_Model) (N := 16) B 3 rfl rfl (by decide) i_Model t_Model_ok n_Model (B.2.2.2.1 _ k_2048) rfl rfl rfl rfl d_Model_build_38 ?_
    refine mv_aload_n (pc := 41) B d_Model_build_41 rfl 1 rfl ?_
    refine mv_aload_n (pc := 42) B d_Model_build_42 rfl 1 rfl ?_
    refine mv_getR (pc := 43) (ci := 11) (C := R_Model) (T := F_Model) (N := 16) B 10 rfl rfl (by decide) i_Model (B.2.2.2.1 _ k_2055) rfl hM.2.2.1 d_Model_build_43 ?_
    refine mv_getI (pc := 46) (ci := 12) (C := R_Book) (T := F_Book) (N := 65) B 37 rfl rfl (by decide) i_Book (B.2.2.2.1 _ k_1884) rfl d_Model_build_46 ?_
    refine mv_putI (pc := 49) (ci := 11) (C := R_Model) (T := F_Model) (N := 16) B 4 rfl rfl (by decide) i_Model t_Model_ok n_Model (B.2.2.2.1 _ k_2049) rfl rfl rfl rfl d_Model_build_49 ?_
    refine mv_aload_n (pc := 52) B d_Model_build_52 rfl 1 rfl ?_
    refine mv_aload_n (pc := 53) B d_Model_build_53 rfl 1 rfl ?_
    refine mv_getR (pc := 54) (ci := 11) (C := R_Model) (T := F_Model) (N := 16) B 10 rfl rfl (by decide) i_Model (B.2.2.2.1 _ k_2055) rfl hM.2.2.1 d_Model_build_54 ?_
    refine mv_getI (pc := 57) (ci := 12) (C := R_Book) (T := F_Book) (N := 65) B 38 rfl rfl (by decide) i_Book (B.2.2.2.1 _ k_1886) rfl d_Model_build_57 ?_
    refine mv_bipush (pc := 60) (v := 7) B d_Model_build_60 (by decide) ?_
    refine mv_icmp_ne (pc := 62) (tgt := 75) B d_Model_build_62 rfl (fun h62 => ?_) (fun h62 => ?_)
    · skip
      refine mv_iconst (pc := 75) (v := -1) B d_Model_build_75 (by decide) ?_
      refine mv_putI (pc := 76) (ci := 11) (C := R_Model) (T := F_Model) (N := 16) B 5 rfl rfl (by decide) i_Model t_Model_ok n_Model (B.2.2.2.1 _ k_2050) rfl rfl rfl rfl d_Model_build_76 ?_
      refine mv_aload_n (pc := 79) B d_Model_build_79 rfl 1 rfl ?_
      refine mv_iconst (pc := 80) (v := 1) B d_Model_build_80 (by decide) ?_
      refine mv_putI (pc := 81) (ci := 11) (C := R_Model) (T := F_Model) (N := 16) B 2 rfl rfl (by decide) i_Model t_Model_ok n_Model (B.2.2.2.1 _ k_2047) rfl rfl rfl rfl d_Model_build_81 ?_
      refine mv_iconst (pc := 84) (v := 0) B d_Model_build_84 (by decide) ?_
      exact mv_iret (pc := 85) B hr rfl d_Model_build_85 (Nat.le_refl _) (Nat.le_refl _) ⟨_, rfl, bd_bad hmm (QF.si (QF.si (QF.si (QF.si (Fx.rf) (by decide)) (by decide)) (by decide)) (by decide)) hM z1 hN⟩
    · skip
      refine mv_aload_n (pc := 65) B d_Model_build_65 rfl 1 rfl ?_
      refine mv_getR (pc := 66) (ci := 11) (C := R_Model) (T := F_Model) (N := 16) B 10 rfl rfl (by decide) i_Model (B.2.2.2.1 _ k_2055) rfl hM.2.2.1 d_Model_build_66 ?_
      refine mv_getI (pc := 69) (ci := 12) (C := R_Book) (T := F_Book) (N := 65) B 39 rfl rfl (by decide) i_Book (B.2.2.2.1 _ k_1887) rfl d_Model_build_69 ?_
      refine mv_goto (pc := 72) (tgt := 76) B d_Model_build_72 rfl ?_
      refine mv_putI (pc := 76) (ci := 11) (C := R_Model) (T := F_Model) (N := 16) B 5 rfl rfl (by decide) i_Model t_Model_ok n_Model (B.2.2.2.1 _ k_2050) rfl rfl rfl rfl d_Model_build_76 ?_
      refine mv_aload_n (pc := 79) B d_Model_build_79 rfl 1 rfl ?_
      refine mv_iconst (pc := 80) (v := 1) B d_Model_build_80 (by decide) ?_
      refine mv_putI (pc := 81) (ci := 11) (C := R_Model) (T := F_Model) (N := 16) B 2 rfl rfl (by decide) i_Model t_Model_ok n_Model (B.2.2.2.1 _ k_2047) rfl rfl rfl rfl d_Model_build_81 ?_
      refine mv_iconst (pc := 84) (v := 0) B d_Model_build_84 (by decide) ?_
      exact mv_iret (pc := 85) B hr rfl d_Model_build_85 (Nat.le_refl _) (Nat.le_refl _) ⟨_, rfl, bd_bad hmm (QF.si (QF.si (QF.si (QF.si (Fx.rf) (by decide)) (by decide)) (by decide)) (by decide)) hM z1 hN⟩
set_option maxHeartbeats 4000000 in
set_option maxRecDepth 100000 in
theorem c_Model_build_y (l : Launch) {dA : FieldType → ClassId} {D : va_G} {al : Nat → Nat} {ext : mv_Sh} {sk sv : Nat → Nat} (hi : mv_inj (mg dA D al ext)) (σ : mv_H) (hM : MI 108 74 σ) (k9 : Nat) (hz : (mv_i σ 70 1).toInt = k9) (hk : k9 ≤ 10240) : mv_C l y_Model_build (Cond.code y_Model_build b_Model_build 3 (Option.some Jvm.ClassFile.FieldType.int) :: ma) ({ frames := 882, cells := 0, slots := 0, locals := 31499 }) (mg dA D al ext) (mK sk sv) [.ref (al 70)] σ (mv_Ri (fun v σ1 => MM σ σ1 ∧ mv_i σ1 70 1 = 0 ∧ (MI 108 74 σ1 ∨ MI 74 108 σ1))) := by
  refine mv_C.ofV (cc := b_Model_build) (nL := 3) (ret := (Option.some Jvm.ClassFile.FieldType.int)) (by decide +kernel) rfl hi (Nat.le_of_ble_eq_true rfl) ?_
  intro p e s m below meth c B hNs hr hnm hno
  have hN : 108 = 74 ∨ 108 = 108 := by decide
  have hS : 74 = 74 ∨ 74 = 108 := by decide
  refine mv_aload_n (pc := 0) B d_Model_build_0 rfl 0 rfl ?_
  refine mv_iconst (pc := 1) (v := 0) B d_Model_build_1 (by decide) ?_
  refine mv_putI (pc := 2) (ci := 11) (C := R_Model) (T := F_Model) (N := 16) B 2 rfl rfl (by decide) i_Model t_Model_ok n_Model (B.2.2.2.1 _ k_2047) rfl rfl rfl rfl d_Model_build_2 ?_
  refine mv_aload_n (pc := 5) B d_Model_build_5 rfl 0 rfl ?_
  refine mv_getI (pc := 6) (ci := 11) (C := R_Model) (T := F_Model) (N := 16) B 1 rfl rfl (by decide) i_Model (B.2.2.2.1 _ k_2046) rfl d_Model_build_6 ?_
  refine mv_istore_n (pc := 9) B d_Model_build_9 rfl (by decide) rfl ?_
  refine mv_aload_n (pc := 10) B d_Model_build_10 rfl 1 rfl ?_
  refine mv_iconst (pc := 11) (v := 0) B d_Model_build_11 (by decide) ?_
  refine mv_putI (pc := 12) (ci := 11) (C := R_Model) (T := F_Model) (N := 16) B 1 rfl rfl (by decide) i_Model t_Model_ok n_Model (B.2.2.2.1 _ k_2046) rfl rfl rfl rfl d_Model_build_12 ?_
  refine mv_gen (fun S15 eS15 => ?_)
  have hF15 : FD σ S15 := by rw [eS15]; exact FD.si (FD.si Fx.rf (Or.inr rfl)) (Or.inl rfl)
  have hM := hM.fd hF15 hN
  have x15 : mv_i S15 70 1 = 0 := by rw [eS15, mv_si_s]
  clear eS15
  refine mv_aload_n (pc := 15) B d_Model_build_15 rfl 1 rfl ?_
  refine mv_getR (pc := 16) (ci := 11) (C := R_Model) (T := F_Model) (N := 16) B 10 rfl rfl (by decide) i_Model (B.2.2.2.1 _ k_2055) rfl hM.2.2.1 d_Model_build_16 ?_
  refine mv_aload_n (pc := 19) B d_Model_build_19 rfl 1 rfl ?_
  refine mv_getR (pc := 20) (ci := 11) (C := R_Model) (T := F_Model) (N := 16) B 0 rfl rfl (by decide) i_Model (B.2.2.2.1 _ k_2045) rfl (hM.1 _ 0 _ rfl) d_Model_build_20 ?_
  refine mv_iload_n (pc := 23) B d_Model_build_23 rfl 0 rfl ?_
  refine mv_callVWi (pc := 24) (n := 2) (ci := 12) (C := R_Book) B (mK_ok sk sv) hNs rfl rfl (c_Book_read_1_x l hi _ _ k9 (by rw [mv_si_o _ _ (by omega)]; exact hz) hk hM.1) rfl (ma_goodc kc_Book_read_1) (B.2.2.2.1 _ k_2106) (B.2.2.2.1 _ k_2107) (B.2.2.2.1 _ k_2108) (B.2.2.2.1 _ k_13) ⟨by decide +kernel, by decide +kernel, by decide +kernel⟩ rfl d_Model_build_24 rfl (Nat.le_of_ble_eq_true rfl) ⟨by decide, by decide⟩ ⟨by decide, by decide⟩ ⟨by decide, by decide⟩ (mv_noH hno _) (fun v24 σ24 h24 => ?_)
  obtain ⟨f24, u24⟩ := h24
  have hmm : MM σ σ24 := (hF15.mm.sr (o := 74) (k := 1) (x := some 71) (by omega)).tr (Fx.mm f24 (fun o k z => by omega) (fun o k z => by omega) (fun o k z => by omega) (fun o z => by omega))
  have z1 : mv_i σ24 70 1 = 0 := (f24.1 70 1 (by omega)).trans x15
  have hM : MI 108 74 σ24 := ⟨by rw [f24.2.2.1]; exact mh_sr hM.1 rfl, by rw [f24.2.2.1]; show mv_u (mv_r S15) 74 1 (some 71) 70 9 = _; rw [mv_u_ne _ _ (by omega)]; exact hM.2.1, by rw [f24.2.2.1]; show mv_u (mv_r S15) 74 1 (some 71) 70 10 = _; rw [mv_u_ne _ _ (by omega)]; exact hM.2.2.1, hM.2.2.2.fr (fun j hj => f24.1 _ _ (by omega)) (fun o j h1 h2 => f24.2.2.2.1 _ _ (by omega))⟩
  refine mv_if_ne (pc := 27) (tgt := 86) B d_Model_build_27 rfl (fun h27 => ?_) (fun h27 => ?_)
  · skip
    refine mv_aload_n (pc := 86) B d_Model_build_86 rfl 1 rfl ?_
    refine mv_getR (pc := 87) (ci := 11) (C := R_Model) (T := F_Model) (N := 16) B 9 rfl rfl (by decide) i_Model (B.2.2.2.1 _ k_2054) rfl hM.2.1 d_Model_build_87 ?_
    refine mv_astore_n (pc := 90) B d_Model_build_90 rfl (by decide) rfl ?_
    refine mv_aload_n (pc := 91) B d_Model_build_91 rfl 2 rfl ?_
    refine mv_aload_n (pc := 92) B d_Model_build_92 rfl 2 rfl ?_
    refine mv_getR (pc := 93) (ci := 11) (C := R_Model) (T := F_Model) (N := 16) B 10 rfl rfl (by decide) i_Model (B.2.2.2.1 _ k_2055) rfl hM.2.2.1 d_Model_build_93 ?_
    refine mv_putR (pc := 96) (ci := 11) (C := R_Model) (T := F_Model) (N := 16) B 9 rfl rfl (by decide) i_Model t_Model_ok n_Model (B.2.2.2.1 _ k_2054) rfl rfl d_Model_build_96 ?_
    refine mv_aload_n (pc := 99) B d_Model_build_99 rfl 2 rfl ?_
    refine mv_aload_n (pc := 100) B d_Model_build_100 rfl 0 rfl ?_
    refine mv_putR (pc := 101) (ci := 11) (C := R_Model) (T := F_Model) (N := 16) B 10 rfl rfl (by decide) i_Model t_Model_ok n_Model (B.2.2.2.1 _ k_2055) rfl rfl d_Model_build_101 ?_
    refine mv_aload_n (pc := 104) B d_Model_build_104 rfl 2 rfl ?_
    refine mv_iconst (pc := 105) (v := 0) B d_Model_build_105 (by decide) ?_
    refine mv_putI (pc := 106) (ci := 11) (C := R_Model) (T := F_Model) (N := 16) B 11 rfl rfl (by decide) i_Model t_Model_ok n_Model (B.2.2.2.1 _ k_2056) rfl rfl rfl rfl d_Model_build_106 ?_
    refine mv_gen (fun S107 eS107 => ?_)
    have hmm := bd_mm hmm eS107
    have z1 := bd_z z1 eS107
    have hM : MI 74 108 S107 := bd_sw hM (u24.resolve_left h27).2 eS107 hS
    clear eS107
    refine mv_aload_n (pc := 109) B d_Model_build_109 rfl 2 rfl ?_
    refine mv_callVv (pc := 110) (n := 0) (ci := 11) (C := R_Model) B (mK_ok sk sv) hNs rfl rfl (c_Model_fresh l hi _) rfl (ma_goodc kc_Model_fresh) (B.2.2.2.1 _ k_2341) (B.2.2.2.1 _ k_2343) (B.2.2.2.1 _ ks_123) (B.2.2.2.1 _ k_12) ⟨by decide +kernel, by decide +kernel, by decide +kernel⟩ rfl d_Model_build_110 rfl (Nat.le_of_ble_eq_true rfl) ⟨by decide, by decide⟩ ⟨by decide, by decide⟩ ⟨by decide, by decide⟩ (mv_noH hno _) (fun σ110 h110 => ?_)
    have hq : QF 74 S107 σ110 := h110.qf
    have hmm := hmm.tr (hq.mm hS)
    have z1 := (hq.sz hS).trans z1
    have hM := hM.qf hq hS
    refine mv_aload_n (pc := 113) B d_Model_build_113 rfl 2 rfl ?_
    refine mv_getR (pc := 114) (ci := 11) (C := R_Model) (T := F_Model) (N := 16) B 9 rfl rfl (by decide) i_Model (B.2.2.2.1 _ k_2054) rfl hM.2.1 d_Model_build_114 ?_
    refine mv_getI (pc := 117) (ci := 12) (C := R_Book) (T := F_Book) (N := 65) B 29 rfl rfl (by decide) i_Book (B.2.2.2.1 _ k_1875) rfl d_Model_build_117 ?_
    exact mv_iret (pc := 120) B hr rfl d_Model_build_120 (Nat.le_refl _) (Nat.le_refl _) ⟨_, rfl, hmm, z1, Or.inr hM⟩
  · skip
    refine mv_aload_n (pc := 30) B d_Model_build_30 rfl 1 rfl ?_
    refine mv_aload_n (pc := 31) B d_Model_build_31 rfl 1 rfl ?_
    refine mv_getR (pc := 32) (ci := 11) (C := R_Model) (T := F_Model) (N := 16) B 10 rfl rfl (by decide) i_Model (B.2.2.2.1 _ k_2055) rfl hM.2.2.1 d_Model_build_32 ?_
    refine mv_getI (pc := 35) (ci := 12) (C := R_Book) (T := F_Book) (N := 65) B 38 rfl rfl (by decide) i_Book (B.2.2.2.1 _ k_1886) rfl d_Model_build_35 ?_
    refine mv_putI (pc := 38) (ci := 11) (C := R_Model) (T := F_Model) (N := 16) B 3 rfl rfl (by decide) i_Model t_Model_ok n_Model (B.2.2.2.1 _ k_2048) rfl rfl rfl rfl d_Model_build_38 ?_
    refine mv_aload_n (pc := 41) B d_Model_build_41 rfl 1 rfl ?_
    refine mv_aload_n (pc := 42) B d_Model_build_42 rfl 1 rfl ?_
    refine mv_getR (pc := 43) (ci := 11) (C := R_Model) (T := F_Model) (N := 16) B 10 rfl rfl (by decide) i_Model (B.2.2.2.1 _ k_2055) rfl hM.2.2.1 d_Model_build_43 ?_
    refine mv_getI (pc := 46) (ci := 12) (C := R_Book) (T := F_Book) (N := 65) B 37 rfl rfl (by decide) i_Book (B.2.2.2.1 _ k_1884) rfl d_Model_build_46 ?_
    refine mv_putI (pc := 49) (ci := 11) (C := R_Model) (T := F_Model) (N := 16) B 4 rfl rfl (by decide) i_Model t_Model_ok n_Model (B.2.2.2.1 _ k_2049) rfl rfl rfl rfl d_Model_build_49 ?_
    refine mv_aload_n (pc := 52) B d_Model_build_52 rfl 1 rfl ?_
    refine mv_aload_n (pc := 53) B d_Model_build_53 rfl 1 rfl ?_
    refine mv_getR (pc := 54) (ci := 11) (C := R_Model) (T := F_Model) (N := 16) B 10 rfl rfl (by decide) i_Model (B.2.2.2.1 _ k_2055) rfl hM.2.2.1 d_Model_build_54 ?_
    refine mv_getI (pc := 57) (ci := 12) (C := R_Book) (T := F_Book) (N := 65) B 38 rfl rfl (by decide) i_Book (B.2.2.2.1 _ k_1886) rfl d_Model_build_57 ?_
    refine mv_bipush (pc := 60) (v := 7) B d_Model_build_60 (by decide) ?_
    refine mv_icmp_ne (pc := 62) (tgt := 75) B d_Model_build_62 rfl (fun h62 => ?_) (fun h62 => ?_)
    · skip
      refine mv_iconst (pc := 75) (v := -1) B d_Model_build_75 (by decide) ?_
      refine mv_putI (pc := 76) (ci := 11) (C := R_Model) (T := F_Model) (N := 16) B 5 rfl rfl (by decide) i_Model t_Model_ok n_Model (B.2.2.2.1 _ k_2050) rfl rfl rfl rfl d_Model_build_76 ?_
      refine mv_aload_n (pc := 79) B d_Model_build_79 rfl 1 rfl ?_
      refine mv_iconst (pc := 80) (v := 1) B d_Model_build_80 (by decide) ?_
      refine mv_putI (pc := 81) (ci := 11) (C := R_Model) (T := F_Model) (N := 16) B 2 rfl rfl (by decide) i_Model t_Model_ok n_Model (B.2.2.2.1 _ k_2047) rfl rfl rfl rfl d_Model_build_81 ?_
      refine mv_iconst (pc := 84) (v := 0) B d_Model_build_84 (by decide) ?_
      exact mv_iret (pc := 85) B hr rfl d_Model_build_85 (Nat.le_refl _) (Nat.le_refl _) ⟨_, rfl, bd_bad hmm (QF.si (QF.si (QF.si (QF.si (Fx.rf) (by decide)) (by decide)) (by decide)) (by decide)) hM z1 hN⟩
    · skip
      refine mv_aload_n (pc := 65) B d_Model_build_65 rfl 1 rfl ?_
      refine mv_getR (pc := 66) (ci := 11) (C := R_Model) (T := F_Model) (N := 16) B 10 rfl rfl (by decide) i_Model (B.2.2.2.1 _ k_2055) rfl hM.2.2.1 d_Model_build_66 ?_
      refine mv_getI (pc := 69) (ci := 12) (C := R_Book) (T := F_Book) (N := 65) B 39 rfl rfl (by decide) i_Book (B.2.2.2.1 _ k_1887) rfl d_Model_build_69 ?_
      refine mv_goto (pc := 72) (tgt := 76) B d_Model_build_72 rfl ?_
      refine mv_putI (pc := 76) (ci := 11) (C := R_Model) (T := F_Model) (N := 16) B 5 rfl rfl (by decide) i_Model t_Model_ok n_Model (B.2.2.2.1 _ k_2050) rfl rfl rfl rfl d_Model_build_76 ?_
      refine mv_aload_n (pc := 79) B d_Model_build_79 rfl 1 rfl ?_
      refine mv_iconst (pc := 80) (v := 1) B d_Model_build_80 (by decide) ?_
      refine mv_putI (pc := 81) (ci := 11) (C := R_Model) (T := F_Model) (N := 16) B 2 rfl rfl (by decide) i_Model t_Model_ok n_Model (B.2.2.2.1 _ k_2047) rfl rfl rfl rfl d_Model_build_81 ?_
      refine mv_iconst (pc := 84) (v := 0) B d_Model_build_84 (by decide) ?_
      exact mv_iret (pc := 85) B hr rfl d_Model_build_85 (Nat.le_refl _) (Nat.le_refl _) ⟨_, rfl, bd_bad hmm (QF.si (QF.si (QF.si (QF.si (Fx.rf) (by decide)) (by decide)) (by decide)) (by decide)) hM z1 hN⟩
