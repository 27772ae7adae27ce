/-! MachineLoom: build, exactly -/
/-- all programs but T stay -/
def GP2 (T : Nat) (σ τ : mv_H) : Prop := ∀ o, (((32 ≤ o ∧ o ≤ 63) ∧ ¬ (T ≤ o ∧ o ≤ T + 15)) ∨ 145 ≤ o) → mv_i τ o = mv_i σ o ∧ mv_a τ o = mv_a σ o ∧ mv_b τ o = mv_b σ o
theorem GP2.vt {T : Nat} {σ τ : mv_H} (hT : T = 32 ∨ T = 48) (f : VT T (w_base T 1 σ) τ) : GP2 T σ τ := fun o q => ⟨funext fun k => f.1 _ _ (by omega), f.2.1 _ (by omega), f.2.2.1 _ (by omega)⟩
theorem GP2.s0 {T : Nat} {σ τ : mv_H} {k : Nat} {v : Int32} (h : GP2 T σ τ) : GP2 T σ (mv_si τ 0 k v) := fun o q => ⟨(funext fun k => mv_si_o _ _ (by omega)).trans (h o q).1, (h o q).2.1, (h o q).2.2⟩
theorem GP2.fm {T : Nat} {σ τ υ : mv_H} (h : GP2 T σ τ) (f : FM (mv_sr τ 64 0 (some T)) υ) : GP2 T σ υ := fun o q => ⟨(funext fun k => f.1 _ _ (by omega)).trans (h o q).1, (f.2.1 _ (by omega)).trans (h o q).2.1, (f.2.2.1 _ (by omega)).trans (h o q).2.2⟩
/-- the machine stays -/
def MKp (σ τ : mv_H) : Prop := (∀ k, mv_i τ 64 k = mv_i σ 64 k) ∧ mv_b τ 65 = mv_b σ 65
theorem MKp.rf {σ : mv_H} : MKp σ σ := ⟨fun _ => rfl, rfl⟩
theorem MKp.tr {σ τ υ : mv_H} (h : MKp σ τ) (g : MKp τ υ) : MKp σ υ := ⟨fun k => (g.1 k).trans (h.1 k), g.2.trans h.2⟩
theorem MKp.vt {T : Nat} {σ τ : mv_H} (hT : T = 32 ∨ T = 48) (f : VT T (w_base T 1 σ) τ) : MKp σ τ := ⟨fun k => f.1 _ _ (by omega), f.2.2.1 _ (by omega)⟩
theorem MKp.s0 {σ τ : mv_H} {k : Nat} {v : Int32} (h : MKp σ τ) : MKp σ (mv_si τ 0 k v) := ⟨fun j => (mv_si_o _ _ (by omega)).trans (h.1 j), h.2⟩
theorem MKp.sb {σ τ : mv_H} {k : Nat} {v : Int64} (h : MKp σ τ) : MKp σ (mv_sb τ 142 k v) := ⟨h.1, (show mv_u (mv_b τ) 142 k v 65 = mv_b τ 65 from mv_u_o _ _ (by omega)).trans h.2⟩
/-- a program has just been loaded -/
def LDz (T : Nat) (σ τ : mv_H) : Prop := (mv_i τ 64 10 = 0 ∧ mv_i τ 64 11 = 0 ∧ mv_i τ 64 9 = mv_i σ 64 9 ∧ mv_i τ 64 12 = mv_i σ 64 12) ∧ ∀ i, i < (mv_i τ T 6).toNatClampNeg → mv_b τ 65 i = 0
theorem LDz.of {T : Nat} {σ τ υ : mv_H} (hT : T = 32 ∨ T = 48 ∨ T = 145) (h : MKp σ τ) (e : υ = ldF T τ) : LDz T σ υ := by
  subst e
  obtain ⟨a, b, c, d⟩ := ldF_i (P := T) (σ := τ)
  refine ⟨⟨a, b, c.trans (h.1 9), d.trans (h.1 12)⟩, fun i hi => ldF_b ?_⟩
  have e : mv_i (ldF T τ) T 6 = mv_i τ T 6 := by
    unfold ldF
    exact (mv_si_o _ _ (by omega)).trans (mv_si_o _ _ (by omega))
  rw [e] at hi
  exact hi
theorem LDz.sb {T : Nat} {σ τ : mv_H} {k : Nat} {v : Int64} (h : LDz T σ τ) : LDz T σ (mv_sb τ 142 k v) := ⟨h.1, fun i hi => (congrFun (show mv_u (mv_b τ) 142 k v 65 = mv_b τ 65 from mv_u_o _ _ (by omega)) i).trans (h.2 i hi)⟩
set_option maxHeartbeats 4000000 in
set_option maxRecDepth 100000 in
theorem c_kb_Loom_build_a (l : Launch) {dA : FieldType → ClassId} {D : va_G} {al : Nat → Nat} {ext : mv_Sh} {sk sv : Nat → Nat} (hi : mv_inj (mg dA D al ext)) (σ : mv_H) (hlt : l.stackTraces = false) (k9 : Nat) (hC : LC ext σ 32 32768 512 k9) (hk : k9 ≤ 10240) : mv_C l y_Loom_build (Cond.code y_Loom_build b_Loom_build 3 (Option.some Jvm.ClassFile.FieldType.int) :: ma) ({ frames := 8, cells := 1, slots := 6, locals := 201 }) (mg dA D al ext) (mKt sk sv) [.ref (al 0)] σ (mv_Ti (fun v σ1 => LC ext σ1 48 32768 512 0 ∧ GF σ σ1 ∧ ∃ s, sOK (txT (cc σ k9) k9) = some s ∧ v = nI s.ops.length ∧ (SPq 48 s σ1 ∧ TreeOK 48 512 σ1) ∧ GP2 48 σ σ1 ∧ KFn (txT (cc σ k9) k9) 48 σ1 ∧ LDz 48 σ σ1) (fun X σ1 => X = "java/lang/IllegalStateException" ∧ LC ext σ1 32 32768 512 0 ∧ GF σ σ1 ∧ sOK (txT (cc σ k9) k9) = none ∧ GP2 48 σ σ1 ∧ MKp σ σ1)) := by
  refine mv_C.ofV (cc := b_Loom_build) (nL := 3) (ret := (Option.some Jvm.ClassFile.FieldType.int)) (by decide +kernel) rfl hi (Nat.le_of_ble_eq_true rfl) ?_
  intro p e s m below meth c B hNs hr hnm hno
  have hC9 := hC
  obtain ⟨hPP, hI, hR, hW, hPO, hLS⟩ := hC
  refine mv_aload_n (pc := 0) B d_Loom_build_0 rfl 0 rfl ?_
  refine mv_getR (pc := 1) (ci := 0) (C := R_Loom) (T := F_Loom) (N := 10) B 9 rfl rfl (by decide) i_Loom (B.2.2.2.1 _ k_495) rfl (hR.1 _ 9 _ rfl) d_Loom_build_1 ?_
  refine mv_getR (pc := 4) (ci := 9) (C := R_Machine) (T := F_Machine) (N := 13) B 0 rfl rfl (by decide) i_Machine (B.2.2.2.1 _ k_441) rfl hR.2.2 d_Loom_build_4 ?_
  refine mv_aload_n (pc := 7) B d_Loom_build_7 rfl 0 rfl ?_
  refine mv_getR (pc := 8) (ci := 0) (C := R_Loom) (T := F_Loom) (N := 10) B 6 rfl rfl (by decide) i_Loom (B.2.2.2.1 _ k_492) rfl (hR.1 _ 6 _ rfl) d_Loom_build_8 ?_
  refine mv_acmp_ne (pc := 11) (tgt := 21) B d_Loom_build_11 rfl (fun h11 => ?_) (fun h11 => ?_)
  · skip
    exact absurd rfl h11
  · skip
    refine mv_aload_n (pc := 14) B d_Loom_build_14 rfl 0 rfl ?_
    refine mv_getR (pc := 15) (ci := 0) (C := R_Loom) (T := F_Loom) (N := 10) B 7 rfl rfl (by decide) i_Loom (B.2.2.2.1 _ k_493) rfl (hR.1 _ 7 _ rfl) d_Loom_build_15 ?_
    refine mv_goto (pc := 18) (tgt := 25) B d_Loom_build_18 rfl ?_
    refine mv_astore_n (pc := 25) B d_Loom_build_25 rfl (by decide) rfl ?_
    refine mv_aload_n (pc := 26) B d_Loom_build_26 rfl 1 rfl ?_
    refine mv_getR (pc := 27) (ci := 0) (C := R_Loom) (T := F_Loom) (N := 10) B 5 rfl rfl (by decide) i_Loom (B.2.2.2.1 _ k_491) rfl (hR.1 _ 5 _ rfl) d_Loom_build_27 ?_
    refine mv_aload_n (pc := 30) B d_Loom_build_30 rfl 1 rfl ?_
    refine mv_getR (pc := 31) (ci := 0) (C := R_Loom) (T := F_Loom) (N := 10) B 0 rfl rfl (by decide) i_Loom (B.2.2.2.1 _ k_486) rfl (hR.1 _ 0 _ rfl) d_Loom_build_31 ?_
    refine mv_aload_n (pc := 34) B d_Loom_build_34 rfl 1 rfl ?_
    refine mv_getI (pc := 35) (ci := 0) (C := R_Loom) (T := F_Loom) (N := 10) B 1 rfl rfl (by decide) i_Loom (B.2.2.2.1 _ k_487) rfl d_Loom_build_35 ?_
    refine mv_aload_n (pc := 38) B d_Loom_build_38 rfl 0 rfl ?_
    refine mv_callVi (pc := 39) (n := 3) (ci := 1) (C := R_Weaver) B (mK_ok sk sv) hNs.1 rfl rfl (c_kw_Weaver_weave_b l hi _ k9 _ hR.1 (Ph_b hR.1) hI.1 hI.2.1 hI.2.2 (byt_of hI.2.2) hW.1 hW.2.1 hW.2.2.1 hW.2.2.2.1 hW.2.2.2.2 (by omega) hk (Or.inl rfl)) rfl (ma_goodc kc_Weaver_weave) (B.2.2.2.1 _ k_776) (B.2.2.2.1 _ k_777) (B.2.2.2.1 _ k_778) (B.2.2.2.1 _ k_2) ⟨by decide +kernel, by decide +kernel, by decide +kernel⟩ rfl d_Loom_build_39 rfl (Nat.le_of_ble_eq_true rfl) ⟨by decide, by decide⟩ ⟨by decide, by decide⟩ ⟨by decide, by decide⟩ (mv_noH hno _) (fun v39 σ39 h39 => ?_)
    obtain ⟨h39, x39⟩ := h39
    have hV := h39.vt
    obtain ⟨hWP, th, sl, hTh, ho0, ho1, hv⟩ := h39
    refine mv_istore_n (pc := 42) B d_Loom_build_42 rfl (by decide) rfl ?_
    refine mv_aload_n (pc := 43) B d_Loom_build_43 rfl 2 rfl ?_
    refine mv_iconst (pc := 44) (v := 0) B d_Loom_build_44 (by decide) ?_
    refine mv_putI (pc := 45) (ci := 0) (C := R_Loom) (T := F_Loom) (N := 10) B 1 rfl rfl (by decide) i_Loom t_Loom_ok n_Loom (B.2.2.2.1 _ k_487) rfl rfl rfl rfl d_Loom_build_45 ?_
    refine mv_gen (fun S48 eS48 => ?_)
    have hK9 := bw_keep (by decide) (by decide) hC9 hV hWP
    rw [← eS48] at hK9
    obtain ⟨hK, hG⟩ := hK9
    have hR := hK.2.2.1
    have hThS : Th 48 S48 th sl := hTh.fr (funext fun k => by rw [eS48]; exact mv_si_o _ _ (by omega)) (by rw [eS48]; rfl) (by rw [eS48]; rfl)
    have hOS : mv_i S48 48 = mv_i σ39 48 := by rw [eS48]; exact funext fun k => mv_si_o _ _ (by omega)
    have haS : mv_a S48 = mv_a σ39 := by rw [eS48]; rfl
    have hbS : mv_b S48 = mv_b σ39 := by rw [eS48]; rfl
    have hX48 : GP2 48 σ S48 := by rw [eS48]; exact (GP2.vt (by decide) hV).s0
    have hM48 : MKp σ S48 := by rw [eS48]; exact (MKp.vt (T := 48) (by decide) hV).s0
    clear eS48
    refine mv_iload_n (pc := 48) B d_Loom_build_48 rfl 0 rfl ?_
    refine mv_if_ne (pc := 49) (tgt := 99) B d_Loom_build_49 rfl (fun h49 => ?_) (fun h49 => ?_)
    · skip
      obtain ⟨-, s9, hs9, ho9, hkf9⟩ := x39.resolve_right (fun z => h49 z.1)
      obtain ⟨-, -, hTO, hCO⟩ := hv.resolve_left (fun z => h49 z.1)
      have hPT : PO 48 32768 512 S48 := PO.fr (σ := σ39) ⟨th, sl, ⟨hTh, Or.inr ⟨hTO, hCO⟩⟩, ho0, ho1, fun q => absurd q (by decide)⟩ hOS (fun j _ _ => by rw [haS]) (fun _ _ => by rw [hbS])
      refine mv_aload_n (pc := 99) B d_Loom_build_99 rfl 2 rfl ?_
      refine mv_getR (pc := 100) (ci := 0) (C := R_Loom) (T := F_Loom) (N := 10) B 9 rfl rfl (by decide) i_Loom (B.2.2.2.1 _ k_495) rfl (hR.1 _ 9 _ rfl) d_Loom_build_100 ?_
      refine mv_aload_n (pc := 103) B d_Loom_build_103 rfl 1 rfl ?_
      refine mv_callVv (pc := 104) (n := 1) (ci := 9) (C := R_Machine) B (mK_ok sk sv) hNs.1 rfl rfl (c_kl_Machine_load_b l hi _ hR.1 (Ph_b hR.1) th sl hThS) rfl (ma_goodc kc_Machine_load) (B.2.2.2.1 _ k_1549) (B.2.2.2.1 _ k_1550) (B.2.2.2.1 _ k_1551) (B.2.2.2.1 _ k_11) ⟨by decide +kernel, by decide +kernel, by decide +kernel⟩ rfl d_Loom_build_104 rfl (Nat.le_of_ble_eq_true rfl) ⟨by decide, by decide⟩ ⟨by decide, by decide⟩ ⟨by decide, by decide⟩ (mv_noH hno _) (fun σ104 h104 => ?_)
      obtain ⟨h104, x104⟩ := h104
      have hN := bw_load (by unfold P3; omega) hK.2.1 hK.2.2.2.1 hPT hK.2.2.2.2.2 h104.1 h104.2
      refine mv_aload_n (pc := 107) B d_Loom_build_107 rfl 1 rfl ?_
      refine mv_getI (pc := 108) (ci := 7) (C := R_Program) (T := F_Program) (N := 19) B 10 rfl rfl (by decide) i_Program (B.2.2.2.1 _ k_346) rfl d_Loom_build_108 ?_
      exact mv_iret (pc := 111) B hr rfl d_Loom_build_111 (Nat.le_of_ble_eq_true rfl) (Nat.le_of_ble_eq_true rfl) (Or.inl ⟨_, rfl, hN.1, hG.tr hN.2, s9, hs9, (h104.1.1 48 10 (by omega)).trans ((congrFun hOS 10).trans ho9.2.2.2.1), ⟨ho9.fr (fun k hk => (h104.1.1 48 k (by omega)).trans (congrFun hOS k)) (fun o k ho hk => by rw [h104.1.2.2.1 o (by omega)]; exact congrFun (congrFun hbS o) k) (fun o k ho hk => by rw [h104.1.2.1 o (by omega)]; exact congrFun (congrFun haS o) k) (fun k hk => by rw [h104.1.2.1 (48 + 8) (by omega)]; exact congrFun (congrFun haS (48 + 8)) k), hTO.fr (P := 48) ((funext fun k => h104.1.1 48 k (by omega)).trans hOS) (fun j a b => (h104.1.2.1 (48 + j) (by omega)).trans (congrFun haS (48 + j))) (fun j a b => (h104.1.2.2.1 (48 + j) (by omega)).trans (congrFun hbS (48 + j)))⟩, hX48.fm h104.1, hkf9.fr (fun k hk => (h104.1.1 48 k (by omega)).trans (congrFun hOS k)) (fun o k ho hk => by rw [h104.1.2.1 o (by omega)]; exact congrFun (congrFun haS o) k) (fun k hk => by rw [h104.1.2.1 (48 + 7) (by omega)]; exact congrFun (congrFun haS (48 + 7)) k) (fun k hk => by rw [h104.1.2.1 (48 + 9) (by omega)]; exact congrFun (congrFun haS (48 + 9)) k) (fun k hk => by rw [h104.1.2.2.1 (48 + 10) (by omega)]; exact congrFun (congrFun hbS (48 + 10)) k), LDz.of (by decide) hM48 x104⟩)
    · skip
      have hs9 := (x39.resolve_left (fun z => by rw [h49] at z; exact absurd z.1 (by decide))).2
      refine mv_aload_n (pc := 52) B d_Loom_build_52 rfl 2 rfl ?_
      refine mv_aload_n (pc := 53) B d_Loom_build_53 rfl 2 rfl ?_
      refine mv_getR (pc := 54) (ci := 0) (C := R_Loom) (T := F_Loom) (N := 10) B 5 rfl rfl (by decide) i_Loom (B.2.2.2.1 _ k_491) rfl (hR.1 _ 5 _ rfl) d_Loom_build_54 ?_
      refine mv_getR (pc := 57) (ci := 1) (C := R_Weaver) (T := F_Weaver) (N := 16) B 2 rfl rfl (by decide) i_Weaver (B.2.2.2.1 _ k_231) rfl (hR.1 _ 2 _ rfl) d_Loom_build_57 ?_
      refine mv_getI (pc := 60) (ci := 5) (C := R_Faults) (T := F_Faults) (N := 2) B 0 rfl rfl (by decide) i_Faults (B.2.2.2.1 _ k_179) rfl d_Loom_build_60 ?_
      refine mv_putI (pc := 63) (ci := 0) (C := R_Loom) (T := F_Loom) (N := 10) B 2 rfl rfl (by decide) i_Loom t_Loom_ok n_Loom (B.2.2.2.1 _ k_488) rfl rfl rfl rfl d_Loom_build_63 ?_
      refine mv_aload_n (pc := 66) B d_Loom_build_66 rfl 2 rfl ?_
      refine mv_aload_n (pc := 67) B d_Loom_build_67 rfl 2 rfl ?_
      refine mv_getR (pc := 68) (ci := 0) (C := R_Loom) (T := F_Loom) (N := 10) B 5 rfl rfl (by decide) i_Loom (B.2.2.2.1 _ k_491) rfl (hR.1 _ 5 _ rfl) d_Loom_build_68 ?_
      refine mv_getR (pc := 71) (ci := 1) (C := R_Weaver) (T := F_Weaver) (N := 16) B 2 rfl rfl (by decide) i_Weaver (B.2.2.2.1 _ k_231) rfl (hR.1 _ 2 _ rfl) d_Loom_build_71 ?_
      refine mv_getI (pc := 74) (ci := 5) (C := R_Faults) (T := F_Faults) (N := 2) B 1 rfl rfl (by decide) i_Faults (B.2.2.2.1 _ k_181) rfl d_Loom_build_74 ?_
      refine mv_putI (pc := 77) (ci := 0) (C := R_Loom) (T := F_Loom) (N := 10) B 3 rfl rfl (by decide) i_Loom t_Loom_ok n_Loom (B.2.2.2.1 _ k_489) rfl rfl rfl rfl d_Loom_build_77 ?_
      refine mv_aload_n (pc := 80) B d_Loom_build_80 rfl 2 rfl ?_
      refine mv_aload_n (pc := 81) B d_Loom_build_81 rfl 2 rfl ?_
      refine mv_getR (pc := 82) (ci := 0) (C := R_Loom) (T := F_Loom) (N := 10) B 5 rfl rfl (by decide) i_Loom (B.2.2.2.1 _ k_491) rfl (hR.1 _ 5 _ rfl) d_Loom_build_82 ?_
      refine mv_getI (pc := 85) (ci := 1) (C := R_Weaver) (T := F_Weaver) (N := 16) B 4 rfl rfl (by decide) i_Weaver (B.2.2.2.1 _ k_234) rfl d_Loom_build_85 ?_
      refine mv_putI (pc := 88) (ci := 0) (C := R_Loom) (T := F_Loom) (N := 10) B 4 rfl rfl (by decide) i_Loom t_Loom_ok n_Loom (B.2.2.2.1 _ k_490) rfl rfl rfl rfl d_Loom_build_88 ?_
      exact mv_throw0 (pc := 91) (ik := 99) (ic := 101) B hlt hNs.2.1 (X := "java/lang/IllegalStateException") (by decide +kernel) (B.2.2.2.1 _ k_1717) (B.2.2.2.1 _ k_34) (B.2.2.2.1 _ k_1718) rfl (fun s9 hv9 a9 b9 c9 d9 => have hm9 := mt_ma B.2.2.2.1 hv9; mt_w_ise hm9 (hm9 _ k_1726) a9 b9 c9 d9) d_Loom_build_91 d_Loom_build_94 d_Loom_build_95 d_Loom_build_98 (mv_noH hno _) ⟨by decide, by decide⟩ ⟨by decide, by decide⟩ ⟨by decide, by decide⟩ (fun a9 => Or.inr ⟨_, a9, rfl, rfl, ((hK.s0 (by decide)).s0 (by decide)).s0 (by decide), ((hG.tr GF.s0).tr GF.s0).tr GF.s0, hs9, hX48.s0.s0.s0, hM48.s0.s0.s0⟩)
set_option maxHeartbeats 4000000 in
set_option maxRecDepth 100000 in
theorem c_kb_Loom_build_b (l : Launch) {dA : FieldType → ClassId} {D : va_G} {al : Nat → Nat} {ext : mv_Sh} {sk sv : Nat → Nat} (hi : mv_inj (mg dA D al ext)) (σ : mv_H) (hlt : l.stackTraces = false) (k9 : Nat) (hC : LC ext σ 48 32768 512 k9) (hk : k9 ≤ 10240) : mv_C l y_Loom_build (Cond.code y_Loom_build b_Loom_build 3 (Option.some Jvm.ClassFile.FieldType.int) :: ma) ({ frames := 8, cells := 1, slots := 6, locals := 201 }) (mg dA D al ext) (mKt sk sv) [.ref (al 0)] σ (mv_Ti (fun v σ1 => LC ext σ1 32 32768 512 0 ∧ GF σ σ1 ∧ ∃ s, sOK (txT (cc σ k9) k9) = some s ∧ v = nI s.ops.length ∧ (SPq 32 s σ1 ∧ TreeOK 32 512 σ1) ∧ GP2 32 σ σ1 ∧ KFn (txT (cc σ k9) k9) 32 σ1 ∧ LDz 32 σ σ1) (fun X σ1 => X = "java/lang/IllegalStateException" ∧ LC ext σ1 48 32768 512 0 ∧ GF σ σ1 ∧ sOK (txT (cc σ k9) k9) = none ∧ GP2 32 σ σ1 ∧ MKp σ σ1)) := by
  refine mv_C.ofV (cc := b_Loom_build) (nL := 3) (ret := (Option.some Jvm.ClassFile.FieldType.int)) (by decide +kernel) rfl hi (Nat.le_of_ble_eq_true rfl) ?_
  intro p e s m below meth c B hNs hr hnm hno
  have hC9 := hC
  obtain ⟨hPP, hI, hR, hW, hPO, hLS⟩ := hC
  refine mv_aload_n (pc := 0) B d_Loom_build_0 rfl 0 rfl ?_
  refine mv_getR (pc := 1) (ci := 0) (C := R_Loom) (T := F_Loom) (N := 10) B 9 rfl rfl (by decide) i_Loom (B.2.2.2.1 _ k_495) rfl (hR.1 _ 9 _ rfl) d_Loom_build_1 ?_
  refine mv_getR (pc := 4) (ci := 9) (C := R_Machine) (T := F_Machine) (N := 13) B 0 rfl rfl (by decide) i_Machine (B.2.2.2.1 _ k_441) rfl hR.2.2 d_Loom_build_4 ?_
  refine mv_aload_n (pc := 7) B d_Loom_build_7 rfl 0 rfl ?_
  refine mv_getR (pc := 8) (ci := 0) (C := R_Loom) (T := F_Loom) (N := 10) B 6 rfl rfl (by decide) i_Loom (B.2.2.2.1 _ k_492) rfl (hR.1 _ 6 _ rfl) d_Loom_build_8 ?_
  refine mv_acmp_ne (pc := 11) (tgt := 21) B d_Loom_build_11 rfl (fun h11 => ?_) (fun h11 => ?_)
  · skip
    refine mv_aload_n (pc := 21) B d_Loom_build_21 rfl 0 rfl ?_
    refine mv_getR (pc := 22) (ci := 0) (C := R_Loom) (T := F_Loom) (N := 10) B 6 rfl rfl (by decide) i_Loom (B.2.2.2.1 _ k_492) rfl (hR.1 _ 6 _ rfl) d_Loom_build_22 ?_
    refine mv_astore_n (pc := 25) B d_Loom_build_25 rfl (by decide) rfl ?_
    refine mv_aload_n (pc := 26) B d_Loom_build_26 rfl 1 rfl ?_
    refine mv_getR (pc := 27) (ci := 0) (C := R_Loom) (T := F_Loom) (N := 10) B 5 rfl rfl (by decide) i_Loom (B.2.2.2.1 _ k_491) rfl (hR.1 _ 5 _ rfl) d_Loom_build_27 ?_
    refine mv_aload_n (pc := 30) B d_Loom_build_30 rfl 1 rfl ?_
    refine mv_getR (pc := 31) (ci := 0) (C := R_Loom) (T := F_Loom) (N := 10) B 0 rfl rfl (by decide) i_Loom (B.2.2.2.1 _ k_486) rfl (hR.1 _ 0 _ rfl) d_Loom_build_31 ?_
    refine mv_aload_n (pc := 34) B d_Loom_build_34 rfl 1 rfl ?_
    refine mv_getI (pc := 35) (ci := 0) (C := R_Loom) (T := F_Loom) (N := 10) B 1 rfl rfl (by decide) i_Loom (B.2.2.2.1 _ k_487) rfl d_Loom_build_35 ?_
    refine mv_aload_n (pc := 38) B d_Loom_build_38 rfl 0 rfl ?_
    refine mv_callVi (pc := 39) (n := 3) (ci := 1) (C := R_Weaver) B (mK_ok sk sv) hNs.1 rfl rfl (c_kw_Weaver_weave_a l hi _ k9 _ hR.1 (Ph_a hR.1) hI.1 hI.2.1 hI.2.2 (byt_of hI.2.2) hW.1 hW.2.1 hW.2.2.1 hW.2.2.2.1 hW.2.2.2.2 (by omega) hk (Or.inl rfl)) rfl (ma_goodc kc_Weaver_weave) (B.2.2.2.1 _ k_776) (B.2.2.2.1 _ k_777) (B.2.2.2.1 _ k_778) (B.2.2.2.1 _ k_2) ⟨by decide +kernel, by decide +kernel, by decide +kernel⟩ rfl d_Loom_build_39 rfl (Nat.le_of_ble_eq_true rfl) ⟨by decide, by decide⟩ ⟨by decide, by decide⟩ ⟨by decide, by decide⟩ (mv_noH hno _) (fun v39 σ39 h39 => ?_)
    obtain ⟨h39, x39⟩ := h39
    have hV := h39.vt
    obtain ⟨hWP, th, sl, hTh, ho0, ho1, hv⟩ := h39
    refine mv_istore_n (pc := 42) B d_Loom_build_42 rfl (by decide) rfl ?_
    refine mv_aload_n (pc := 43) B d_Loom_build_43 rfl 2 rfl ?_
    refine mv_iconst (pc := 44) (v := 0) B d_Loom_build_44 (by decide) ?_
    refine mv_putI (pc := 45) (ci := 0) (C := R_Loom) (T := F_Loom) (N := 10) B 1 rfl rfl (by decide) i_Loom t_Loom_ok n_Loom (B.2.2.2.1 _ k_487) rfl rfl rfl rfl d_Loom_build_45 ?_
    refine mv_gen (fun S48 eS48 => ?_)
    have hK9 := bw_keep (by decide) (by decide) hC9 hV hWP
    rw [← eS48] at hK9
    obtain ⟨hK, hG⟩ := hK9
    have hR := hK.2.2.1
    have hThS : Th 32 S48 th sl := hTh.fr (funext fun k => by rw [eS48]; exact mv_si_o _ _ (by omega)) (by rw [eS48]; rfl) (by rw [eS48]; rfl)
    have hOS : mv_i S48 32 = mv_i σ39 32 := by rw [eS48]; exact funext fun k => mv_si_o _ _ (by omega)
    have haS : mv_a S48 = mv_a σ39 := by rw [eS48]; rfl
    have hbS : mv_b S48 = mv_b σ39 := by rw [eS48]; rfl
    have hX48 : GP2 32 σ S48 := by rw [eS48]; exact (GP2.vt (by decide) hV).s0
    have hM48 : MKp σ S48 := by rw [eS48]; exact (MKp.vt (T := 32) (by decide) hV).s0
    clear eS48
    refine mv_iload_n (pc := 48) B d_Loom_build_48 rfl 0 rfl ?_
    refine mv_if_ne (pc := 49) (tgt := 99) B d_Loom_build_49 rfl (fun h49 => ?_) (fun h49 => ?_)
    · skip
      obtain ⟨-, s9, hs9, ho9, hkf9⟩ := x39.resolve_right (fun z => h49 z.1)
      obtain ⟨-, -, hTO, hCO⟩ := hv.resolve_left (fun z => h49 z.1)
      have hPT : PO 32 32768 512 S48 := PO.fr (σ := σ39) ⟨th, sl, ⟨hTh, Or.inr ⟨hTO, hCO⟩⟩, ho0, ho1, fun q => absurd q (by decide)⟩ hOS (fun j _ _ => by rw [haS]) (fun _ _ => by rw [hbS])
      refine mv_aload_n (pc := 99) B d_Loom_build_99 rfl 2 rfl ?_
      refine mv_getR (pc := 100) (ci := 0) (C := R_Loom) (T := F_Loom) (N := 10) B 9 rfl rfl (by decide) i_Loom (B.2.2.2.1 _ k_495) rfl (hR.1 _ 9 _ rfl) d_Loom_build_100 ?_
      refine mv_aload_n (pc := 103) B d_Loom_build_103 rfl 1 rfl ?_
      refine mv_callVv (pc := 104) (n := 1) (ci := 9) (C := R_Machine) B (mK_ok sk sv) hNs.1 rfl rfl (c_kl_Machine_load_a l hi _ hR.1 (Ph_a hR.1) th sl hThS) rfl (ma_goodc kc_Machine_load) (B.2.2.2.1 _ k_1549) (B.2.2.2.1 _ k_1550) (B.2.2.2.1 _ k_1551) (B.2.2.2.1 _ k_11) ⟨by decide +kernel, by decide +kernel, by decide +kernel⟩ rfl d_Loom_build_104 rfl (Nat.le_of_ble_eq_true rfl) ⟨by decide, by decide⟩ ⟨by decide, by decide⟩ ⟨by decide, by decide⟩ (mv_noH hno _) (fun σ104 h104 => ?_)
      obtain ⟨h104, x104⟩ := h104
      have hN := bw_load (by unfold P3; omega) hK.2.1 hK.2.2.2.1 hPT hK.2.2.2.2.2 h104.1 h104.2
      refine mv_aload_n (pc := 107) B d_Loom_build_107 rfl 1 rfl ?_
      refine mv_getI (pc := 108) (ci := 7) (C := R_Program) (T := F_Program) (N := 19) B 10 rfl rfl (by decide) i_Program (B.2.2.2.1 _ k_346) rfl d_Loom_build_108 ?_
      exact mv_iret (pc := 111) B hr rfl d_Loom_build_111 (Nat.le_of_ble_eq_true rfl) (Nat.le_of_ble_eq_true rfl) (Or.inl ⟨_, rfl, hN.1, hG.tr hN.2, s9, hs9, (h104.1.1 32 10 (by omega)).trans ((congrFun hOS 10).trans ho9.2.2.2.1), ⟨ho9.fr (fun k hk => (h104.1.1 32 k (by omega)).trans (congrFun hOS k)) (fun o k ho hk => by rw [h104.1.2.2.1 o (by omega)]; exact congrFun (congrFun hbS o) k) (fun o k ho hk => by rw [h104.1.2.1 o (by omega)]; exact congrFun (congrFun haS o) k) (fun k hk => by rw [h104.1.2.1 (32 + 8) (by omega)]; exact congrFun (congrFun haS (32 + 8)) k), hTO.fr (P := 32) ((funext fun k => h104.1.1 32 k (by omega)).trans hOS) (fun j a b => (h104.1.2.1 (32 + j) (by omega)).trans (congrFun haS (32 + j))) (fun j a b => (h104.1.2.2.1 (32 + j) (by omega)).trans (congrFun hbS (32 + j)))⟩, hX48.fm h104.1, hkf9.fr (fun k hk => (h104.1.1 32 k (by omega)).trans (congrFun hOS k)) (fun o k ho hk => by rw [h104.1.2.1 o (by omega)]; exact congrFun (congrFun haS o) k) (fun k hk => by rw [h104.1.2.1 (32 + 7) (by omega)]; exact congrFun (congrFun haS (32 + 7)) k) (fun k hk => by rw [h104.1.2.1 (32 + 9) (by omega)]; exact congrFun (congrFun haS (32 + 9)) k) (fun k hk => by rw [h104.1.2.2.1 (32 + 10) (by omega)]; exact congrFun (congrFun hbS (32 + 10)) k), LDz.of (by decide) hM48 x104⟩)
    · skip
      have hs9 := (x39.resolve_left (fun z => by rw [h49] at z; exact absurd z.1 (by decide))).2
      refine mv_aload_n (pc := 52) B d_Loom_build_52 rfl 2 rfl ?_
      refine mv_aload_n (pc := 53) B d_Loom_build_53 rfl 2 rfl ?_
      refine mv_getR (pc := 54) (ci := 0) (C := R_Loom) (T := F_Loom) (N := 10) B 5 rfl rfl (by decide) i_Loom (B.2.2.2.1 _ k_491) rfl (hR.1 _ 5 _ rfl) d_Loom_build_54 ?_
      refine mv_getR (pc := 57) (ci := 1) (C := R_Weaver) (T := F_Weaver) (N := 16) B 2 rfl rfl (by decide) i_Weaver (B.2.2.2.1 _ k_231) rfl (hR.1 _ 2 _ rfl) d_Loom_build_57 ?_
      refine mv_getI (pc := 60) (ci := 5) (C := R_Faults) (T := F_Faults) (N := 2) B 0 rfl rfl (by decide) i_Faults (B.2.2.2.1 _ k_179) rfl d_Loom_build_60 ?_
      refine mv_putI (pc := 63) (ci := 0) (C := R_Loom) (T := F_Loom) (N := 10) B 2 rfl rfl (by decide) i_Loom t_Loom_ok n_Loom (B.2.2.2.1 _ k_488) rfl rfl rfl rfl d_Loom_build_63 ?_
      refine mv_aload_n (pc := 66) B d_Loom_build_66 rfl 2 rfl ?_
      refine mv_aload_n (pc := 67) B d_Loom_build_67 rfl 2 rfl ?_
      refine mv_getR (pc := 68) (ci := 0) (C := R_Loom) (T := F_Loom) (N := 10) B 5 rfl rfl (by decide) i_Loom (B.2.2.2.1 _ k_491) rfl (hR.1 _ 5 _ rfl) d_Loom_build_68 ?_
      refine mv_getR (pc := 71) (ci := 1) (C := R_Weaver) (T := F_Weaver) (N := 16) B 2 rfl rfl (by decide) i_Weaver (B.2.2.2.1 _ k_231) rfl (hR.1 _ 2 _ rfl) d_Loom_build_71 ?_
      refine mv_getI (pc := 74) (ci := 5) (C := R_Faults) (T := F_Faults) (N := 2) B 1 rfl rfl (by decide) i_Faults (B.2.2.2.1 _ k_181) rfl d_Loom_build_74 ?_
      refine mv_putI (pc := 77) (ci := 0) (C := R_Loom) (T := F_Loom) (N := 10) B 3 rfl rfl (by decide) i_Loom t_Loom_ok n_Loom (B.2.2.2.1 _ k_489) rfl rfl rfl rfl d_Loom_build_77 ?_
      refine mv_aload_n (pc := 80) B d_Loom_build_80 rfl 2 rfl ?_
      refine mv_aload_n (pc := 81) B d_Loom_build_81 rfl 2 rfl ?_
      refine mv_getR (pc := 82) (ci := 0) (C := R_Loom) (T := F_Loom) (N := 10) B 5 rfl rfl (by decide) i_Loom (B.2.2.2.1 _ k_491) rfl (hR.1 _ 5 _ rfl) d_Loom_build_82 ?_
      refine mv_getI (pc := 85) (ci := 1) (C := R_Weaver) (T := F_Weaver) (N := 16) B 4 rfl rfl (by decide) i_Weaver (B.2.2.2.1 _ k_234) rfl d_Loom_build_85 ?_
      refine mv_putI (pc := 88) (ci := 0) (C := R_Loom) (T := F_Loom) (N := 10) B 4 rfl rfl (by decide) i_Loom t_Loom_ok n_Loom (B.2.2.2.1 _ k_490) rfl rfl rfl rfl d_Loom_build_88 ?_
      exact mv_throw0 (pc := 91) (ik := 99) (ic := 101) B hlt hNs.2.1 (X := "java/lang/IllegalStateException") (by decide +kernel) (B.2.2.2.1 _ k_1717) (B.2.2.2.1 _ k_34) (B.2.2.2.1 _ k_1718) rfl (fun s9 hv9 a9 b9 c9 d9 => have hm9 := mt_ma B.2.2.2.1 hv9; mt_w_ise hm9 (hm9 _ k_1726) a9 b9 c9 d9) d_Loom_build_91 d_Loom_build_94 d_Loom_build_95 d_Loom_build_98 (mv_noH hno _) ⟨by decide, by decide⟩ ⟨by decide, by decide⟩ ⟨by decide, by decide⟩ (fun a9 => Or.inr ⟨_, a9, rfl, rfl, ((hK.s0 (by decide)).s0 (by decide)).s0 (by decide), ((hG.tr GF.s0).tr GF.s0).tr GF.s0, hs9, hX48.s0.s0.s0, hM48.s0.s0.s0⟩)
  · skip
    exact absurd (hi 48 32 (mb_lt (by decide)) (mb_lt (by decide)) h11) (by decide)
set_option maxHeartbeats 4000000 in
set_option maxRecDepth 100000 in
theorem c_kb_Loom_build_c (l : Launch) {dA : FieldType → ClassId} {D : va_G} {al : Nat → Nat} {sk sv : Nat → Nat} (hi : mv_inj (mg dA D al me)) (σ : mv_H) (hlt : l.stackTraces = false) (k9 : Nat) (hC : LC me σ 145 8192 48 k9) (hk : k9 ≤ 10240) : mv_C l y_Loom_build (Cond.code y_Loom_build b_Loom_build 3 (Option.some Jvm.ClassFile.FieldType.int) :: ma) ({ frames := 8, cells := 1, slots := 6, locals := 201 }) (mg dA D al me) (mKt sk sv) [.ref (al 0)] σ (mv_Ti (fun v σ1 => LC me σ1 32 32768 512 0 ∧ GF σ σ1 ∧ ∃ s, sOK (txT (cc σ k9) k9) = some s ∧ v = nI s.ops.length ∧ (SPq 32 s σ1 ∧ TreeOK 32 512 σ1) ∧ GP2 32 σ σ1 ∧ KFn (txT (cc σ k9) k9) 32 σ1 ∧ LDz 32 σ σ1) (fun X σ1 => X = "java/lang/IllegalStateException" ∧ LC me σ1 145 8192 48 0 ∧ GF σ σ1 ∧ sOK (txT (cc σ k9) k9) = none ∧ GP2 32 σ σ1 ∧ MKp σ σ1)) := by
  refine mv_C.ofV (cc := b_Loom_build) (nL := 3) (ret := (Option.some Jvm.ClassFile.FieldType.int)) (by decide +kernel) rfl hi (Nat.le_of_ble_eq_true rfl) ?_
  intro p e s m below meth c B hNs hr hnm hno
  have hC9 := hC
  obtain ⟨hPP, hI, hR, hW, hPO, hLS⟩ := hC
  refine mv_aload_n (pc := 0) B d_Loom_build_0 rfl 0 rfl ?_
  refine mv_getR (pc := 1) (ci := 0) (C := R_Loom) (T := F_Loom) (N := 10) B 9 rfl rfl (by decide) i_Loom (B.2.2.2.1 _ k_495) rfl (hR.1 _ 9 _ rfl) d_Loom_build_1 ?_
  refine mv_getR (pc := 4) (ci := 9) (C := R_Machine) (T := F_Machine) (N := 13) B 0 rfl rfl (by decide) i_Machine (B.2.2.2.1 _ k_441) rfl hR.2.2 d_Loom_build_4 ?_
  refine mv_aload_n (pc := 7) B d_Loom_build_7 rfl 0 rfl ?_
  refine mv_getR (pc := 8) (ci := 0) (C := R_Loom) (T := F_Loom) (N := 10) B 6 rfl rfl (by decide) i_Loom (B.2.2.2.1 _ k_492) rfl (hR.1 _ 6 _ rfl) d_Loom_build_8 ?_
  refine mv_acmp_ne (pc := 11) (tgt := 21) B d_Loom_build_11 rfl (fun h11 => ?_) (fun h11 => ?_)
  · skip
    refine mv_aload_n (pc := 21) B d_Loom_build_21 rfl 0 rfl ?_
    refine mv_getR (pc := 22) (ci := 0) (C := R_Loom) (T := F_Loom) (N := 10) B 6 rfl rfl (by decide) i_Loom (B.2.2.2.1 _ k_492) rfl (hR.1 _ 6 _ rfl) d_Loom_build_22 ?_
    refine mv_astore_n (pc := 25) B d_Loom_build_25 rfl (by decide) rfl ?_
    refine mv_aload_n (pc := 26) B d_Loom_build_26 rfl 1 rfl ?_
    refine mv_getR (pc := 27) (ci := 0) (C := R_Loom) (T := F_Loom) (N := 10) B 5 rfl rfl (by decide) i_Loom (B.2.2.2.1 _ k_491) rfl (hR.1 _ 5 _ rfl) d_Loom_build_27 ?_
    refine mv_aload_n (pc := 30) B d_Loom_build_30 rfl 1 rfl ?_
    refine mv_getR (pc := 31) (ci := 0) (C := R_Loom) (T := F_Loom) (N := 10) B 0 rfl rfl (by decide) i_Loom (B.2.2.2.1 _ k_486) rfl (hR.1 _ 0 _ rfl) d_Loom_build_31 ?_
    refine mv_aload_n (pc := 34) B d_Loom_build_34 rfl 1 rfl ?_
    refine mv_getI (pc := 35) (ci := 0) (C := R_Loom) (T := F_Loom) (N := 10) B 1 rfl rfl (by decide) i_Loom (B.2.2.2.1 _ k_487) rfl d_Loom_build_35 ?_
    refine mv_aload_n (pc := 38) B d_Loom_build_38 rfl 0 rfl ?_
    refine mv_callVi (pc := 39) (n := 3) (ci := 1) (C := R_Weaver) B (mK_ok sk sv) hNs.1 rfl rfl (c_kw_Weaver_weave_a l hi _ k9 _ hR.1 (Ph_a hR.1) hI.1 hI.2.1 hI.2.2 (byt_of hI.2.2) hW.1 hW.2.1 hW.2.2.1 hW.2.2.2.1 hW.2.2.2.2 (by omega) hk (Or.inl rfl)) rfl (ma_goodc kc_Weaver_weave) (B.2.2.2.1 _ k_776) (B.2.2.2.1 _ k_777) (B.2.2.2.1 _ k_778) (B.2.2.2.1 _ k_2) ⟨by decide +kernel, by decide +kernel, by decide +kernel⟩ rfl d_Loom_build_39 rfl (Nat.le_of_ble_eq_true rfl) ⟨by decide, by decide⟩ ⟨by decide, by decide⟩ ⟨by decide, by decide⟩ (mv_noH hno _) (fun v39 σ39 h39 => ?_)
    obtain ⟨h39, x39⟩ := h39
    have hV := h39.vt
    obtain ⟨hWP, th, sl, hTh, ho0, ho1, hv⟩ := h39
    refine mv_istore_n (pc := 42) B d_Loom_build_42 rfl (by decide) rfl ?_
    refine mv_aload_n (pc := 43) B d_Loom_build_43 rfl 2 rfl ?_
    refine mv_iconst (pc := 44) (v := 0) B d_Loom_build_44 (by decide) ?_
    refine mv_putI (pc := 45) (ci := 0) (C := R_Loom) (T := F_Loom) (N := 10) B 1 rfl rfl (by decide) i_Loom t_Loom_ok n_Loom (B.2.2.2.1 _ k_487) rfl rfl rfl rfl d_Loom_build_45 ?_
    refine mv_gen (fun S48 eS48 => ?_)
    have hK9 := bw_keep (by decide) (by decide) hC9 hV hWP
    rw [← eS48] at hK9
    obtain ⟨hK, hG⟩ := hK9
    have hR := hK.2.2.1
    have hThS : Th 32 S48 th sl := hTh.fr (funext fun k => by rw [eS48]; exact mv_si_o _ _ (by omega)) (by rw [eS48]; rfl) (by rw [eS48]; rfl)
    have hOS : mv_i S48 32 = mv_i σ39 32 := by rw [eS48]; exact funext fun k => mv_si_o _ _ (by omega)
    have haS : mv_a S48 = mv_a σ39 := by rw [eS48]; rfl
    have hbS : mv_b S48 = mv_b σ39 := by rw [eS48]; rfl
    have hX48 : GP2 32 σ S48 := by rw [eS48]; exact (GP2.vt (by decide) hV).s0
    have hM48 : MKp σ S48 := by rw [eS48]; exact (MKp.vt (T := 32) (by decide) hV).s0
    clear eS48
    refine mv_iload_n (pc := 48) B d_Loom_build_48 rfl 0 rfl ?_
    refine mv_if_ne (pc := 49) (tgt := 99) B d_Loom_build_49 rfl (fun h49 => ?_) (fun h49 => ?_)
    · skip
      obtain ⟨-, s9, hs9, ho9, hkf9⟩ := x39.resolve_right (fun z => h49 z.1)
      obtain ⟨-, -, hTO, hCO⟩ := hv.resolve_left (fun z => h49 z.1)
      have hPT : PO 32 32768 512 S48 := PO.fr (σ := σ39) ⟨th, sl, ⟨hTh, Or.inr ⟨hTO, hCO⟩⟩, ho0, ho1, fun q => absurd q (by decide)⟩ hOS (fun j _ _ => by rw [haS]) (fun _ _ => by rw [hbS])
      refine mv_aload_n (pc := 99) B d_Loom_build_99 rfl 2 rfl ?_
      refine mv_getR (pc := 100) (ci := 0) (C := R_Loom) (T := F_Loom) (N := 10) B 9 rfl rfl (by decide) i_Loom (B.2.2.2.1 _ k_495) rfl (hR.1 _ 9 _ rfl) d_Loom_build_100 ?_
      refine mv_aload_n (pc := 103) B d_Loom_build_103 rfl 1 rfl ?_
      refine mv_callVv (pc := 104) (n := 1) (ci := 9) (C := R_Machine) B (mK_ok sk sv) hNs.1 rfl rfl (c_kl_Machine_load_a l hi _ hR.1 (Ph_a hR.1) th sl hThS) rfl (ma_goodc kc_Machine_load) (B.2.2.2.1 _ k_1549) (B.2.2.2.1 _ k_1550) (B.2.2.2.1 _ k_1551) (B.2.2.2.1 _ k_11) ⟨by decide +kernel, by decide +kernel, by decide +kernel⟩ rfl d_Loom_build_104 rfl (Nat.le_of_ble_eq_true rfl) ⟨by decide, by decide⟩ ⟨by decide, by decide⟩ ⟨by decide, by decide⟩ (mv_noH hno _) (fun σ104 h104 => ?_)
      obtain ⟨h104, x104⟩ := h104
      have hN := bw_load (by unfold P3; omega) hK.2.1 hK.2.2.2.1 hPT hK.2.2.2.2.2 h104.1 h104.2
      refine mv_aload_n (pc := 107) B d_Loom_build_107 rfl 1 rfl ?_
      refine mv_getI (pc := 108) (ci := 7) (C := R_Program) (T := F_Program) (N := 19) B 10 rfl rfl (by decide) i_Program (B.2.2.2.1 _ k_346) rfl d_Loom_build_108 ?_
      exact mv_iret (pc := 111) B hr rfl d_Loom_build_111 (Nat.le_of_ble_eq_true rfl) (Nat.le_of_ble_eq_true rfl) (Or.inl ⟨_, rfl, hN.1, hG.tr hN.2, s9, hs9, (h104.1.1 32 10 (by omega)).trans ((congrFun hOS 10).trans ho9.2.2.2.1), ⟨ho9.fr (fun k hk => (h104.1.1 32 k (by omega)).trans (congrFun hOS k)) (fun o k ho hk => by rw [h104.1.2.2.1 o (by omega)]; exact congrFun (congrFun hbS o) k) (fun o k ho hk => by rw [h104.1.2.1 o (by omega)]; exact congrFun (congrFun haS o) k) (fun k hk => by rw [h104.1.2.1 (32 + 8) (by omega)]; exact congrFun (congrFun haS (32 + 8)) k), hTO.fr (P := 32) ((funext fun k => h104.1.1 32 k (by omega)).trans hOS) (fun j a b => (h104.1.2.1 (32 + j) (by omega)).trans (congrFun haS (32 + j))) (fun j a b => (h104.1.2.2.1 (32 + j) (by omega)).trans (congrFun hbS (32 + j)))⟩, hX48.fm h104.1, hkf9.fr (fun k hk => (h104.1.1 32 k (by omega)).trans (congrFun hOS k)) (fun o k ho hk => by rw [h104.1.2.1 o (by omega)]; exact congrFun (congrFun haS o) k) (fun k hk => by rw [h104.1.2.1 (32 + 7) (by omega)]; exact congrFun (congrFun haS (32 + 7)) k) (fun k hk => by rw [h104.1.2.1 (32 + 9) (by omega)]; exact congrFun (congrFun haS (32 + 9)) k) (fun k hk => by rw [h104.1.2.2.1 (32 + 10) (by omega)]; exact congrFun (congrFun hbS (32 + 10)) k), LDz.of (by decide) hM48 x104⟩)
    · skip
      have hs9 := (x39.resolve_left (fun z => by rw [h49] at z; exact absurd z.1 (by decide))).2
      refine mv_aload_n (pc := 52) B d_Loom_build_52 rfl 2 rfl ?_
      refine mv_aload_n (pc := 53) B d_Loom_build_53 rfl 2 rfl ?_
      refine mv_getR (pc := 54) (ci := 0) (C := R_Loom) (T := F_Loom) (N := 10) B 5 rfl rfl (by decide) i_Loom (B.2.2.2.1 _ k_491) rfl (hR.1 _ 5 _ rfl) d_Loom_build_54 ?_
      refine mv_getR (pc := 57) (ci := 1) (C := R_Weaver) (T := F_Weaver) (N := 16) B 2 rfl rfl (by decide) i_Weaver (B.2.2.2.1 _ k_231) rfl (hR.1 _ 2 _ rfl) d_Loom_build_57 ?_
      refine mv_getI (pc := 60) (ci := 5) (C := R_Faults) (T := F_Faults) (N := 2) B 0 rfl rfl (by decide) i_Faults (B.2.2.2.1 _ k_179) rfl d_Loom_build_60 ?_
      refine mv_putI (pc := 63) (ci := 0) (C := R_Loom) (T := F_Loom) (N := 10) B 2 rfl rfl (by decide) i_Loom t_Loom_ok n_Loom (B.2.2.2.1 _ k_488) rfl rfl rfl rfl d_Loom_build_63 ?_
      refine mv_aload_n (pc := 66) B d_Loom_build_66 rfl 2 rfl ?_
      refine mv_aload_n (pc := 67) B d_Loom_build_67 rfl 2 rfl ?_
      refine mv_getR (pc := 68) (ci := 0) (C := R_Loom) (T := F_Loom) (N := 10) B 5 rfl rfl (by decide) i_Loom (B.2.2.2.1 _ k_491) rfl (hR.1 _ 5 _ rfl) d_Loom_build_68 ?_
      refine mv_getR (pc := 71) (ci := 1) (C := R_Weaver) (T := F_Weaver) (N := 16) B 2 rfl rfl (by decide) i_Weaver (B.2.2.2.1 _ k_231) rfl (hR.1 _ 2 _ rfl) d_Loom_build_71 ?_
      refine mv_getI (pc := 74) (ci := 5) (C := R_Faults) (T := F_Faults) (N := 2) B 1 rfl rfl (by decide) i_Faults (B.2.2.2.1 _ k_181) rfl d_Loom_build_74 ?_
      refine mv_putI (pc := 77) (ci := 0) (C := R_Loom) (T := F_Loom) (N := 10) B 3 rfl rfl (by decide) i_Loom t_Loom_ok n_Loom (B.2.2.2.1 _ k_489) rfl rfl rfl rfl d_Loom_build_77 ?_
      refine mv_aload_n (pc := 80) B d_Loom_build_80 rfl 2 rfl ?_
      refine mv_aload_n (pc := 81) B d_Loom_build_81 rfl 2 rfl ?_
      refine mv_getR (pc := 82) (ci := 0) (C := R_Loom) (T := F_Loom) (N := 10) B 5 rfl rfl (by decide) i_Loom (B.2.2.2.1 _ k_491) rfl (hR.1 _ 5 _ rfl) d_Loom_build_82 ?_
      refine mv_getI (pc := 85) (ci := 1) (C := R_Weaver) (T := F_Weaver) (N := 16) B 4 rfl rfl (by decide) i_Weaver (B.2.2.2.1 _ k_234) rfl d_Loom_build_85 ?_
      refine mv_putI (pc := 88) (ci := 0) (C := R_Loom) (T := F_Loom) (N := 10) B 4 rfl rfl (by decide) i_Loom t_Loom_ok n_Loom (B.2.2.2.1 _ k_490) rfl rfl rfl rfl d_Loom_build_88 ?_
      exact mv_throw0 (pc := 91) (ik := 99) (ic := 101) B hlt hNs.2.1 (X := "java/lang/IllegalStateException") (by decide +kernel) (B.2.2.2.1 _ k_1717) (B.2.2.2.1 _ k_34) (B.2.2.2.1 _ k_1718) rfl (fun s9 hv9 a9 b9 c9 d9 => have hm9 := mt_ma B.2.2.2.1 hv9; mt_w_ise hm9 (hm9 _ k_1726) a9 b9 c9 d9) d_Loom_build_91 d_Loom_build_94 d_Loom_build_95 d_Loom_build_98 (mv_noH hno _) ⟨by decide, by decide⟩ ⟨by decide, by decide⟩ ⟨by decide, by decide⟩ (fun a9 => Or.inr ⟨_, a9, rfl, rfl, ((hK.s0 (by decide)).s0 (by decide)).s0 (by decide), ((hG.tr GF.s0).tr GF.s0).tr GF.s0, hs9, hX48.s0.s0.s0, hM48.s0.s0.s0⟩)
  · skip
    exact absurd (hi 145 32 (show 145 < (mb ++ me).length by decide) (mb_lt (by decide)) h11) (by decide)
