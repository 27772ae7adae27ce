/-! MachineLoom: build -/
theorem mb_lt {dA : FieldType → ClassId} {D : va_G} {al : Nat → Nat} {ext : mv_Sh} {i : Nat} (h : i < 143) : i < (mv_sh (mg dA D al ext)).length := by
  show i < (mb ++ ext).length
  rw [List.length_append]
  exact Nat.lt_of_lt_of_le h (Nat.le_add_right 143 ext.length)
/-- what weaving changes in all -/
abbrev VT (T : Nat) : mv_H → mv_H → Prop := Fr (fun o k => o = 2 ∨ o = 3 ∨ (o = 7 ∧ k = 5) ∨ o = 13 ∨ o = 21 ∨ o = 22 ∨ o = T ∨ (o = T + 11 ∧ k = 4)) (fun o => o = 4 ∨ o = 5 ∨ (8 ≤ o ∧ o ≤ 12) ∨ (14 ≤ o ∧ o ≤ 20) ∨ (23 ≤ o ∧ o ≤ 31) ∨ (T + 1 ≤ o ∧ o ≤ T + 9) ∨ (T + 12 ≤ o ∧ o ≤ T + 15)) (fun o => o = 6 ∨ o = 18 ∨ o = T + 5 ∨ o = T + 6 ∨ o = T + 10)
theorem VG.vt {T : Nat} {σ τ : mv_H} (h : VG T σ τ) : VT T σ τ := h.up (fun o k z => by omega) (fun o z => by omega) (fun o z => z)
theorem TrF.vt {T : Nat} {σ τ : mv_H} (h : TrF T σ τ) : VT T σ τ := h.up (fun o k z => by omega) (fun o z => by omega) (fun o z => absurd z id)
theorem WV.vt {T R M t : Nat} {σ τ : mv_H} {v : Int32} (h : WV T R M t σ v τ) : VT T (w_base T t σ) τ := by
  obtain ⟨-, th, sl, -, -, -, h⟩ := h
  rcases h with h | h
  · exact VG.vt h.2
  · obtain ⟨-, ⟨υ, h1, h2⟩, -⟩ := h
    exact Fr.tr (VG.vt h1) (TrF.vt h2)
theorem wb_rf {P T t : Nat} {σ : mv_H} (h : Rf P (mv_r σ)) (hP : PQ P) : Rf P (mv_r (w_base T t σ)) := by
  obtain ⟨h1, h2, h3⟩ := h
  refine ⟨mh_sr (mh_sr (mh_sr h1 rfl) rfl) rfl, Ph_sr hP (Ph_sr hP (Ph_sr hP h2 (by omega)) (by omega)) (by omega), ?_⟩
  show mv_u (mv_u (mv_u (mv_r σ) 2 5 (some T)) 22 3 (some T)) 3 4 (some t) 64 0 = some P
  rw [mv_u_ne _ _ (by omega), mv_u_ne _ _ (by omega), mv_u_ne _ _ (by omega)]
  exact h3
theorem wb_08 {T t : Nat} {σ : mv_H} : mv_r (w_base T t σ) 0 8 = mv_r σ 0 8 := by
  show mv_u (mv_u (mv_u (mv_r σ) 2 5 (some T)) 22 3 (some T)) 3 4 (some t) 0 8 = _
  rw [mv_u_ne _ _ (by omega), mv_u_ne _ _ (by omega), mv_u_ne _ _ (by omega)]
theorem wb_lsh {ext : mv_Sh} {T t : Nat} {σ τ : mv_H} (h : LSh ext σ) (hT : T = 32 ∨ T = 48) (f : VT T (w_base T t σ) τ) : LSh ext τ := by
  have q : PQ 145 := Or.inr (Or.inr rfl)
  exact h.fr (by rw [f.2.2.2.2]; exact wb_08) (fun g => by rw [f.2.2.2.2]; exact Ph_sr q (Ph_sr q (Ph_sr q g (by omega)) (by omega)) (by omega))
    (fun g => PO.fF (σ := w_base T t σ) g f (fun k z => by omega) (fun j _ _ z => by omega) (fun j _ z => by omega))
theorem wb_gf {T t : Nat} {σ τ : mv_H} (hT : T = 32 ∨ T = 48 ∨ T = 145) (f : VT T (w_base T t σ) τ) : GF σ τ := by
  have g : GF σ (w_base T t σ) := ((GF.sr (by omega)).tr (GF.sr (by omega))).tr (GF.sr (by omega))
  exact g.tr (GF.fF f (fun o k a b z => by omega) (fun o a b z => by omega) (fun o a b z => by omega) (fun z => by omega))
theorem LC.s0 {ext : mv_Sh} {P R M n k : Nat} {σ : mv_H} {v : Int32} (h : LC ext σ P R M n) (hk : ¬ k = 1) : LC ext (mv_si σ 0 k v) P R M n :=
  h.fF (pi := fun o j => o = 0 ∧ j = k) (pa := fun _ => False) (pb := fun _ => False) (Fr.rf.si ⟨rfl, rfl⟩) (by omega) id id id id (fun _ z => by omega) id id (fun P j q z => by have := q.b; omega) (fun _ _ _ _ _ => id) (fun _ _ _ _ => id)
theorem GF.s0 {σ : mv_H} {k : Nat} {v : Int32} : GF σ (mv_si σ 0 k v) := GF.fF (pi := fun o j => o = 0) (pa := fun _ => False) (pb := fun _ => False) (Fr.rf.si rfl) (fun o k a b z => by omega) (fun _ _ _ => id) (fun _ _ _ => id) id
/-- the running program is not the one that is woven -/
theorem bw_keep {ext : mv_Sh} {σ τ : mv_H} {T P R M k : Nat} (hT : T = 32 ∨ T = 48) (hne : ¬ P = T) (hC : LC ext σ P R M k) (f : VT T (w_base T 1 σ) τ) (hW : WP τ) : LC ext (mv_si τ 0 1 0) P R M 0 ∧ GF σ (mv_si τ 0 1 0) := by
  obtain ⟨h1, h2, h3, h4, h5, h6⟩ := hC
  have q := h1.b
  have q3 : P = 32 ∨ P = 48 ∨ P = 145 := h1
  refine ⟨⟨h1, ⟨?_, by omega, ?_⟩, ?_, ?_, ?_, ?_⟩, (wb_gf (by omega) f).tr GF.s0⟩
  · show (mv_i (mv_si τ 0 1 0) 0 1).toInt = _
    rw [mv_si_s]; rfl
  · intro i hi
    show -128 ≤ (mv_a τ 1 i).toInt ∧ (mv_a τ 1 i).toInt ≤ 127
    rw [f.2.1 1 (by omega)]
    exact h2.2.2 i hi
  · show Rf P (mv_r τ)
    rw [f.2.2.2.2]
    exact wb_rf h3 h1
  · exact hW.fr rfl rfl rfl (funext fun k => mv_si_o _ _ (by omega)) rfl rfl
  · exact (PO.fF (σ := w_base T 1 σ) h5 f (fun k z => by omega) (fun j _ _ z => by omega) (fun j _ z => by omega)).fr (funext fun k => mv_si_o _ _ (by omega)) (fun _ _ _ => rfl) (fun _ _ => rfl)
  · exact (wb_lsh h6 hT f).fr rfl id (fun g => g.fr (funext fun k => mv_si_o _ _ (by omega)) (fun _ _ _ => rfl) (fun _ _ => rfl))
/-- a program is loaded -/
theorem bw_load {ext : mv_Sh} {σ τ : mv_H} {T R M k : Nat} (h1 : P3 T) (hI : In σ k) (hW : WP σ) (hO : PO T R M σ) (hL : LSh ext σ) (f : FM (mv_sr σ 64 0 (some T)) τ) (hR : Rf T (mv_r τ)) : LC ext τ T R M k ∧ GF σ τ := by
  have q := h1.b
  refine ⟨⟨h1, hI.fr (f.1 _ _ (by omega)) (f.2.1 _ (by omega)), hR, hW.fr (f.2.1 _ (by omega)) (f.2.1 _ (by omega)) (f.2.2.1 _ (by omega)) (funext fun k => f.1 _ _ (by omega)) (f.2.1 _ (by omega)) (f.2.1 _ (by omega)), PO.fF (σ := mv_sr σ 64 0 (some T)) hO f (fun k z => by omega) (fun j _ _ z => by omega) (fun j _ z => by omega), hL.fr ?_ (fun g => ?_) (fun g => PO.fF (σ := mv_sr σ 64 0 (some T)) g f (fun k z => by omega) (fun j _ _ z => by omega) (fun j _ z => by omega))⟩, (GF.sr (by omega)).tr (GF.fm f)⟩
  · rw [f.2.2.2.2]
    show mv_u (mv_r σ) 64 0 (some T) 0 8 = _
    exact mv_u_ne _ _ (by omega)
  · rw [f.2.2.2.2]
    exact g.sr rfl

def y_Loom_build : MethodName := ⟨"MachineLoom", "build", "()I"⟩
abbrev b_Loom_build : ByteArray := prog_1_method_5_code
theorem kc_Loom_build : Cond.code y_Loom_build b_Loom_build 3 (Option.some Jvm.ClassFile.FieldType.int) ∈ ma := ma_of (tb_8 _ (List.mem_of_getElem? (i := 36) rfl)) rfl
theorem k_776 : (Jvm.Cond.methodLink "MachineLoom" (77 : Nat) ({ cls := "MachineLoom$Weaver", name := "weave", desc := "([BILMachineLoom$Program;)Z" } : Jvm.MethodName)) ∈ ma := ma_of (tb_4 _ (List.mem_of_getElem? (i := 56) rfl)) rfl
theorem k_777 : (Jvm.Cond.instanceMethod ({ cls := "MachineLoom$Weaver", name := "weave", desc := "([BILMachineLoom$Program;)Z" } : Jvm.MethodName)) ∈ ma := ma_of (tb_4 _ (List.mem_of_getElem? (i := 57) rfl)) rfl
theorem k_778 : (Jvm.Cond.selects "MachineLoom$Weaver" ({ cls := "MachineLoom$Weaver", name := "weave", desc := "([BILMachineLoom$Program;)Z" } : Jvm.MethodName) ({ cls := "MachineLoom$Weaver", name := "weave", desc := "([BILMachineLoom$Program;)Z" } : Jvm.MethodName)) ∈ ma := ma_of (tb_4 _ (List.mem_of_getElem? (i := 58) rfl)) rfl
theorem k_1549 : (Jvm.Cond.methodLink "MachineLoom" (102 : Nat) ({ cls := "MachineLoom$Machine", name := "load", desc := "(LMachineLoom$Program;)V" } : Jvm.MethodName)) ∈ ma := ma_of (tb_7 _ (List.mem_of_getElem? (i := 109) rfl)) rfl
theorem k_1550 : (Jvm.Cond.instanceMethod ({ cls := "MachineLoom$Machine", name := "load", desc := "(LMachineLoom$Program;)V" } : Jvm.MethodName)) ∈ ma := ma_of (tb_7 _ (List.mem_of_getElem? (i := 110) rfl)) rfl
theorem k_1551 : (Jvm.Cond.selects "MachineLoom$Machine" ({ cls := "MachineLoom$Machine", name := "load", desc := "(LMachineLoom$Program;)V" } : Jvm.MethodName) ({ cls := "MachineLoom$Machine", name := "load", desc := "(LMachineLoom$Program;)V" } : Jvm.MethodName)) ∈ ma := ma_of (tb_7 _ (List.mem_of_getElem? (i := 111) rfl)) rfl
theorem k_231 : (Jvm.Cond.fieldLink "MachineLoom" (81 : Nat) "MachineLoom$Weaver" "faults" "LMachineLoom$Faults;") ∈ ma := ma_of (tb_1 _ (List.mem_of_getElem? (i := 231) rfl)) rfl
theorem k_179 : (Jvm.Cond.fieldLink "MachineLoom" (85 : Nat) "MachineLoom$Faults" "number" "I") ∈ ma := ma_of (tb_1 _ (List.mem_of_getElem? (i := 179) rfl)) rfl
theorem k_181 : (Jvm.Cond.fieldLink "MachineLoom" (93 : Nat) "MachineLoom$Faults" "place" "I") ∈ ma := ma_of (tb_1 _ (List.mem_of_getElem? (i := 181) rfl)) rfl
theorem k_234 : (Jvm.Cond.fieldLink "MachineLoom" (96 : Nat) "MachineLoom$Weaver" "other" "I") ∈ ma := ma_of (tb_1 _ (List.mem_of_getElem? (i := 234) rfl)) rfl
theorem d_Loom_build_0 : decode b_Loom_build 0 = .ok (.aload_n 0, 1) := by decide +kernel
theorem d_Loom_build_1 : decode b_Loom_build 1 = .ok (.getfield 57, 3) := by decide +kernel
theorem d_Loom_build_4 : decode b_Loom_build 4 = .ok (.getfield 74, 3) := by decide +kernel
theorem d_Loom_build_7 : decode b_Loom_build 7 = .ok (.aload_n 0, 1) := by decide +kernel
theorem d_Loom_build_8 : decode b_Loom_build 8 = .ok (.getfield 33, 3) := by decide +kernel
theorem d_Loom_build_11 : decode b_Loom_build 11 = .ok (.if_acmp .ne (10), 3) := by decide +kernel
theorem d_Loom_build_14 : decode b_Loom_build 14 = .ok (.aload_n 0, 1) := by decide +kernel
theorem d_Loom_build_15 : decode b_Loom_build 15 = .ok (.getfield 37, 3) := by decide +kernel
theorem d_Loom_build_18 : decode b_Loom_build 18 = .ok (.goto (7), 3) := by decide +kernel
theorem d_Loom_build_25 : decode b_Loom_build 25 = .ok (.astore_n 1, 1) := by decide +kernel
theorem d_Loom_build_26 : decode b_Loom_build 26 = .ok (.aload_n 0, 1) := by decide +kernel
theorem d_Loom_build_27 : decode b_Loom_build 27 = .ok (.getfield 24, 3) := by decide +kernel
theorem d_Loom_build_30 : decode b_Loom_build 30 = .ok (.aload_n 0, 1) := by decide +kernel
theorem d_Loom_build_31 : decode b_Loom_build 31 = .ok (.getfield 10, 3) := by decide +kernel
theorem d_Loom_build_34 : decode b_Loom_build 34 = .ok (.aload_n 0, 1) := by decide +kernel
theorem d_Loom_build_35 : decode b_Loom_build 35 = .ok (.getfield 61, 3) := by decide +kernel
theorem d_Loom_build_38 : decode b_Loom_build 38 = .ok (.aload_n 1, 1) := by decide +kernel
theorem d_Loom_build_39 : decode b_Loom_build 39 = .ok (.invokevirtual 77, 3) := by decide +kernel
theorem d_Loom_build_42 : decode b_Loom_build 42 = .ok (.istore_n 2, 1) := by decide +kernel
theorem d_Loom_build_43 : decode b_Loom_build 43 = .ok (.aload_n 0, 1) := by decide +kernel
theorem d_Loom_build_44 : decode b_Loom_build 44 = .ok (.iconst 0, 1) := by decide +kernel
theorem d_Loom_build_45 : decode b_Loom_build 45 = .ok (.putfield 61, 3) := by decide +kernel
theorem d_Loom_build_48 : decode b_Loom_build 48 = .ok (.iload_n 2, 1) := by decide +kernel
theorem d_Loom_build_49 : decode b_Loom_build 49 = .ok (.ifCond .ne (50), 3) := by decide +kernel
theorem d_Loom_build_52 : decode b_Loom_build 52 = .ok (.aload_n 0, 1) := by decide +kernel
theorem d_Loom_build_53 : decode b_Loom_build 53 = .ok (.aload_n 0, 1) := by decide +kernel
theorem d_Loom_build_54 : decode b_Loom_build 54 = .ok (.getfield 24, 3) := by decide +kernel
theorem d_Loom_build_57 : decode b_Loom_build 57 = .ok (.getfield 81, 3) := by decide +kernel
theorem d_Loom_build_60 : decode b_Loom_build 60 = .ok (.getfield 85, 3) := by decide +kernel
theorem d_Loom_build_63 : decode b_Loom_build 63 = .ok (.putfield 90, 3) := by decide +kernel
theorem d_Loom_build_66 : decode b_Loom_build 66 = .ok (.aload_n 0, 1) := by decide +kernel
theorem d_Loom_build_67 : decode b_Loom_build 67 = .ok (.aload_n 0, 1) := by decide +kernel
theorem d_Loom_build_68 : decode b_Loom_build 68 = .ok (.getfield 24, 3) := by decide +kernel
theorem d_Loom_build_71 : decode b_Loom_build 71 = .ok (.getfield 81, 3) := by decide +kernel
theorem d_Loom_build_74 : decode b_Loom_build 74 = .ok (.getfield 93, 3) := by decide +kernel
theorem d_Loom_build_77 : decode b_Loom_build 77 = .ok (.putfield 14, 3) := by decide +kernel
theorem d_Loom_build_80 : decode b_Loom_build 80 = .ok (.aload_n 0, 1) := by decide +kernel
theorem d_Loom_build_81 : decode b_Loom_build 81 = .ok (.aload_n 0, 1) := by decide +kernel
theorem d_Loom_build_82 : decode b_Loom_build 82 = .ok (.getfield 24, 3) := by decide +kernel
theorem d_Loom_build_85 : decode b_Loom_build 85 = .ok (.getfield 96, 3) := by decide +kernel
theorem d_Loom_build_88 : decode b_Loom_build 88 = .ok (.putfield 18, 3) := by decide +kernel
theorem d_Loom_build_91 : decode b_Loom_build 91 = .ok (.new 99, 3) := by decide +kernel
theorem d_Loom_build_94 : decode b_Loom_build 94 = .ok (.dup, 1) := by decide +kernel
theorem d_Loom_build_95 : decode b_Loom_build 95 = .ok (.invokespecial 101, 3) := by decide +kernel
theorem d_Loom_build_98 : decode b_Loom_build 98 = .ok (.athrow, 1) := by decide +kernel
theorem d_Loom_build_99 : decode b_Loom_build 99 = .ok (.aload_n 0, 1) := by decide +kernel
theorem d_Loom_build_100 : decode b_Loom_build 100 = .ok (.getfield 57, 3) := by decide +kernel
theorem d_Loom_build_103 : decode b_Loom_build 103 = .ok (.aload_n 1, 1) := by decide +kernel
theorem d_Loom_build_104 : decode b_Loom_build 104 = .ok (.invokevirtual 102, 3) := by decide +kernel
theorem d_Loom_build_107 : decode b_Loom_build 107 = .ok (.aload_n 1, 1) := by decide +kernel
theorem d_Loom_build_108 : decode b_Loom_build 108 = .ok (.getfield 105, 3) := by decide +kernel
theorem d_Loom_build_111 : decode b_Loom_build 111 = .ok (.ireturn, 1) := by decide +kernel
set_option maxHeartbeats 4000000 in
set_option maxRecDepth 100000 in
theorem c_Loom_build_a (l : Launch) {dA : FieldType → ClassId} {D : va_G} {al : Nat → Nat} {ext : mv_Sh} {sk sv : Nat → Nat} (hi : mv_inj (mg dA D al ext)) (σ : mv_H) (hlt : l.stackTraces = false) (k9 : Nat) (hC : LC ext σ 32 32768 512 k9) (hk : k9 ≤ 10240) : mv_C l y_Loom_build (Cond.code y_Loom_build b_Loom_build 3 (Option.some Jvm.ClassFile.FieldType.int) :: ma) ({ frames := 8, cells := 1, slots := 6, locals := 201 }) (mg dA D al ext) (mKt sk sv) [.ref (al 0)] σ (mv_Ti (fun _ σ1 => LC ext σ1 48 32768 512 0 ∧ GF σ σ1) (fun X σ1 => X = "java/lang/IllegalStateException" ∧ LC ext σ1 32 32768 512 0 ∧ GF σ σ1)) := by
  refine mv_C.ofV (cc := b_Loom_build) (nL := 3) (ret := (Option.some Jvm.ClassFile.FieldType.int)) (by decide +kernel) rfl hi (Nat.le_of_ble_eq_true rfl) ?_
  intro p e s m below meth c B hNs hr hnm hno
  have hC9 := hC
  obtain ⟨hPP, hI, hR, hW, hPO, hLS⟩ := hC
  refine mv_aload_n (pc := 0) B d_Loom_build_0 rfl 0 rfl ?_
  refine mv_getR (pc := 1) (ci := 0) (C := R_Loom) (T := F_Loom) (N := 10) B 9 rfl rfl (by decide) i_Loom (B.2.2.2.1 _ k_495) rfl (hR.1 _ 9 _ rfl) d_Loom_build_1 ?_
  refine mv_getR (pc := 4) (ci := 9) (C := R_Machine) (T := F_Machine) (N := 13) B 0 rfl rfl (by decide) i_Machine (B.2.2.2.1 _ k_441) rfl hR.2.2 d_Loom_build_4 ?_
  refine mv_aload_n (pc := 7) B d_Loom_build_7 rfl 0 rfl ?_
  refine mv_getR (pc := 8) (ci := 0) (C := R_Loom) (T := F_Loom) (N := 10) B 6 rfl rfl (by decide) i_Loom (B.2.2.2.1 _ k_492) rfl (hR.1 _ 6 _ rfl) d_Loom_build_8 ?_
  refine mv_acmp_ne (pc := 11) (tgt := 21) B d_Loom_build_11 rfl (fun h11 => ?_) (fun h11 => ?_)
  · skip
    exact absurd rfl h11
  · skip
    refine mv_aload_n (pc := 14) B d_Loom_build_14 rfl 0 rfl ?_
    refine mv_getR (pc := 15) (ci := 0) (C := R_Loom) (T := F_Loom) (N := 10) B 7 rfl rfl (by decide) i_Loom (B.2.2.2.1 _ k_493) rfl (hR.1 _ 7 _ rfl) d_Loom_build_15 ?_
    refine mv_goto (pc := 18) (tgt := 25) B d_Loom_build_18 rfl ?_
    refine mv_astore_n (pc := 25) B d_Loom_build_25 rfl (by decide) rfl ?_
    refine mv_aload_n (pc := 26) B d_Loom_build_26 rfl 1 rfl ?_
    refine mv_getR (pc := 27) (ci := 0) (C := R_Loom) (T := F_Loom) (N := 10) B 5 rfl rfl (by decide) i_Loom (B.2.2.2.1 _ k_491) rfl (hR.1 _ 5 _ rfl) d_Loom_build_27 ?_
    refine mv_aload_n (pc := 30) B d_Loom_build_30 rfl 1 rfl ?_
    refine mv_getR (pc := 31) (ci := 0) (C := R_Loom) (T := F_Loom) (N := 10) B 0 rfl rfl (by decide) i_Loom (B.2.2.2.1 _ k_486) rfl (hR.1 _ 0 _ rfl) d_Loom_build_31 ?_
    refine mv_aload_n (pc := 34) B d_Loom_build_34 rfl 1 rfl ?_
    refine mv_getI (pc := 35) (ci := 0) (C := R_Loom) (T := F_Loom) (N := 10) B 1 rfl rfl (by decide) i_Loom (B.2.2.2.1 _ k_487) rfl d_Loom_build_35 ?_
    refine mv_aload_n (pc := 38) B d_Loom_build_38 rfl 0 rfl ?_
    refine mv_callVi (pc := 39) (n := 3) (ci := 1) (C := R_Weaver) B (mK_ok sk sv) hNs.1 rfl rfl (c_Weaver_weave_b l hi _ 1 32768 k9 _ hR.1 (Ph_b hR.1) rfl (Or.inl rfl) hI.1 hI.2.1 (by decide) hI.2.2 hW.1 hW.2.1 hW.2.2.1 hW.2.2.2.1 hW.2.2.2.2 (by omega) hk (Or.inl rfl)) rfl (ma_goodc kc_Weaver_weave) (B.2.2.2.1 _ k_776) (B.2.2.2.1 _ k_777) (B.2.2.2.1 _ k_778) (B.2.2.2.1 _ k_2) ⟨by decide +kernel, by decide +kernel, by decide +kernel⟩ rfl d_Loom_build_39 rfl (Nat.le_of_ble_eq_true rfl) ⟨by decide, by decide⟩ ⟨by decide, by decide⟩ ⟨by decide, by decide⟩ (mv_noH hno _) (fun v39 σ39 h39 => ?_)
    have hV := h39.vt
    obtain ⟨hWP, th, sl, hTh, ho0, ho1, hv⟩ := h39
    refine mv_istore_n (pc := 42) B d_Loom_build_42 rfl (by decide) rfl ?_
    refine mv_aload_n (pc := 43) B d_Loom_build_43 rfl 2 rfl ?_
    refine mv_iconst (pc := 44) (v := 0) B d_Loom_build_44 (by decide) ?_
    refine mv_putI (pc := 45) (ci := 0) (C := R_Loom) (T := F_Loom) (N := 10) B 1 rfl rfl (by decide) i_Loom t_Loom_ok n_Loom (B.2.2.2.1 _ k_487) rfl rfl rfl rfl d_Loom_build_45 ?_
    refine mv_gen (fun S48 eS48 => ?_)
    have hK9 := bw_keep (by decide) (by decide) hC9 hV hWP
    rw [← eS48] at hK9
    obtain ⟨hK, hG⟩ := hK9
    have hR := hK.2.2.1
    have hThS : Th 48 S48 th sl := hTh.fr (funext fun k => by rw [eS48]; exact mv_si_o _ _ (by omega)) (by rw [eS48]; rfl) (by rw [eS48]; rfl)
    have hOS : mv_i S48 48 = mv_i σ39 48 := by rw [eS48]; exact funext fun k => mv_si_o _ _ (by omega)
    have haS : mv_a S48 = mv_a σ39 := by rw [eS48]; rfl
    have hbS : mv_b S48 = mv_b σ39 := by rw [eS48]; rfl
    clear eS48
    refine mv_iload_n (pc := 48) B d_Loom_build_48 rfl 0 rfl ?_
    refine mv_if_ne (pc := 49) (tgt := 99) B d_Loom_build_49 rfl (fun h49 => ?_) (fun h49 => ?_)
    · skip
      obtain ⟨-, -, hTO, hCO⟩ := hv.resolve_left (fun z => h49 z.1)
      have hPT : PO 48 32768 512 S48 := PO.fr (σ := σ39) ⟨th, sl, ⟨hTh, Or.inr ⟨hTO, hCO⟩⟩, ho0, ho1, fun q => absurd q (by decide)⟩ hOS (fun j _ _ => by rw [haS]) (fun _ _ => by rw [hbS])
      refine mv_aload_n (pc := 99) B d_Loom_build_99 rfl 2 rfl ?_
      refine mv_getR (pc := 100) (ci := 0) (C := R_Loom) (T := F_Loom) (N := 10) B 9 rfl rfl (by decide) i_Loom (B.2.2.2.1 _ k_495) rfl (hR.1 _ 9 _ rfl) d_Loom_build_100 ?_
      refine mv_aload_n (pc := 103) B d_Loom_build_103 rfl 1 rfl ?_
      refine mv_callVv (pc := 104) (n := 1) (ci := 9) (C := R_Machine) B (mK_ok sk sv) hNs.1 rfl rfl (c_Machine_load_b l hi _ hR.1 (Ph_b hR.1) th sl hThS) rfl (ma_goodc kc_Machine_load) (B.2.2.2.1 _ k_1549) (B.2.2.2.1 _ k_1550) (B.2.2.2.1 _ k_1551) (B.2.2.2.1 _ k_11) ⟨by decide +kernel, by decide +kernel, by decide +kernel⟩ rfl d_Loom_build_104 rfl (Nat.le_of_ble_eq_true rfl) ⟨by decide, by decide⟩ ⟨by decide, by decide⟩ ⟨by decide, by decide⟩ (mv_noH hno _) (fun σ104 h104 => ?_)
      have hN := bw_load (by unfold P3; omega) hK.2.1 hK.2.2.2.1 hPT hK.2.2.2.2.2 h104.1 h104.2
      refine mv_aload_n (pc := 107) B d_Loom_build_107 rfl 1 rfl ?_
      refine mv_getI (pc := 108) (ci := 7) (C := R_Program) (T := F_Program) (N := 19) B 10 rfl rfl (by decide) i_Program (B.2.2.2.1 _ k_346) rfl d_Loom_build_108 ?_
      exact mv_iret (pc := 111) B hr rfl d_Loom_build_111 (Nat.le_of_ble_eq_true rfl) (Nat.le_of_ble_eq_true rfl) (Or.inl ⟨_, rfl, hN.1, hG.tr hN.2⟩)
    · skip
      refine mv_aload_n (pc := 52) B d_Loom_build_52 rfl 2 rfl ?_
      refine mv_aload_n (pc := 53) B d_Loom_build_53 rfl 2 rfl ?_
      refine mv_getR (pc := 54) (ci := 0) (C := R_Loom) (T := F_Loom) (N := 10) B 5 rfl rfl (by decide) i_Loom (B.2.2.2.1 _ k_491) rfl (hR.1 _ 5 _ rfl) d_Loom_build_54 ?_
      refine mv_getR (pc := 57) (ci := 1) (C := R_Weaver) (T := F_Weaver) (N := 16) B 2 rfl rfl (by decide) i_Weaver (B.2.2.2.1 _ k_231) rfl (hR.1 _ 2 _ rfl) d_Loom_build_57 ?_
      refine mv_getI (pc := 60) (ci := 5) (C := R_Faults) (T := F_Faults) (N := 2) B 0 rfl rfl (by decide) i_Faults (B.2.2.2.1 _ k_179) rfl d_Loom_build_60 ?_
      refine mv_putI (pc := 63) (ci := 0) (C := R_Loom) (T := F_Loom) (N := 10) B 2 rfl rfl (by decide) i_Loom t_Loom_ok n_Loom (B.2.2.2.1 _ k_488) rfl rfl rfl rfl d_Loom_build_63 ?_
      refine mv_aload_n (pc := 66) B d_Loom_build_66 rfl 2 rfl ?_
      refine mv_aload_n (pc := 67) B d_Loom_build_67 rfl 2 rfl ?_
      refine mv_getR (pc := 68) (ci := 0) (C := R_Loom) (T := F_Loom) (N := 10) B 5 rfl rfl (by decide) i_Loom (B.2.2.2.1 _ k_491) rfl (hR.1 _ 5 _ rfl) d_Loom_build_68 ?_
      refine mv_getR (pc := 71) (ci := 1) (C := R_Weaver) (T := F_Weaver) (N := 16) B 2 rfl rfl (by decide) i_Weaver (B.2.2.2.1 _ k_231) rfl (hR.1 _ 2 _ rfl) d_Loom_build_71 ?_
      refine mv_getI (pc := 74) (ci := 5) (C := R_Faults) (T := F_Faults) (N := 2) B 1 rfl rfl (by decide) i_Faults (B.2.2.2.1 _ k_181) rfl d_Loom_build_74 ?_
      refine mv_putI (pc := 77) (ci := 0) (C := R_Loom) (T := F_Loom) (N := 10) B 3 rfl rfl (by decide) i_Loom t_Loom_ok n_Loom (B.2.2.2.1 _ k_489) rfl rfl rfl rfl d_Loom_build_77 ?_
      refine mv_aload_n (pc := 80) B d_Loom_build_80 rfl 2 rfl ?_
      refine mv_aload_n (pc := 81) B d_Loom_build_81 rfl 2 rfl ?_
      refine mv_getR (pc := 82) (ci := 0) (C := R_Loom) (T := F_Loom) (N := 10) B 5 rfl rfl (by decide) i_Loom (B.2.2.2.1 _ k_491) rfl (hR.1 _ 5 _ rfl) d_Loom_build_82 ?_
      refine mv_getI (pc := 85) (ci := 1) (C := R_Weaver) (T := F_Weaver) (N := 16) B 4 rfl rfl (by decide) i_Weaver (B.2.2.2.1 _ k_234) rfl d_Loom_build_85 ?_
      refine mv_putI (pc := 88) (ci := 0) (C := R_Loom) (T := F_Loom) (N := 10) B 4 rfl rfl (by decide) i_Loom t_Loom_ok n_Loom (B.2.2.2.1 _ k_490) rfl rfl rfl rfl d_Loom_build_88 ?_
      exact mv_throw0 (pc := 91) (ik := 99) (ic := 101) B hlt hNs.2.1 (X := "java/lang/IllegalStateException") (by decide +kernel) (B.2.2.2.1 _ k_1717) (B.2.2.2.1 _ k_34) (B.2.2.2.1 _ k_1718) rfl (fun s9 hv9 a9 b9 c9 d9 => have hm9 := mt_ma B.2.2.2.1 hv9; mt_w_ise hm9 (hm9 _ k_1726) a9 b9 c9 d9) d_Loom_build_91 d_Loom_build_94 d_Loom_build_95 d_Loom_build_98 (mv_noH hno _) ⟨by decide, by decide⟩ ⟨by decide, by decide⟩ ⟨by decide, by decide⟩ (fun a9 => Or.inr ⟨_, a9, rfl, rfl, ((hK.s0 (by decide)).s0 (by decide)).s0 (by decide), ((hG.tr GF.s0).tr GF.s0).tr GF.s0⟩)
theorem d_Loom_build_21 : decode b_Loom_build 21 = .ok (.aload_n 0, 1) := by decide +kernel
theorem d_Loom_build_22 : decode b_Loom_build 22 = .ok (.getfield 33, 3) := by decide +kernel
set_option maxHeartbeats 4000000 in
set_option maxRecDepth 100000 in
theorem c_Loom_build_b (l : Launch) {dA : FieldType → ClassId} {D : va_G} {al : Nat → Nat} {ext : mv_Sh} {sk sv : Nat → Nat} (hi : mv_inj (mg dA D al ext)) (σ : mv_H) (hlt : l.stackTraces = false) (k9 : Nat) (hC : LC ext σ 48 32768 512 k9) (hk : k9 ≤ 10240) : mv_C l y_Loom_build (Cond.code y_Loom_build b_Loom_build 3 (Option.some Jvm.ClassFile.FieldType.int) :: ma) ({ frames := 8, cells := 1, slots := 6, locals := 201 }) (mg dA D al ext) (mKt sk sv) [.ref (al 0)] σ (mv_Ti (fun _ σ1 => LC ext σ1 32 32768 512 0 ∧ GF σ σ1) (fun X σ1 => X = "java/lang/IllegalStateException" ∧ LC ext σ1 48 32768 512 0 ∧ GF σ σ1)) := by
  refine mv_C.ofV (cc := b_Loom_build) (nL := 3) (ret := (Option.some Jvm.ClassFile.FieldType.int)) (by decide +kernel) rfl hi (Nat.le_of_ble_eq_true rfl) ?_
  intro p e s m below meth c B hNs hr hnm hno
  have hC9 := hC
  obtain ⟨hPP, hI, hR, hW, hPO, hLS⟩ := hC
  refine mv_aload_n (pc := 0) B d_Loom_build_0 rfl 0 rfl ?_
  refine mv_getR (pc := 1) (ci := 0) (C := R_Loom) (T := F_Loom) (N := 10) B 9 rfl rfl (by decide) i_Loom (B.2.2.2.1 _ k_495) rfl (hR.1 _ 9 _ rfl) d_Loom_build_1 ?_
  refine mv_getR (pc := 4) (ci := 9) (C := R_Machine) (T := F_Machine) (N := 13) B 0 rfl rfl (by decide) i_Machine (B.2.2.2.1 _ k_441) rfl hR.2.2 d_Loom_build_4 ?_
  refine mv_aload_n (pc := 7) B d_Loom_build_7 rfl 0 rfl ?_
  refine mv_getR (pc := 8) (ci := 0) (C := R_Loom) (T := F_Loom) (N := 10) B 6 rfl rfl (by decide) i_Loom (B.2.2.2.1 _ k_492) rfl (hR.1 _ 6 _ rfl) d_Loom_build_8 ?_
  refine mv_acmp_ne (pc := 11) (tgt := 21) B d_Loom_build_11 rfl (fun h11 => ?_) (fun h11 => ?_)
  · skip
    refine mv_aload_n (pc := 21) B d_Loom_build_21 rfl 0 rfl ?_
    refine mv_getR (pc := 22) (ci := 0) (C := R_Loom) (T := F_Loom) (N := 10) B 6 rfl rfl (by decide) i_Loom (B.2.2.2.1 _ k_492) rfl (hR.1 _ 6 _ rfl) d_Loom_build_22 ?_
    refine mv_astore_n (pc := 25) B d_Loom_build_25 rfl (by decide) rfl ?_
    refine mv_aload_n (pc := 26) B d_Loom_build_26 rfl 1 rfl ?_
    refine mv_getR (pc := 27) (ci := 0) (C := R_Loom) (T := F_Loom) (N := 10) B 5 rfl rfl (by decide) i_Loom (B.2.2.2.1 _ k_491) rfl (hR.1 _ 5 _ rfl) d_Loom_build_27 ?_
    refine mv_aload_n (pc := 30) B d_Loom_build_30 rfl 1 rfl ?_
    refine mv_getR (pc := 31) (ci := 0) (C := R_Loom) (T := F_Loom) (N := 10) B 0 rfl rfl (by decide) i_Loom (B.2.2.2.1 _ k_486) rfl (hR.1 _ 0 _ rfl) d_Loom_build_31 ?_
    refine mv_aload_n (pc := 34) B d_Loom_build_34 rfl 1 rfl ?_
    refine mv_getI (pc := 35) (ci := 0) (C := R_Loom) (T := F_Loom) (N := 10) B 1 rfl rfl (by decide) i_Loom (B.2.2.2.1 _ k_487) rfl d_Loom_build_35 ?_
    refine mv_aload_n (pc := 38) B d_Loom_build_38 rfl 0 rfl ?_
    refine mv_callVi (pc := 39) (n := 3) (ci := 1) (C := R_Weaver) B (mK_ok sk sv) hNs.1 rfl rfl (c_Weaver_weave_a l hi _ 1 32768 k9 _ hR.1 (Ph_a hR.1) rfl (Or.inl rfl) hI.1 hI.2.1 (by decide) hI.2.2 hW.1 hW.2.1 hW.2.2.1 hW.2.2.2.1 hW.2.2.2.2 (by omega) hk (Or.inl rfl)) rfl (ma_goodc kc_Weaver_weave) (B.2.2.2.1 _ k_776) (B.2.2.2.1 _ k_777) (B.2.2.2.1 _ k_778) (B.2.2.2.1 _ k_2) ⟨by decide +kernel, by decide +kernel, by decide +kernel⟩ rfl d_Loom_build_39 rfl (Nat.le_of_ble_eq_true rfl) ⟨by decide, by decide⟩ ⟨by decide, by decide⟩ ⟨by decide, by decide⟩ (mv_noH hno _) (fun v39 σ39 h39 => ?_)
    have hV := h39.vt
    obtain ⟨hWP, th, sl, hTh, ho0, ho1, hv⟩ := h39
    refine mv_istore_n (pc := 42) B d_Loom_build_42 rfl (by decide) rfl ?_
    refine mv_aload_n (pc := 43) B d_Loom_build_43 rfl 2 rfl ?_
    refine mv_iconst (pc := 44) (v := 0) B d_Loom_build_44 (by decide) ?_
    refine mv_putI (pc := 45) (ci := 0) (C := R_Loom) (T := F_Loom) (N := 10) B 1 rfl rfl (by decide) i_Loom t_Loom_ok n_Loom (B.2.2.2.1 _ k_487) rfl rfl rfl rfl d_Loom_build_45 ?_
    refine mv_gen (fun S48 eS48 => ?_)
    have hK9 := bw_keep (by decide) (by decide) hC9 hV hWP
    rw [← eS48] at hK9
    obtain ⟨hK, hG⟩ := hK9
    have hR := hK.2.2.1
    have hThS : Th 32 S48 th sl := hTh.fr (funext fun k => by rw [eS48]; exact mv_si_o _ _ (by omega)) (by rw [eS48]; rfl) (by rw [eS48]; rfl)
    have hOS : mv_i S48 32 = mv_i σ39 32 := by rw [eS48]; exact funext fun k => mv_si_o _ _ (by omega)
    have haS : mv_a S48 = mv_a σ39 := by rw [eS48]; rfl
    have hbS : mv_b S48 = mv_b σ39 := by rw [eS48]; rfl
    clear eS48
    refine mv_iload_n (pc := 48) B d_Loom_build_48 rfl 0 rfl ?_
    refine mv_if_ne (pc := 49) (tgt := 99) B d_Loom_build_49 rfl (fun h49 => ?_) (fun h49 => ?_)
    · skip
      obtain ⟨-, -, hTO, hCO⟩ := hv.resolve_left (fun z => h49 z.1)
      have hPT : PO 32 32768 512 S48 := PO.fr (σ := σ39) ⟨th, sl, ⟨hTh, Or.inr ⟨hTO, hCO⟩⟩, ho0, ho1, fun q => absurd q (by decide)⟩ hOS (fun j _ _ => by rw [haS]) (fun _ _ => by rw [hbS])
      refine mv_aload_n (pc := 99) B d_Loom_build_99 rfl 2 rfl ?_
      refine mv_getR (pc := 100) (ci := 0) (C := R_Loom) (T := F_Loom) (N := 10) B 9 rfl rfl (by decide) i_Loom (B.2.2.2.1 _ k_495) rfl (hR.1 _ 9 _ rfl) d_Loom_build_100 ?_
      refine mv_aload_n (pc := 103) B d_Loom_build_103 rfl 1 rfl ?_
      refine mv_callVv (pc := 104) (n := 1) (ci := 9) (C := R_Machine) B (mK_ok sk sv) hNs.1 rfl rfl (c_Machine_load_a l hi _ hR.1 (Ph_a hR.1) th sl hThS) rfl (ma_goodc kc_Machine_load) (B.2.2.2.1 _ k_1549) (B.2.2.2.1 _ k_1550) (B.2.2.2.1 _ k_1551) (B.2.2.2.1 _ k_11) ⟨by decide +kernel, by decide +kernel, by decide +kernel⟩ rfl d_Loom_build_104 rfl (Nat.le_of_ble_eq_true rfl) ⟨by decide, by decide⟩ ⟨by decide, by decide⟩ ⟨by decide, by decide⟩ (mv_noH hno _) (fun σ104 h104 => ?_)
      have hN := bw_load (by unfold P3; omega) hK.2.1 hK.2.2.2.1 hPT hK.2.2.2.2.2 h104.1 h104.2
      refine mv_aload_n (pc := 107) B d_Loom_build_107 rfl 1 rfl ?_
      refine mv_getI (pc := 108) (ci := 7) (C := R_Program) (T := F_Program) (N := 19) B 10 rfl rfl (by decide) i_Program (B.2.2.2.1 _ k_346) rfl d_Loom_build_108 ?_
      exact mv_iret (pc := 111) B hr rfl d_Loom_build_111 (Nat.le_of_ble_eq_true rfl) (Nat.le_of_ble_eq_true rfl) (Or.inl ⟨_, rfl, hN.1, hG.tr hN.2⟩)
    · skip
      refine mv_aload_n (pc := 52) B d_Loom_build_52 rfl 2 rfl ?_
      refine mv_aload_n (pc := 53) B d_Loom_build_53 rfl 2 rfl ?_
      refine mv_getR (pc := 54) (ci := 0) (C := R_Loom) (T := F_Loom) (N := 10) B 5 rfl rfl (by decide) i_Loom (B.2.2.2.1 _ k_491) rfl (hR.1 _ 5 _ rfl) d_Loom_build_54 ?_
      refine mv_getR (pc := 57) (ci := 1) (C := R_Weaver) (T := F_Weaver) (N := 16) B 2 rfl rfl (by decide) i_Weaver (B.2.2.2.1 _ k_231) rfl (hR.1 _ 2 _ rfl) d_Loom_build_57 ?_
      refine mv_getI (pc := 60) (ci := 5) (C := R_Faults) (T := F_Faults) (N := 2) B 0 rfl rfl (by decide) i_Faults (B.2.2.2.1 _ k_179) rfl d_Loom_build_60 ?_
      refine mv_putI (pc := 63) (ci := 0) (C := R_Loom) (T := F_Loom) (N := 10) B 2 rfl rfl (by decide) i_Loom t_Loom_ok n_Loom (B.2.2.2.1 _ k_488) rfl rfl rfl rfl d_Loom_build_63 ?_
      refine mv_aload_n (pc := 66) B d_Loom_build_66 rfl 2 rfl ?_
      refine mv_aload_n (pc := 67) B d_Loom_build_67 rfl 2 rfl ?_
      refine mv_getR (pc := 68) (ci := 0) (C := R_Loom) (T := F_Loom) (N := 10) B 5 rfl rfl (by decide) i_Loom (B.2.2.2.1 _ k_491) rfl (hR.1 _ 5 _ rfl) d_Loom_build_68 ?_
      refine mv_getR (pc := 71) (ci := 1) (C := R_Weaver) (T := F_Weaver) (N := 16) B 2 rfl rfl (by decide) i_Weaver (B.2.2.2.1 _ k_231) rfl (hR.1 _ 2 _ rfl) d_Loom_build_71 ?_
      refine mv_getI (pc := 74) (ci := 5) (C := R_Faults) (T := F_Faults) (N := 2) B 1 rfl rfl (by decide) i_Faults (B.2.2.2.1 _ k_181) rfl d_Loom_build_74 ?_
      refine mv_putI (pc := 77) (ci := 0) (C := R_Loom) (T := F_Loom) (N := 10) B 3 rfl rfl (by decide) i_Loom t_Loom_ok n_Loom (B.2.2.2.1 _ k_489) rfl rfl rfl rfl d_Loom_build_77 ?_
      refine mv_aload_n (pc := 80) B d_Loom_build_80 rfl 2 rfl ?_
      refine mv_aload_n (pc := 81) B d_Loom_build_81 rfl 2 rfl ?_
      refine mv_getR (pc := 82) (ci := 0) (C := R_Loom) (T := F_Loom) (N := 10) B 5 rfl rfl (by decide) i_Loom (B.2.2.2.1 _ k_491) rfl (hR.1 _ 5 _ rfl) d_Loom_build_82 ?_
      refine mv_getI (pc := 85) (ci := 1) (C := R_Weaver) (T := F_Weaver) (N := 16) B 4 rfl rfl (by decide) i_Weaver (B.2.2.2.1 _ k_234) rfl d_Loom_build_85 ?_
      refine mv_putI (pc := 88) (ci := 0) (C := R_Loom) (T := F_Loom) (N := 10) B 4 rfl rfl (by decide) i_Loom t_Loom_ok n_Loom (B.2.2.2.1 _ k_490) rfl rfl rfl rfl d_Loom_build_88 ?_
      exact mv_throw0 (pc := 91) (ik := 99) (ic := 101) B hlt hNs.2.1 (X := "java/lang/IllegalStateException") (by decide +kernel) (B.2.2.2.1 _ k_1717) (B.2.2.2.1 _ k_34) (B.2.2.2.1 _ k_1718) rfl (fun s9 hv9 a9 b9 c9 d9 => have hm9 := mt_ma B.2.2.2.1 hv9; mt_w_ise hm9 (hm9 _ k_1726) a9 b9 c9 d9) d_Loom_build_91 d_Loom_build_94 d_Loom_build_95 d_Loom_build_98 (mv_noH hno _) ⟨by decide, by decide⟩ ⟨by decide, by decide⟩ ⟨by decide, by decide⟩ (fun a9 => Or.inr ⟨_, a9, rfl, rfl, ((hK.s0 (by decide)).s0 (by decide)).s0 (by decide), ((hG.tr GF.s0).tr GF.s0).tr GF.s0⟩)
  · skip
    exact absurd (hi 48 32 (mb_lt (by decide)) (mb_lt (by decide)) h11) (by decide)
set_option maxHeartbeats 4000000 in
set_option maxRecDepth 100000 in
theorem c_Loom_build_c (l : Launch) {dA : FieldType → ClassId} {D : va_G} {al : Nat → Nat} {sk sv : Nat → Nat} (hi : mv_inj (mg dA D al me)) (σ : mv_H) (hlt : l.stackTraces = false) (k9 : Nat) (hC : LC me σ 145 8192 48 k9) (hk : k9 ≤ 10240) : mv_C l y_Loom_build (Cond.code y_Loom_build b_Loom_build 3 (Option.some Jvm.ClassFile.FieldType.int) :: ma) ({ frames := 8, cells := 1, slots := 6, locals := 201 }) (mg dA D al me) (mKt sk sv) [.ref (al 0)] σ (mv_Ti (fun _ σ1 => LC me σ1 32 32768 512 0 ∧ GF σ σ1) (fun X σ1 => X = "java/lang/IllegalStateException" ∧ LC me σ1 145 8192 48 0 ∧ GF σ σ1)) := by
  refine mv_C.ofV (cc := b_Loom_build) (nL := 3) (ret := (Option.some Jvm.ClassFile.FieldType.int)) (by decide +kernel) rfl hi (Nat.le_of_ble_eq_true rfl) ?_
  intro p e s m below meth c B hNs hr hnm hno
  have hC9 := hC
  obtain ⟨hPP, hI, hR, hW, hPO, hLS⟩ := hC
  refine mv_aload_n (pc := 0) B d_Loom_build_0 rfl 0 rfl ?_
  refine mv_getR (pc := 1) (ci := 0) (C := R_Loom) (T := F_Loom) (N := 10) B 9 rfl rfl (by decide) i_Loom (B.2.2.2.1 _ k_495) rfl (hR.1 _ 9 _ rfl) d_Loom_build_1 ?_
  refine mv_getR (pc := 4) (ci := 9) (C := R_Machine) (T := F_Machine) (N := 13) B 0 rfl rfl (by decide) i_Machine (B.2.2.2.1 _ k_441) rfl hR.2.2 d_Loom_build_4 ?_
  refine mv_aload_n (pc := 7) B d_Loom_build_7 rfl 0 rfl ?_
  refine mv_getR (pc := 8) (ci := 0) (C := R_Loom) (T := F_Loom) (N := 10) B 6 rfl rfl (by decide) i_Loom (B.2.2.2.1 _ k_492) rfl (hR.1 _ 6 _ rfl) d_Loom_build_8 ?_
  refine mv_acmp_ne (pc := 11) (tgt := 21) B d_Loom_build_11 rfl (fun h11 => ?_) (fun h11 => ?_)
  · skip
    refine mv_aload_n (pc := 21) B d_Loom_build_21 rfl 0 rfl ?_
    refine mv_getR (pc := 22) (ci := 0) (C := R_Loom) (T := F_Loom) (N := 10) B 6 rfl rfl (by decide) i_Loom (B.2.2.2.1 _ k_492) rfl (hR.1 _ 6 _ rfl) d_Loom_build_22 ?_
    refine mv_astore_n (pc := 25) B d_Loom_build_25 rfl (by decide) rfl ?_
    refine mv_aload_n (pc := 26) B d_Loom_build_26 rfl 1 rfl ?_
    refine mv_getR (pc := 27) (ci := 0) (C := R_Loom) (T := F_Loom) (N := 10) B 5 rfl rfl (by decide) i_Loom (B.2.2.2.1 _ k_491) rfl (hR.1 _ 5 _ rfl) d_Loom_build_27 ?_
    refine mv_aload_n (pc := 30) B d_Loom_build_30 rfl 1 rfl ?_
    refine mv_getR (pc := 31) (ci := 0) (C := R_Loom) (T := F_Loom) (N := 10) B 0 rfl rfl (by decide) i_Loom (B.2.2.2.1 _ k_486) rfl (hR.1 _ 0 _ rfl) d_Loom_build_31 ?_
    refine mv_aload_n (pc := 34) B d_Loom_build_34 rfl 1 rfl ?_
    refine mv_getI (pc := 35) (ci := 0) (C := R_Loom) (T := F_Loom) (N := 10) B 1 rfl rfl (by decide) i_Loom (B.2.2.2.1 _ k_487) rfl d_Loom_build_35 ?_
    refine mv_aload_n (pc := 38) B d_Loom_build_38 rfl 0 rfl ?_
    refine mv_callVi (pc := 39) (n := 3) (ci := 1) (C := R_Weaver) B (mK_ok sk sv) hNs.1 rfl rfl (c_Weaver_weave_a l hi _ 1 32768 k9 _ hR.1 (Ph_a hR.1) rfl (Or.inl rfl) hI.1 hI.2.1 (by decide) hI.2.2 hW.1 hW.2.1 hW.2.2.1 hW.2.2.2.1 hW.2.2.2.2 (by omega) hk (Or.inl rfl)) rfl (ma_goodc kc_Weaver_weave) (B.2.2.2.1 _ k_776) (B.2.2.2.1 _ k_777) (B.2.2.2.1 _ k_778) (B.2.2.2.1 _ k_2) ⟨by decide +kernel, by decide +kernel, by decide +kernel⟩ rfl d_Loom_build_39 rfl (Nat.le_of_ble_eq_true rfl) ⟨by decide, by decide⟩ ⟨by decide, by decide⟩ ⟨by decide, by decide⟩ (mv_noH hno _) (fun v39 σ39 h39 => ?_)
    have hV := h39.vt
    obtain ⟨hWP, th, sl, hTh, ho0, ho1, hv⟩ := h39
    refine mv_istore_n (pc := 42) B d_Loom_build_42 rfl (by decide) rfl ?_
    refine mv_aload_n (pc := 43) B d_Loom_build_43 rfl 2 rfl ?_
    refine mv_iconst (pc := 44) (v := 0) B d_Loom_build_44 (by decide) ?_
    refine mv_putI (pc := 45) (ci := 0) (C := R_Loom) (T := F_Loom) (N := 10) B 1 rfl rfl (by decide) i_Loom t_Loom_ok n_Loom (B.2.2.2.1 _ k_487) rfl rfl rfl rfl d_Loom_build_45 ?_
    refine mv_gen (fun S48 eS48 => ?_)
    have hK9 := bw_keep (by decide) (by decide) hC9 hV hWP
    rw [← eS48] at hK9
    obtain ⟨hK, hG⟩ := hK9
    have hR := hK.2.2.1
    have hThS : Th 32 S48 th sl := hTh.fr (funext fun k => by rw [eS48]; exact mv_si_o _ _ (by omega)) (by rw [eS48]; rfl) (by rw [eS48]; rfl)
    have hOS : mv_i S48 32 = mv_i σ39 32 := by rw [eS48]; exact funext fun k => mv_si_o _ _ (by omega)
    have haS : mv_a S48 = mv_a σ39 := by rw [eS48]; rfl
    have hbS : mv_b S48 = mv_b σ39 := by rw [eS48]; rfl
    clear eS48
    refine mv_iload_n (pc := 48) B d_Loom_build_48 rfl 0 rfl ?_
    refine mv_if_ne (pc := 49) (tgt := 99) B d_Loom_build_49 rfl (fun h49 => ?_) (fun h49 => ?_)
    · skip
      obtain ⟨-, -, hTO, hCO⟩ := hv.resolve_left (fun z => h49 z.1)
      have hPT : PO 32 32768 512 S48 := PO.fr (σ := σ39) ⟨th, sl, ⟨hTh, Or.inr ⟨hTO, hCO⟩⟩, ho0, ho1, fun q => absurd q (by decide)⟩ hOS (fun j _ _ => by rw [haS]) (fun _ _ => by rw [hbS])
      refine mv_aload_n (pc := 99) B d_Loom_build_99 rfl 2 rfl ?_
      refine mv_getR (pc := 100) (ci := 0) (C := R_Loom) (T := F_Loom) (N := 10) B 9 rfl rfl (by decide) i_Loom (B.2.2.2.1 _ k_495) rfl (hR.1 _ 9 _ rfl) d_Loom_build_100 ?_
      refine mv_aload_n (pc := 103) B d_Loom_build_103 rfl 1 rfl ?_
      refine mv_callVv (pc := 104) (n := 1) (ci := 9) (C := R_Machine) B (mK_ok sk sv) hNs.1 rfl rfl (c_Machine_load_a l hi _ hR.1 (Ph_a hR.1) th sl hThS) rfl (ma_goodc kc_Machine_load) (B.2.2.2.1 _ k_1549) (B.2.2.2.1 _ k_1550) (B.2.2.2.1 _ k_1551) (B.2.2.2.1 _ k_11) ⟨by decide +kernel, by decide +kernel, by decide +kernel⟩ rfl d_Loom_build_104 rfl (Nat.le_of_ble_eq_true rfl) ⟨by decide, by decide⟩ ⟨by decide, by decide⟩ ⟨by decide, by decide⟩ (mv_noH hno _) (fun σ104 h104 => ?_)
      have hN := bw_load (by unfold P3; omega) hK.2.1 hK.2.2.2.1 hPT hK.2.2.2.2.2 h104.1 h104.2
      refine mv_aload_n (pc := 107) B d_Loom_build_107 rfl 1 rfl ?_
      refine mv_getI (pc := 108) (ci := 7) (C := R_Program) (T := F_Program) (N := 19) B 10 rfl rfl (by decide) i_Program (B.2.2.2.1 _ k_346) rfl d_Loom_build_108 ?_
      exact mv_iret (pc := 111) B hr rfl d_Loom_build_111 (Nat.le_of_ble_eq_true rfl) (Nat.le_of_ble_eq_true rfl) (Or.inl ⟨_, rfl, hN.1, hG.tr hN.2⟩)
    · skip
      refine mv_aload_n (pc := 52) B d_Loom_build_52 rfl 2 rfl ?_
      refine mv_aload_n (pc := 53) B d_Loom_build_53 rfl 2 rfl ?_
      refine mv_getR (pc := 54) (ci := 0) (C := R_Loom) (T := F_Loom) (N := 10) B 5 rfl rfl (by decide) i_Loom (B.2.2.2.1 _ k_491) rfl (hR.1 _ 5 _ rfl) d_Loom_build_54 ?_
      refine mv_getR (pc := 57) (ci := 1) (C := R_Weaver) (T := F_Weaver) (N := 16) B 2 rfl rfl (by decide) i_Weaver (B.2.2.2.1 _ k_231) rfl (hR.1 _ 2 _ rfl) d_Loom_build_57 ?_
      refine mv_getI (pc := 60) (ci := 5) (C := R_Faults) (T := F_Faults) (N := 2) B 0 rfl rfl (by decide) i_Faults (B.2.2.2.1 _ k_179) rfl d_Loom_build_60 ?_
      refine mv_putI (pc := 63) (ci := 0) (C := R_Loom) (T := F_Loom) (N := 10) B 2 rfl rfl (by decide) i_Loom t_Loom_ok n_Loom (B.2.2.2.1 _ k_488) rfl rfl rfl rfl d_Loom_build_63 ?_
      refine mv_aload_n (pc := 66) B d_Loom_build_66 rfl 2 rfl ?_
      refine mv_aload_n (pc := 67) B d_Loom_build_67 rfl 2 rfl ?_
      refine mv_getR (pc := 68) (ci := 0) (C := R_Loom) (T := F_Loom) (N := 10) B 5 rfl rfl (by decide) i_Loom (B.2.2.2.1 _ k_491) rfl (hR.1 _ 5 _ rfl) d_Loom_build_68 ?_
      refine mv_getR (pc := 71) (ci := 1) (C := R_Weaver) (T := F_Weaver) (N := 16) B 2 rfl rfl (by decide) i_Weaver (B.2.2.2.1 _ k_231) rfl (hR.1 _ 2 _ rfl) d_Loom_build_71 ?_
      refine mv_getI (pc := 74) (ci := 5) (C := R_Faults) (T := F_Faults) (N := 2) B 1 rfl rfl (by decide) i_Faults (B.2.2.2.1 _ k_181) rfl d_Loom_build_74 ?_
      refine mv_putI (pc := 77) (ci := 0) (C := R_Loom) (T := F_Loom) (N := 10) B 3 rfl rfl (by decide) i_Loom t_Loom_ok n_Loom (B.2.2.2.1 _ k_489) rfl rfl rfl rfl d_Loom_build_77 ?_
      refine mv_aload_n (pc := 80) B d_Loom_build_80 rfl 2 rfl ?_
      refine mv_aload_n (pc := 81) B d_Loom_build_81 rfl 2 rfl ?_
      refine mv_getR (pc := 82) (ci := 0) (C := R_Loom) (T := F_Loom) (N := 10) B 5 rfl rfl (by decide) i_Loom (B.2.2.2.1 _ k_491) rfl (hR.1 _ 5 _ rfl) d_Loom_build_82 ?_
      refine mv_getI (pc := 85) (ci := 1) (C := R_Weaver) (T := F_Weaver) (N := 16) B 4 rfl rfl (by decide) i_Weaver (B.2.2.2.1 _ k_234) rfl d_Loom_build_85 ?_
      refine mv_putI (pc := 88) (ci := 0) (C := R_Loom) (T := F_Loom) (N := 10) B 4 rfl rfl (by decide) i_Loom t_Loom_ok n_Loom (B.2.2.2.1 _ k_490) rfl rfl rfl rfl d_Loom_build_88 ?_
      exact mv_throw0 (pc := 91) (ik := 99) (ic := 101) B hlt hNs.2.1 (X := "java/lang/IllegalStateException") (by decide +kernel) (B.2.2.2.1 _ k_1717) (B.2.2.2.1 _ k_34) (B.2.2.2.1 _ k_1718) rfl (fun s9 hv9 a9 b9 c9 d9 => have hm9 := mt_ma B.2.2.2.1 hv9; mt_w_ise hm9 (hm9 _ k_1726) a9 b9 c9 d9) d_Loom_build_91 d_Loom_build_94 d_Loom_build_95 d_Loom_build_98 (mv_noH hno _) ⟨by decide, by decide⟩ ⟨by decide, by decide⟩ ⟨by decide, by decide⟩ (fun a9 => Or.inr ⟨_, a9, rfl, rfl, ((hK.s0 (by decide)).s0 (by decide)).s0 (by decide), ((hG.tr GF.s0).tr GF.s0).tr GF.s0⟩)
  · skip
    exact absurd (hi 145 32 (show 145 < (mb ++ me).length by decide) (mb_lt (by decide)) h11) (by decide)
