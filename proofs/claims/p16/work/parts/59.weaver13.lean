/-! Weaver: begin, readBits -/
def w_beg (P : Nat) (σ : mv_H) : mv_H := mv_si (mv_si (mv_si (mv_si (mv_si (mv_sr (pr_clear P (mv_sr σ 2 5 (some P))) 22 3 (some P)) 21 0 0) 21 1 (-1)) 2 4 (-1)) 2 15 0) 2 6 0
theorem Ph_sr {P : Nat} {σ : mv_H} {o k : Nat} {x : Option Nat} (hP : PQ P) (h : Ph P (mv_r σ)) (ho : o = 2 ∨ o = 22 ∨ o = 3 ∨ o = 64) : Ph P (mv_r (mv_sr σ o k x)) := fun o' k' v e => by
  show mv_u (mv_r σ) o k x o' k' = some v
  unfold PQ at hP
  rw [mv_u_ne _ _ (fun z => by
    unfold mp at e
    rw [if_neg (by omega), if_neg (by omega)] at e
    cases e)]
  exact h o' k' v e
section RBS
variable {P M : Nat} {σ τ : mv_H} {th s ns no h : Nat} {bl ol : List Bk} {gi : Prop}
theorem WN.len {n sl : Nat} {v : Int32} (k : WN P M σ n th sl no) (hP : PQ P) (hv : 0 ≤ v.toInt ∧ v.toInt ≤ 64) : WN P M (mv_si σ P 0 v) n th sl no := by
  obtain ⟨h1, ⟨k1, k2, k3, k4, k5, k6, k7, k8⟩, h3, h4, h5, h6, h7⟩ := k
  unfold PQ at hP
  have io : ∀ o y, ¬ (o = P ∧ y = 0) → mv_i (mv_si σ P 0 v) o y = mv_i σ o y := fun o y q => ri_ne q
  have i0 : mv_i (mv_si σ P 0 v) P 0 = v := ri_eq _ _ _ _
  have ea : mv_a (mv_si σ P 0 v) = mv_a σ := rfl
  unfold WN NM Th Ns
  rw [ea, i0, io P 1 (by omega), io P 6 (by omega), io P 7 (by omega), io P 8 (by omega), io P 9 (by omega), io P 10 (by omega), io 13 7 (by omega), io 13 9 (by omega)]
  exact ⟨h1, ⟨k1, k2, k3, k4, hv.1, hv.2, k7, k8⟩, h3, h4, h5, h6, h7⟩
theorem KX.len {v : Int32} (k : KX P σ th s ns no bl ol h gi) (hP : PQ P) : KX P (mv_si σ P 0 v) th s ns no bl ol h gi := by
  unfold PQ at hP
  exact k.fr (ri_ne (by omega)) (ri_ne (by omega)) (ri_ne (by omega)) rfl rfl rfl rfl rfl rfl rfl (fun q => by rw [ri_ne (by omega)] at q; exact q)
/-- a turn in an EXPR -/
theorem WE.next {n sz a a2 v e0 bs bd : Nat} {f0 : Nat → Int32} {g0 : Nat → Int64} {ms : List Mk} (hP : PQ P) (g : RF P σ τ) (m : Int32) (hX : XM P th e0 bs (BLx th e0 f0 g0 (mv_a σ (P + 7)) no ol (mv_i σ 2 7 = 4 ∨ 0 ≤ (mv_i σ 2 9).toInt)) f0 g0 ns τ ms (sm wt ms + v) (sm wr ms + v) s) (hI : TI τ sz bd ms s a2) (ha : a ≤ a2)
    (hB : ¬ bl = [] ∧ (mv_i σ 2 15).toInt = bl.length ∧ BkR (mv_a σ 28) (mv_a σ 29) (mv_a σ 30) (mv_a σ 31) g0 (mv_i σ 13 7).toInt bl ∧ Bo f0 e0 ol ∧ Gl (mv_i σ 2 7) bs bd bl.length (mv_i σ 2 9).toInt n th (mv_i σ 13 9).toInt ∧ Gx (mv_i σ 2 7) g0 (mv_i σ 2 10) bl ol) (hgt : mv_i σ 2 7 = 1 ∨ (0 ≤ (mv_i σ 2 8).toInt ∧ (mv_i σ 2 8).toInt < 32770)) (hn2 : 2 * ns + 2 ≤ a) (hn4 : mv_i σ 2 7 = 1 ∨ mv_i σ 2 7 = 2 ∨ mv_i σ 2 7 = 3 → 2 * ns + 4 ≤ a) (hnc : no ≤ nCd (mv_a σ 4) a) : WE P (mv_si τ 2 6 m) n sz th no a2 v := by
  have hP2 := hP
  unfold PQ at hP2
  have i2 : ∀ k, k ≠ 6 → mv_i (mv_si τ 2 6 m) 2 k = mv_i σ 2 k := fun k q => (ri_ne (by omega)).trans (g.1 2 k (by omega))
  have i13 : ∀ k, mv_i (mv_si τ 2 6 m) 13 k = mv_i σ 13 k := fun k => (ri_ne (by omega)).trans (g.1 13 k (by omega))
  have ea : mv_a (mv_si τ 2 6 m) = mv_a τ := rfl
  have a7 : mv_a τ (P + 7) = mv_a σ (P + 7) := g.2.1 _ (by omega)
  have hX2 : XM P th e0 bs (BLx th e0 f0 g0 (mv_a σ (P + 7)) no ol (mv_i σ 2 7 = 4 ∨ 0 ≤ (mv_i σ 2 9).toInt)) f0 g0 ns (mv_si τ 2 6 m) ms (sm wt ms + v) (sm wr ms + v) s := hX.fr (ri_ne (by omega)) (ri_ne (by omega)) (ri_ne (by omega)) (ri_ne (by omega)) rfl rfl rfl rfl rfl
  have := nCd_mono (mv_a σ 4) ha
  refine ⟨e0, bs, bd, s, ns, f0, g0, bl, ol, ms, ⟨?_, hI.up (funext fun k => ri_ne (by omega)) (Nat.le_refl _) (Nat.le_refl _) hI.2.2.2.2.2.2⟩, ?_, ?_, by omega, ?_, ?_⟩
  · rw [ea, a7, i2 7 (by omega), i2 9 (by omega)]
    exact hX2
  · rw [ea, i2 15 (by omega), i2 7 (by omega), i2 9 (by omega), i2 10 (by omega), i13, i13, g.2.1 28 (by omega), g.2.1 29 (by omega), g.2.1 30 (by omega), g.2.1 31 (by omega)]
    exact hB
  · rw [i2 7 (by omega), i2 8 (by omega)]
    exact hgt
  · rw [i2 7 (by omega)]
    exact fun q => by have := hn4 q; omega
  · rw [ea, g.2.1 4 (by omega)]
    omega
end RBS
def y_Weaver_begin : MethodName := ⟨"MachineLoom$Weaver", "begin", "(LMachineLoom$Program;)V"⟩
abbrev b_Weaver_begin : ByteArray := prog_12_method_3_code
theorem kc_Weaver_begin : Cond.code y_Weaver_begin b_Weaver_begin 2 (Option.none : Option Jvm.ClassFile.FieldType) ∈ ma := ma_of (tb_4 _ (List.mem_of_getElem? (i := 63) rfl)) rfl
theorem k_784 : (Jvm.Cond.methodLink "MachineLoom$Weaver" (128 : Nat) ({ cls := "MachineLoom$Program", name := "clear", desc := "()V" } : Jvm.MethodName)) ∈ ma := ma_of (tb_4 _ (List.mem_of_getElem? (i := 64) rfl)) rfl
theorem k_407 : (Jvm.Cond.instanceMethod ({ cls := "MachineLoom$Program", name := "clear", desc := "()V" } : Jvm.MethodName)) ∈ ma := ma_of (tb_2 _ (List.mem_of_getElem? (i := 167) rfl)) rfl
theorem k_408 : (Jvm.Cond.selects "MachineLoom$Program" ({ cls := "MachineLoom$Program", name := "clear", desc := "()V" } : Jvm.MethodName) ({ cls := "MachineLoom$Program", name := "clear", desc := "()V" } : Jvm.MethodName)) ∈ ma := ma_of (tb_2 _ (List.mem_of_getElem? (i := 168) rfl)) rfl
theorem k_196 : (Jvm.Cond.fieldLink "MachineLoom$Weaver" (129 : Nat) "MachineLoom$Exprs" "program" "LMachineLoom$Program;") ∈ ma := ma_of (tb_1 _ (List.mem_of_getElem? (i := 196) rfl)) rfl
theorem k_785 : (Jvm.Cond.methodLink "MachineLoom$Weaver" (99 : Nat) ({ cls := "MachineLoom$Faults", name := "clear", desc := "()V" } : Jvm.MethodName)) ∈ ma := ma_of (tb_4 _ (List.mem_of_getElem? (i := 65) rfl)) rfl
theorem k_786 : (Jvm.Cond.instanceMethod ({ cls := "MachineLoom$Faults", name := "clear", desc := "()V" } : Jvm.MethodName)) ∈ ma := ma_of (tb_4 _ (List.mem_of_getElem? (i := 66) rfl)) rfl
theorem k_787 : (Jvm.Cond.selects "MachineLoom$Faults" ({ cls := "MachineLoom$Faults", name := "clear", desc := "()V" } : Jvm.MethodName) ({ cls := "MachineLoom$Faults", name := "clear", desc := "()V" } : Jvm.MethodName)) ∈ ma := ma_of (tb_4 _ (List.mem_of_getElem? (i := 67) rfl)) rfl
theorem d_Weaver_begin_0 : decode b_Weaver_begin 0 = .ok (.aload_n 0, 1) := by decide +kernel
theorem d_Weaver_begin_1 : decode b_Weaver_begin 1 = .ok (.aload_n 1, 1) := by decide +kernel
theorem d_Weaver_begin_2 : decode b_Weaver_begin 2 = .ok (.putfield 113, 3) := by decide +kernel
theorem d_Weaver_begin_5 : decode b_Weaver_begin 5 = .ok (.aload_n 0, 1) := by decide +kernel
theorem d_Weaver_begin_6 : decode b_Weaver_begin 6 = .ok (.getfield 113, 3) := by decide +kernel
theorem d_Weaver_begin_9 : decode b_Weaver_begin 9 = .ok (.invokevirtual 128, 3) := by decide +kernel
theorem d_Weaver_begin_12 : decode b_Weaver_begin 12 = .ok (.aload_n 0, 1) := by decide +kernel
theorem d_Weaver_begin_13 : decode b_Weaver_begin 13 = .ok (.getfield 43, 3) := by decide +kernel
theorem d_Weaver_begin_16 : decode b_Weaver_begin 16 = .ok (.aload_n 1, 1) := by decide +kernel
theorem d_Weaver_begin_17 : decode b_Weaver_begin 17 = .ok (.putfield 129, 3) := by decide +kernel
theorem d_Weaver_begin_20 : decode b_Weaver_begin 20 = .ok (.aload_n 0, 1) := by decide +kernel
theorem d_Weaver_begin_21 : decode b_Weaver_begin 21 = .ok (.getfield 34, 3) := by decide +kernel
theorem d_Weaver_begin_24 : decode b_Weaver_begin 24 = .ok (.invokevirtual 99, 3) := by decide +kernel
theorem d_Weaver_begin_27 : decode b_Weaver_begin 27 = .ok (.aload_n 0, 1) := by decide +kernel
theorem d_Weaver_begin_28 : decode b_Weaver_begin 28 = .ok (.iconst (-1), 1) := by decide +kernel
theorem d_Weaver_begin_29 : decode b_Weaver_begin 29 = .ok (.putfield 130, 3) := by decide +kernel
theorem d_Weaver_begin_32 : decode b_Weaver_begin 32 = .ok (.aload_n 0, 1) := by decide +kernel
theorem d_Weaver_begin_33 : decode b_Weaver_begin 33 = .ok (.iconst 0, 1) := by decide +kernel
theorem d_Weaver_begin_34 : decode b_Weaver_begin 34 = .ok (.putfield 133, 3) := by decide +kernel
theorem d_Weaver_begin_37 : decode b_Weaver_begin 37 = .ok (.aload_n 0, 1) := by decide +kernel
theorem d_Weaver_begin_38 : decode b_Weaver_begin 38 = .ok (.iconst 0, 1) := by decide +kernel
theorem d_Weaver_begin_39 : decode b_Weaver_begin 39 = .ok (.putfield 75, 3) := by decide +kernel
theorem d_Weaver_begin_42 : decode b_Weaver_begin 42 = .ok (.return_, 1) := by decide +kernel
set_option maxHeartbeats 4000000 in
set_option maxRecDepth 100000 in
theorem c_Weaver_begin_a (l : Launch) {dA : FieldType → ClassId} {D : va_G} {al : Nat → Nat} {ext : mv_Sh} {sk sv : Nat → Nat} (hi : mv_inj (mg dA D al ext)) (σ : mv_H) (hm : mh (mv_r σ)) (hq : Ph 32 (mv_r σ)) : mv_C l y_Weaver_begin (Cond.code y_Weaver_begin b_Weaver_begin 2 (Option.none : Option Jvm.ClassFile.FieldType) :: ma) ({ frames := 1, cells := 0, slots := 0, locals := 20 }) (mg dA D al ext) (mK sk sv) [.ref (al 2), .ref (al 32)] σ (mv_Rv (fun σ1 => σ1 = w_beg 32 σ ∧ Rw 32 (mv_r σ1))) := by
  refine mv_C.ofV (cc := b_Weaver_begin) (nL := 2) (ret := (Option.none : Option Jvm.ClassFile.FieldType)) (by decide +kernel) rfl hi (Nat.le_of_ble_eq_true rfl) ?_
  intro p e s m below meth c B hNs hr hnm hno
  have hP : PQ 32 := by unfold PQ; omega
  refine mv_aload_n (pc := 0) B d_Weaver_begin_0 rfl 0 rfl ?_
  refine mv_aload_n (pc := 1) B d_Weaver_begin_1 rfl 1 rfl ?_
  refine mv_putR (pc := 2) (ci := 1) (C := R_Weaver) (T := F_Weaver) (N := 16) B 5 rfl rfl (by decide) i_Weaver t_Weaver_ok n_Weaver (B.2.2.2.1 _ k_235) rfl rfl d_Weaver_begin_2 ?_
  have hm1 : mh (mv_r (mv_sr σ 2 5 (some 32))) := mh_sr hm rfl
  have hq1 : Ph 32 (mv_r (mv_sr σ 2 5 (some 32))) := Ph_sr hP hq (by omega)
  refine mv_aload_n (pc := 5) B d_Weaver_begin_5 rfl 0 rfl ?_
  refine mv_getR (pc := 6) (ci := 1) (C := R_Weaver) (T := F_Weaver) (N := 16) B 5 rfl rfl (by decide) i_Weaver (B.2.2.2.1 _ k_235) rfl (mv_u_same (mv_r σ) 2 5 (some 32)) d_Weaver_begin_6 ?_
  refine mv_callVv (pc := 9) (n := 0) (ci := 7) (C := R_Program) B (mK_ok sk sv) hNs rfl rfl (c_Program_clear_a l hi _) rfl (ma_goodc kc_Program_clear) (B.2.2.2.1 _ k_784) (B.2.2.2.1 _ k_407) (B.2.2.2.1 _ k_408) (B.2.2.2.1 _ k_8) ⟨by decide +kernel, by decide +kernel, by decide +kernel⟩ rfl d_Weaver_begin_9 rfl (Nat.le_of_ble_eq_true rfl) ⟨by decide, by decide⟩ ⟨by decide, by decide⟩ ⟨by decide, by decide⟩ (mv_noH hno _) (fun σ9 h9 => ?_)
  subst h9
  refine mv_aload_n (pc := 12) B d_Weaver_begin_12 rfl 0 rfl ?_
  refine mv_getR (pc := 13) (ci := 1) (C := R_Weaver) (T := F_Weaver) (N := 16) B 3 rfl rfl (by decide) i_Weaver (B.2.2.2.1 _ k_232) rfl (hm1 _ 3 _ rfl) d_Weaver_begin_13 ?_
  refine mv_aload_n (pc := 16) B d_Weaver_begin_16 rfl 1 rfl ?_
  refine mv_putR (pc := 17) (ci := 6) (C := R_Exprs) (T := F_Exprs) (N := 11) B 3 rfl rfl (by decide) i_Exprs t_Exprs_ok n_Exprs (B.2.2.2.1 _ k_196) rfl rfl d_Weaver_begin_17 ?_
  have hm2 : mh (mv_r (mv_sr (pr_clear 32 (mv_sr σ 2 5 (some 32))) 22 3 (some 32))) := mh_sr hm1 rfl
  have hq2 : Ph 32 (mv_r (mv_sr (pr_clear 32 (mv_sr σ 2 5 (some 32))) 22 3 (some 32))) := Ph_sr hP hq1 (by omega)
  refine mv_aload_n (pc := 20) B d_Weaver_begin_20 rfl 0 rfl ?_
  refine mv_getR (pc := 21) (ci := 1) (C := R_Weaver) (T := F_Weaver) (N := 16) B 2 rfl rfl (by decide) i_Weaver (B.2.2.2.1 _ k_230) rfl (hm2 _ 2 _ rfl) d_Weaver_begin_21 ?_
  refine mv_callVv (pc := 24) (n := 0) (ci := 5) (C := R_Faults) B (mK_ok sk sv) hNs rfl rfl (c_Faults_clear l hi _) rfl (ma_goodc kc_Faults_clear) (B.2.2.2.1 _ k_785) (B.2.2.2.1 _ k_786) (B.2.2.2.1 _ k_787) (B.2.2.2.1 _ k_6) ⟨by decide +kernel, by decide +kernel, by decide +kernel⟩ rfl d_Weaver_begin_24 rfl (Nat.le_of_ble_eq_true rfl) ⟨by decide, by decide⟩ ⟨by decide, by decide⟩ ⟨by decide, by decide⟩ (mv_noH hno _) (fun σ24 h24 => ?_)
  subst h24
  refine mv_aload_n (pc := 27) B d_Weaver_begin_27 rfl 0 rfl ?_
  refine mv_iconst (pc := 28) (v := -1) B d_Weaver_begin_28 (by decide) ?_
  refine mv_putI (pc := 29) (ci := 1) (C := R_Weaver) (T := F_Weaver) (N := 16) B 4 rfl rfl (by decide) i_Weaver t_Weaver_ok n_Weaver (B.2.2.2.1 _ k_233) rfl rfl rfl rfl d_Weaver_begin_29 ?_
  refine mv_aload_n (pc := 32) B d_Weaver_begin_32 rfl 0 rfl ?_
  refine mv_iconst (pc := 33) (v := 0) B d_Weaver_begin_33 (by decide) ?_
  refine mv_putI (pc := 34) (ci := 1) (C := R_Weaver) (T := F_Weaver) (N := 16) B 15 rfl rfl (by decide) i_Weaver t_Weaver_ok n_Weaver (B.2.2.2.1 _ k_245) rfl rfl rfl rfl d_Weaver_begin_34 ?_
  refine mv_aload_n (pc := 37) B d_Weaver_begin_37 rfl 0 rfl ?_
  refine mv_iconst (pc := 38) (v := 0) B d_Weaver_begin_38 (by decide) ?_
  refine mv_putI (pc := 39) (ci := 1) (C := R_Weaver) (T := F_Weaver) (N := 16) B 6 rfl rfl (by decide) i_Weaver t_Weaver_ok n_Weaver (B.2.2.2.1 _ k_236) rfl rfl rfl rfl d_Weaver_begin_39 ?_
  exact mv_vret (pc := 42) B hr d_Weaver_begin_42 (Nat.le_refl _) (Nat.le_refl _) ⟨rfl, rfl, hm2, hq2, rfl, rfl⟩
set_option maxHeartbeats 4000000 in
set_option maxRecDepth 100000 in
theorem c_Weaver_begin_b (l : Launch) {dA : FieldType → ClassId} {D : va_G} {al : Nat → Nat} {ext : mv_Sh} {sk sv : Nat → Nat} (hi : mv_inj (mg dA D al ext)) (σ : mv_H) (hm : mh (mv_r σ)) (hq : Ph 48 (mv_r σ)) : mv_C l y_Weaver_begin (Cond.code y_Weaver_begin b_Weaver_begin 2 (Option.none : Option Jvm.ClassFile.FieldType) :: ma) ({ frames := 1, cells := 0, slots := 0, locals := 20 }) (mg dA D al ext) (mK sk sv) [.ref (al 2), .ref (al 48)] σ (mv_Rv (fun σ1 => σ1 = w_beg 48 σ ∧ Rw 48 (mv_r σ1))) := by
  refine mv_C.ofV (cc := b_Weaver_begin) (nL := 2) (ret := (Option.none : Option Jvm.ClassFile.FieldType)) (by decide +kernel) rfl hi (Nat.le_of_ble_eq_true rfl) ?_
  intro p e s m below meth c B hNs hr hnm hno
  have hP : PQ 48 := by unfold PQ; omega
  refine mv_aload_n (pc := 0) B d_Weaver_begin_0 rfl 0 rfl ?_
  refine mv_aload_n (pc := 1) B d_Weaver_begin_1 rfl 1 rfl ?_
  refine mv_putR (pc := 2) (ci := 1) (C := R_Weaver) (T := F_Weaver) (N := 16) B 5 rfl rfl (by decide) i_Weaver t_Weaver_ok n_Weaver (B.2.2.2.1 _ k_235) rfl rfl d_Weaver_begin_2 ?_
  have hm1 : mh (mv_r (mv_sr σ 2 5 (some 48))) := mh_sr hm rfl
  have hq1 : Ph 48 (mv_r (mv_sr σ 2 5 (some 48))) := Ph_sr hP hq (by omega)
  refine mv_aload_n (pc := 5) B d_Weaver_begin_5 rfl 0 rfl ?_
  refine mv_getR (pc := 6) (ci := 1) (C := R_Weaver) (T := F_Weaver) (N := 16) B 5 rfl rfl (by decide) i_Weaver (B.2.2.2.1 _ k_235) rfl (mv_u_same (mv_r σ) 2 5 (some 48)) d_Weaver_begin_6 ?_
  refine mv_callVv (pc := 9) (n := 0) (ci := 7) (C := R_Program) B (mK_ok sk sv) hNs rfl rfl (c_Program_clear_b l hi _) rfl (ma_goodc kc_Program_clear) (B.2.2.2.1 _ k_784) (B.2.2.2.1 _ k_407) (B.2.2.2.1 _ k_408) (B.2.2.2.1 _ k_8) ⟨by decide +kernel, by decide +kernel, by decide +kernel⟩ rfl d_Weaver_begin_9 rfl (Nat.le_of_ble_eq_true rfl) ⟨by decide, by decide⟩ ⟨by decide, by decide⟩ ⟨by decide, by decide⟩ (mv_noH hno _) (fun σ9 h9 => ?_)
  subst h9
  refine mv_aload_n (pc := 12) B d_Weaver_begin_12 rfl 0 rfl ?_
  refine mv_getR (pc := 13) (ci := 1) (C := R_Weaver) (T := F_Weaver) (N := 16) B 3 rfl rfl (by decide) i_Weaver (B.2.2.2.1 _ k_232) rfl (hm1 _ 3 _ rfl) d_Weaver_begin_13 ?_
  refine mv_aload_n (pc := 16) B d_Weaver_begin_16 rfl 1 rfl ?_
  refine mv_putR (pc := 17) (ci := 6) (C := R_Exprs) (T := F_Exprs) (N := 11) B 3 rfl rfl (by decide) i_Exprs t_Exprs_ok n_Exprs (B.2.2.2.1 _ k_196) rfl rfl d_Weaver_begin_17 ?_
  have hm2 : mh (mv_r (mv_sr (pr_clear 48 (mv_sr σ 2 5 (some 48))) 22 3 (some 48))) := mh_sr hm1 rfl
  have hq2 : Ph 48 (mv_r (mv_sr (pr_clear 48 (mv_sr σ 2 5 (some 48))) 22 3 (some 48))) := Ph_sr hP hq1 (by omega)
  refine mv_aload_n (pc := 20) B d_Weaver_begin_20 rfl 0 rfl ?_
  refine mv_getR (pc := 21) (ci := 1) (C := R_Weaver) (T := F_Weaver) (N := 16) B 2 rfl rfl (by decide) i_Weaver (B.2.2.2.1 _ k_230) rfl (hm2 _ 2 _ rfl) d_Weaver_begin_21 ?_
  refine mv_callVv (pc := 24) (n := 0) (ci := 5) (C := R_Faults) B (mK_ok sk sv) hNs rfl rfl (c_Faults_clear l hi _) rfl (ma_goodc kc_Faults_clear) (B.2.2.2.1 _ k_785) (B.2.2.2.1 _ k_786) (B.2.2.2.1 _ k_787) (B.2.2.2.1 _ k_6) ⟨by decide +kernel, by decide +kernel, by decide +kernel⟩ rfl d_Weaver_begin_24 rfl (Nat.le_of_ble_eq_true rfl) ⟨by decide, by decide⟩ ⟨by decide, by decide⟩ ⟨by decide, by decide⟩ (mv_noH hno _) (fun σ24 h24 => ?_)
  subst h24
  refine mv_aload_n (pc := 27) B d_Weaver_begin_27 rfl 0 rfl ?_
  refine mv_iconst (pc := 28) (v := -1) B d_Weaver_begin_28 (by decide) ?_
  refine mv_putI (pc := 29) (ci := 1) (C := R_Weaver) (T := F_Weaver) (N := 16) B 4 rfl rfl (by decide) i_Weaver t_Weaver_ok n_Weaver (B.2.2.2.1 _ k_233) rfl rfl rfl rfl d_Weaver_begin_29 ?_
  refine mv_aload_n (pc := 32) B d_Weaver_begin_32 rfl 0 rfl ?_
  refine mv_iconst (pc := 33) (v := 0) B d_Weaver_begin_33 (by decide) ?_
  refine mv_putI (pc := 34) (ci := 1) (C := R_Weaver) (T := F_Weaver) (N := 16) B 15 rfl rfl (by decide) i_Weaver t_Weaver_ok n_Weaver (B.2.2.2.1 _ k_245) rfl rfl rfl rfl d_Weaver_begin_34 ?_
  refine mv_aload_n (pc := 37) B d_Weaver_begin_37 rfl 0 rfl ?_
  refine mv_iconst (pc := 38) (v := 0) B d_Weaver_begin_38 (by decide) ?_
  refine mv_putI (pc := 39) (ci := 1) (C := R_Weaver) (T := F_Weaver) (N := 16) B 6 rfl rfl (by decide) i_Weaver t_Weaver_ok n_Weaver (B.2.2.2.1 _ k_236) rfl rfl rfl rfl d_Weaver_begin_39 ?_
  exact mv_vret (pc := 42) B hr d_Weaver_begin_42 (Nat.le_refl _) (Nat.le_refl _) ⟨rfl, rfl, hm2, hq2, rfl, rfl⟩
set_option maxHeartbeats 4000000 in
set_option maxRecDepth 100000 in
theorem c_Weaver_begin_c (l : Launch) {dA : FieldType → ClassId} {D : va_G} {al : Nat → Nat} {sk sv : Nat → Nat} (hi : mv_inj (mg dA D al me)) (σ : mv_H) (hm : mh (mv_r σ)) (hq : Ph 145 (mv_r σ)) : mv_C l y_Weaver_begin (Cond.code y_Weaver_begin b_Weaver_begin 2 (Option.none : Option Jvm.ClassFile.FieldType) :: ma) ({ frames := 1, cells := 0, slots := 0, locals := 20 }) (mg dA D al me) (mK sk sv) [.ref (al 2), .ref (al 145)] σ (mv_Rv (fun σ1 => σ1 = w_beg 145 σ ∧ Rw 145 (mv_r σ1))) := by
  refine mv_C.ofV (cc := b_Weaver_begin) (nL := 2) (ret := (Option.none : Option Jvm.ClassFile.FieldType)) (by decide +kernel) rfl hi (Nat.le_of_ble_eq_true rfl) ?_
  intro p e s m below meth c B hNs hr hnm hno
  have hP : PQ 145 := by unfold PQ; omega
  refine mv_aload_n (pc := 0) B d_Weaver_begin_0 rfl 0 rfl ?_
  refine mv_aload_n (pc := 1) B d_Weaver_begin_1 rfl 1 rfl ?_
  refine mv_putR (pc := 2) (ci := 1) (C := R_Weaver) (T := F_Weaver) (N := 16) B 5 rfl rfl (by decide) i_Weaver t_Weaver_ok n_Weaver (B.2.2.2.1 _ k_235) rfl rfl d_Weaver_begin_2 ?_
  have hm1 : mh (mv_r (mv_sr σ 2 5 (some 145))) := mh_sr hm rfl
  have hq1 : Ph 145 (mv_r (mv_sr σ 2 5 (some 145))) := Ph_sr hP hq (by omega)
  refine mv_aload_n (pc := 5) B d_Weaver_begin_5 rfl 0 rfl ?_
  refine mv_getR (pc := 6) (ci := 1) (C := R_Weaver) (T := F_Weaver) (N := 16) B 5 rfl rfl (by decide) i_Weaver (B.2.2.2.1 _ k_235) rfl (mv_u_same (mv_r σ) 2 5 (some 145)) d_Weaver_begin_6 ?_
  refine mv_callVv (pc := 9) (n := 0) (ci := 7) (C := R_Program) B (mK_ok sk sv) hNs rfl rfl (c_Program_clear_c l hi _) rfl (ma_goodc kc_Program_clear) (B.2.2.2.1 _ k_784) (B.2.2.2.1 _ k_407) (B.2.2.2.1 _ k_408) (B.2.2.2.1 _ k_8) ⟨by decide +kernel, by decide +kernel, by decide +kernel⟩ rfl d_Weaver_begin_9 rfl (Nat.le_of_ble_eq_true rfl) ⟨by decide, by decide⟩ ⟨by decide, by decide⟩ ⟨by decide, by decide⟩ (mv_noH hno _) (fun σ9 h9 => ?_)
  subst h9
  refine mv_aload_n (pc := 12) B d_Weaver_begin_12 rfl 0 rfl ?_
  refine mv_getR (pc := 13) (ci := 1) (C := R_Weaver) (T := F_Weaver) (N := 16) B 3 rfl rfl (by decide) i_Weaver (B.2.2.2.1 _ k_232) rfl (hm1 _ 3 _ rfl) d_Weaver_begin_13 ?_
  refine mv_aload_n (pc := 16) B d_Weaver_begin_16 rfl 1 rfl ?_
  refine mv_putR (pc := 17) (ci := 6) (C := R_Exprs) (T := F_Exprs) (N := 11) B 3 rfl rfl (by decide) i_Exprs t_Exprs_ok n_Exprs (B.2.2.2.1 _ k_196) rfl rfl d_Weaver_begin_17 ?_
  have hm2 : mh (mv_r (mv_sr (pr_clear 145 (mv_sr σ 2 5 (some 145))) 22 3 (some 145))) := mh_sr hm1 rfl
  have hq2 : Ph 145 (mv_r (mv_sr (pr_clear 145 (mv_sr σ 2 5 (some 145))) 22 3 (some 145))) := Ph_sr hP hq1 (by omega)
  refine mv_aload_n (pc := 20) B d_Weaver_begin_20 rfl 0 rfl ?_
  refine mv_getR (pc := 21) (ci := 1) (C := R_Weaver) (T := F_Weaver) (N := 16) B 2 rfl rfl (by decide) i_Weaver (B.2.2.2.1 _ k_230) rfl (hm2 _ 2 _ rfl) d_Weaver_begin_21 ?_
  refine mv_callVv (pc := 24) (n := 0) (ci := 5) (C := R_Faults) B (mK_ok sk sv) hNs rfl rfl (c_Faults_clear l hi _) rfl (ma_goodc kc_Faults_clear) (B.2.2.2.1 _ k_785) (B.2.2.2.1 _ k_786) (B.2.2.2.1 _ k_787) (B.2.2.2.1 _ k_6) ⟨by decide +kernel, by decide +kernel, by decide +kernel⟩ rfl d_Weaver_begin_24 rfl (Nat.le_of_ble_eq_true rfl) ⟨by decide, by decide⟩ ⟨by decide, by decide⟩ ⟨by decide, by decide⟩ (mv_noH hno _) (fun σ24 h24 => ?_)
  subst h24
  refine mv_aload_n (pc := 27) B d_Weaver_begin_27 rfl 0 rfl ?_
  refine mv_iconst (pc := 28) (v := -1) B d_Weaver_begin_28 (by decide) ?_
  refine mv_putI (pc := 29) (ci := 1) (C := R_Weaver) (T := F_Weaver) (N := 16) B 4 rfl rfl (by decide) i_Weaver t_Weaver_ok n_Weaver (B.2.2.2.1 _ k_233) rfl rfl rfl rfl d_Weaver_begin_29 ?_
  refine mv_aload_n (pc := 32) B d_Weaver_begin_32 rfl 0 rfl ?_
  refine mv_iconst (pc := 33) (v := 0) B d_Weaver_begin_33 (by decide) ?_
  refine mv_putI (pc := 34) (ci := 1) (C := R_Weaver) (T := F_Weaver) (N := 16) B 15 rfl rfl (by decide) i_Weaver t_Weaver_ok n_Weaver (B.2.2.2.1 _ k_245) rfl rfl rfl rfl d_Weaver_begin_34 ?_
  refine mv_aload_n (pc := 37) B d_Weaver_begin_37 rfl 0 rfl ?_
  refine mv_iconst (pc := 38) (v := 0) B d_Weaver_begin_38 (by decide) ?_
  refine mv_putI (pc := 39) (ci := 1) (C := R_Weaver) (T := F_Weaver) (N := 16) B 6 rfl rfl (by decide) i_Weaver t_Weaver_ok n_Weaver (B.2.2.2.1 _ k_236) rfl rfl rfl rfl d_Weaver_begin_39 ?_
  exact mv_vret (pc := 42) B hr d_Weaver_begin_42 (Nat.le_refl _) (Nat.le_refl _) ⟨rfl, rfl, hm2, hq2, rfl, rfl⟩
def y_Weaver_readBits : MethodName := ⟨"MachineLoom$Weaver", "readBits", "()V"⟩
abbrev b_Weaver_readBits : ByteArray := prog_12_method_6_code
theorem kc_Weaver_readBits : Cond.code y_Weaver_readBits b_Weaver_readBits 4 (Option.none : Option Jvm.ClassFile.FieldType) ∈ ma := ma_of (tb_6 _ (List.mem_of_getElem? (i := 65) rfl)) rfl
theorem k_1278 : (Jvm.Cond.constantLong "MachineLoom$Weaver" (147 : Nat) (8 : Int64)) ∈ ma := ma_of (tb_6 _ (List.mem_of_getElem? (i := 78) rfl)) rfl
theorem k_1279 : (Jvm.Cond.constantLong "MachineLoom$Weaver" (149 : Nat) (16 : Int64)) ∈ ma := ma_of (tb_6 _ (List.mem_of_getElem? (i := 79) rfl)) rfl
theorem k_1280 : (Jvm.Cond.constantLong "MachineLoom$Weaver" (151 : Nat) (32 : Int64)) ∈ ma := ma_of (tb_6 _ (List.mem_of_getElem? (i := 80) rfl)) rfl
theorem k_1281 : (Jvm.Cond.constantLong "MachineLoom$Weaver" (153 : Nat) (64 : Int64)) ∈ ma := ma_of (tb_6 _ (List.mem_of_getElem? (i := 81) rfl)) rfl
theorem d_Weaver_readBits_0 : decode b_Weaver_readBits 0 = .ok (.aload_n 0, 1) := by decide +kernel
theorem d_Weaver_readBits_1 : decode b_Weaver_readBits 1 = .ok (.getfield 12, 3) := by decide +kernel
theorem d_Weaver_readBits_4 : decode b_Weaver_readBits 4 = .ok (.sipush 200, 3) := by decide +kernel
theorem d_Weaver_readBits_7 : decode b_Weaver_readBits 7 = .ok (.invokevirtual 143, 3) := by decide +kernel
theorem d_Weaver_readBits_10 : decode b_Weaver_readBits 10 = .ok (.pop, 1) := by decide +kernel
theorem d_Weaver_readBits_11 : decode b_Weaver_readBits 11 = .ok (.aload_n 0, 1) := by decide +kernel
theorem d_Weaver_readBits_12 : decode b_Weaver_readBits 12 = .ok (.getfield 12, 3) := by decide +kernel
theorem d_Weaver_readBits_15 : decode b_Weaver_readBits 15 = .ok (.iconst 4, 1) := by decide +kernel
theorem d_Weaver_readBits_16 : decode b_Weaver_readBits 16 = .ok (.invokevirtual 143, 3) := by decide +kernel
theorem d_Weaver_readBits_19 : decode b_Weaver_readBits 19 = .ok (.istore_n 1, 1) := by decide +kernel
theorem d_Weaver_readBits_20 : decode b_Weaver_readBits 20 = .ok (.aload_n 0, 1) := by decide +kernel
theorem d_Weaver_readBits_21 : decode b_Weaver_readBits 21 = .ok (.getfield 12, 3) := by decide +kernel
theorem d_Weaver_readBits_24 : decode b_Weaver_readBits 24 = .ok (.bipush 59, 2) := by decide +kernel
theorem d_Weaver_readBits_26 : decode b_Weaver_readBits 26 = .ok (.invokevirtual 143, 3) := by decide +kernel
theorem d_Weaver_readBits_29 : decode b_Weaver_readBits 29 = .ok (.pop, 1) := by decide +kernel
theorem d_Weaver_readBits_30 : decode b_Weaver_readBits 30 = .ok (.aload_n 0, 1) := by decide +kernel
theorem d_Weaver_readBits_31 : decode b_Weaver_readBits 31 = .ok (.getfield 12, 3) := by decide +kernel
theorem d_Weaver_readBits_34 : decode b_Weaver_readBits 34 = .ok (.getfield 139, 3) := by decide +kernel
theorem d_Weaver_readBits_37 : decode b_Weaver_readBits 37 = .ok (.iload_n 1, 1) := by decide +kernel
theorem d_Weaver_readBits_38 : decode b_Weaver_readBits 38 = .ok (.laload, 1) := by decide +kernel
theorem d_Weaver_readBits_39 : decode b_Weaver_readBits 39 = .ok (.lstore_n 2, 1) := by decide +kernel
theorem d_Weaver_readBits_40 : decode b_Weaver_readBits 40 = .ok (.lload_n 2, 1) := by decide +kernel
theorem d_Weaver_readBits_41 : decode b_Weaver_readBits 41 = .ok (.ldc2_w 147, 3) := by decide +kernel
theorem d_Weaver_readBits_44 : decode b_Weaver_readBits 44 = .ok (.lcmp, 1) := by decide +kernel
theorem d_Weaver_readBits_45 : decode b_Weaver_readBits 45 = .ok (.ifCond .eq (27), 3) := by decide +kernel
theorem d_Weaver_readBits_48 : decode b_Weaver_readBits 48 = .ok (.lload_n 2, 1) := by decide +kernel
theorem d_Weaver_readBits_49 : decode b_Weaver_readBits 49 = .ok (.ldc2_w 149, 3) := by decide +kernel
theorem d_Weaver_readBits_52 : decode b_Weaver_readBits 52 = .ok (.lcmp, 1) := by decide +kernel
theorem d_Weaver_readBits_53 : decode b_Weaver_readBits 53 = .ok (.ifCond .eq (19), 3) := by decide +kernel
theorem d_Weaver_readBits_56 : decode b_Weaver_readBits 56 = .ok (.lload_n 2, 1) := by decide +kernel
theorem d_Weaver_readBits_57 : decode b_Weaver_readBits 57 = .ok (.ldc2_w 151, 3) := by decide +kernel
theorem d_Weaver_readBits_60 : decode b_Weaver_readBits 60 = .ok (.lcmp, 1) := by decide +kernel
theorem d_Weaver_readBits_61 : decode b_Weaver_readBits 61 = .ok (.ifCond .eq (11), 3) := by decide +kernel
theorem d_Weaver_readBits_64 : decode b_Weaver_readBits 64 = .ok (.lload_n 2, 1) := by decide +kernel
theorem d_Weaver_readBits_65 : decode b_Weaver_readBits 65 = .ok (.ldc2_w 153, 3) := by decide +kernel
theorem d_Weaver_readBits_68 : decode b_Weaver_readBits 68 = .ok (.lcmp, 1) := by decide +kernel
theorem d_Weaver_readBits_69 : decode b_Weaver_readBits 69 = .ok (.ifCond .ne (15), 3) := by decide +kernel
theorem d_Weaver_readBits_72 : decode b_Weaver_readBits 72 = .ok (.aload_n 0, 1) := by decide +kernel
theorem d_Weaver_readBits_73 : decode b_Weaver_readBits 73 = .ok (.getfield 113, 3) := by decide +kernel
theorem d_Weaver_readBits_76 : decode b_Weaver_readBits 76 = .ok (.lload_n 2, 1) := by decide +kernel
theorem d_Weaver_readBits_77 : decode b_Weaver_readBits 77 = .ok (.l2i, 1) := by decide +kernel
theorem d_Weaver_readBits_78 : decode b_Weaver_readBits 78 = .ok (.putfield 155, 3) := by decide +kernel
theorem d_Weaver_readBits_81 : decode b_Weaver_readBits 81 = .ok (.goto (9), 3) := by decide +kernel
theorem d_Weaver_readBits_84 : decode b_Weaver_readBits 84 = .ok (.aload_n 0, 1) := by decide +kernel
theorem d_Weaver_readBits_85 : decode b_Weaver_readBits 85 = .ok (.iload_n 1, 1) := by decide +kernel
theorem d_Weaver_readBits_86 : decode b_Weaver_readBits 86 = .ok (.iconst 3, 1) := by decide +kernel
theorem d_Weaver_readBits_87 : decode b_Weaver_readBits 87 = .ok (.invokevirtual 158, 3) := by decide +kernel
theorem d_Weaver_readBits_90 : decode b_Weaver_readBits 90 = .ok (.return_, 1) := by decide +kernel
set_option maxHeartbeats 4000000 in
set_option maxRecDepth 100000 in
theorem c_Weaver_readBits_a (l : Launch) {dA : FieldType → ClassId} {D : va_G} {al : Nat → Nat} {ext : mv_Sh} {sk sv : Nat → Nat} (hi : mv_inj (mg dA D al ext)) (σ : mv_H) {t tn len n z sz th sl no : Nat} (hG : WG 32 32768 512 ext σ t tn len n z sz) (hM2 : Mt (mv_a σ 24)) (hW2 : WN 32 512 σ n th sl no) (hno0 : no = 0) (hK : KX 32 σ th 0 0 no [] [] 0 True) (m0 : mv_i σ 2 6 = 0) (t7 : (mv_i σ 3 7).toInt = 1) (t8 : (mv_i σ 3 8).toInt = 0) : mv_C l y_Weaver_readBits (Cond.code y_Weaver_readBits b_Weaver_readBits 4 (Option.none : Option Jvm.ClassFile.FieldType) :: ma) ({ frames := 2, cells := 0, slots := 0, locals := 44 }) (mg dA D al ext) (mK sk sv) [.ref (al 2)] σ (mv_Rv (fun σ1 => TP 32 512 σ σ1 n sz 0)) := by
  refine mv_C.ofV (cc := b_Weaver_readBits) (nL := 4) (ret := (Option.none : Option Jvm.ClassFile.FieldType)) (by decide +kernel) rfl hi (Nat.le_of_ble_eq_true rfl) ?_
  intro p e s m below meth c B hNs hr hnm hno
  have hP : PQ 32 := by unfold PQ; omega
  have hR := hG.1
  have ht2 := hG.2.1.2.2.2.2.2.2
  have hV : WT 32 σ σ := WT0
  have hE := hG.2.2.1
  have hsz := hE.2.2.1
  have hsz2 := hE.2.2.2.1
  refine mv_aload_n (pc := 0) B d_Weaver_readBits_0 rfl 0 rfl ?_
  refine mv_getR (pc := 1) (ci := 1) (C := R_Weaver) (T := F_Weaver) (N := 16) B 0 rfl rfl (by decide) i_Weaver (B.2.2.2.1 _ k_228) rfl (hR.1 _ 0 _ rfl) d_Weaver_readBits_1 ?_
  refine mv_sipush (pc := 4) (v := 200) B d_Weaver_readBits_4 (by decide) ?_
  refine mv_callVi (pc := 7) (n := 1) (ci := 2) (C := R_Tokens) B (mK_ok sk sv) hNs rfl rfl (c_Tokens_takeN l hi _ _ hR.1 (hG.2.2.1.wt hV hP ht2) (by omega) (by omega) (by decide)) rfl (ma_goodc kc_Tokens_take) (B.2.2.2.1 _ k_1266) (B.2.2.2.1 _ k_1267) (B.2.2.2.1 _ k_1268) (B.2.2.2.1 _ k_3) ⟨by decide +kernel, by decide +kernel, by decide +kernel⟩ rfl d_Weaver_readBits_7 rfl (Nat.le_of_ble_eq_true rfl) ⟨by decide, by decide⟩ ⟨by decide, by decide⟩ ⟨by decide, by decide⟩ (mv_noH hno _) (fun v7 σ7 h7 => ?_)
  obtain ⟨a7, w7, e7, r7⟩ := h7
  have q7 := r7.1
  have z7 := fun q => (r7.2.1 q).1
  have y7 := And.intro r7.2.2.2.1 r7.2.2.2.2.1
  subst e7
  refine mv_gen (fun S10 eS10 => ?_)
  have hR : Rw 32 (mv_r S10) := by rw [eS10]; exact hR
  have hV : WT 32 σ S10 := by rw [eS10]; exact hV.tk3 _ _ _
  have hM2 : Mt (mv_a S10 24) := by rw [eS10]; exact hM2
  have hW2 : WN 32 512 S10 n th sl no := by rw [eS10]; exact hW2.tk3 hP _ _ _
  have hK : KX 32 S10 th 0 0 no [] [] 0 True := by rw [eS10]; exact hK.tok hP _ _ _
  have m0 : mv_i S10 2 6 = 0 := by rw [eS10]; exact m0
  have t7 : (mv_i S10 3 7).toInt = a7.toInt := by rw [eS10]; rfl
  have t8 : (mv_i S10 3 8).toInt = 0 := by rw [eS10]; exact t8
  have t9 : (mv_i S10 3 9).toInt = w7.toInt := by rw [eS10]; rfl
  clear eS10
  refine mv_pop (pc := 10) B d_Weaver_readBits_10 rfl ?_
  refine mv_aload_n (pc := 11) B d_Weaver_readBits_11 rfl 0 rfl ?_
  refine mv_getR (pc := 12) (ci := 1) (C := R_Weaver) (T := F_Weaver) (N := 16) B 0 rfl rfl (by decide) i_Weaver (B.2.2.2.1 _ k_228) rfl (hR.1 _ 0 _ rfl) d_Weaver_readBits_12 ?_
  refine mv_iconst (pc := 15) (v := 4) B d_Weaver_readBits_15 (by decide) ?_
  refine mv_callVi (pc := 16) (n := 1) (ci := 2) (C := R_Tokens) B (mK_ok sk sv) hNs rfl rfl (c_Tokens_takeN l hi _ _ hR.1 (hG.2.2.1.wt hV hP ht2) (by omega) (by omega) (by decide)) rfl (ma_goodc kc_Tokens_take) (B.2.2.2.1 _ k_1266) (B.2.2.2.1 _ k_1267) (B.2.2.2.1 _ k_1268) (B.2.2.2.1 _ k_3) ⟨by decide +kernel, by decide +kernel, by decide +kernel⟩ rfl d_Weaver_readBits_16 rfl (Nat.le_of_ble_eq_true rfl) ⟨by decide, by decide⟩ ⟨by decide, by decide⟩ ⟨by decide, by decide⟩ (mv_noH hno _) (fun v16 σ16 h16 => ?_)
  obtain ⟨a16, w16, e16, r16⟩ := h16
  have q16 := r16.1
  have z16 := fun q => (r16.2.1 q).1
  have y16 := And.intro r16.2.2.2.1 r16.2.2.2.2.1
  subst e16
  refine mv_gen (fun S19 eS19 => ?_)
  have hR : Rw 32 (mv_r S19) := by rw [eS19]; exact hR
  have hV : WT 32 σ S19 := by rw [eS19]; exact hV.tk3 _ _ _
  have hM2 : Mt (mv_a S19 24) := by rw [eS19]; exact hM2
  have hW2 : WN 32 512 S19 n th sl no := by rw [eS19]; exact hW2.tk3 hP _ _ _
  have hK : KX 32 S19 th 0 0 no [] [] 0 True := by rw [eS19]; exact hK.tok hP _ _ _
  have m0 : mv_i S19 2 6 = 0 := by rw [eS19]; exact m0
  have t7 : (mv_i S19 3 7).toInt = a16.toInt := by rw [eS19]; rfl
  have t8 : (mv_i S19 3 8).toInt = 0 := by rw [eS19]; exact t8
  have t9 : (mv_i S19 3 9).toInt = w16.toInt := by rw [eS19]; rfl
  clear eS19
  refine mv_istore_n (pc := 19) B d_Weaver_readBits_19 rfl (by decide) rfl ?_
  refine mv_aload_n (pc := 20) B d_Weaver_readBits_20 rfl 1 rfl ?_
  refine mv_getR (pc := 21) (ci := 1) (C := R_Weaver) (T := F_Weaver) (N := 16) B 0 rfl rfl (by decide) i_Weaver (B.2.2.2.1 _ k_228) rfl (hR.1 _ 0 _ rfl) d_Weaver_readBits_21 ?_
  refine mv_bipush (pc := 24) (v := 59) B d_Weaver_readBits_24 (by decide) ?_
  refine mv_callVi (pc := 26) (n := 1) (ci := 2) (C := R_Tokens) B (mK_ok sk sv) hNs rfl rfl (c_Tokens_takeN l hi _ _ hR.1 (hG.2.2.1.wt hV hP ht2) (by omega) (by omega) (by decide)) rfl (ma_goodc kc_Tokens_take) (B.2.2.2.1 _ k_1266) (B.2.2.2.1 _ k_1267) (B.2.2.2.1 _ k_1268) (B.2.2.2.1 _ k_3) ⟨by decide +kernel, by decide +kernel, by decide +kernel⟩ rfl d_Weaver_readBits_26 rfl (Nat.le_of_ble_eq_true rfl) ⟨by decide, by decide⟩ ⟨by decide, by decide⟩ ⟨by decide, by decide⟩ (mv_noH hno _) (fun v26 σ26 h26 => ?_)
  obtain ⟨a26, w26, e26, r26⟩ := h26
  have q26 := r26.1
  have z26 := fun q => (r26.2.1 q).1
  have y26 := And.intro r26.2.2.2.1 r26.2.2.2.2.1
  subst e26
  refine mv_gen (fun S29 eS29 => ?_)
  have hR : Rw 32 (mv_r S29) := by rw [eS29]; exact hR
  have hV : WT 32 σ S29 := by rw [eS29]; exact hV.tk3 _ _ _
  have hM2 : Mt (mv_a S29 24) := by rw [eS29]; exact hM2
  have hW2 : WN 32 512 S29 n th sl no := by rw [eS29]; exact hW2.tk3 hP _ _ _
  have hK : KX 32 S29 th 0 0 no [] [] 0 True := by rw [eS29]; exact hK.tok hP _ _ _
  have m0 : mv_i S29 2 6 = 0 := by rw [eS29]; exact m0
  have t7 : (mv_i S29 3 7).toInt = a26.toInt := by rw [eS29]; rfl
  have t8 : (mv_i S29 3 8).toInt = 0 := by rw [eS29]; exact t8
  have t9 : (mv_i S29 3 9).toInt = w26.toInt := by rw [eS29]; rfl
  clear eS29
  refine mv_pop (pc := 29) B d_Weaver_readBits_29 rfl ?_
  refine mv_aload_n (pc := 30) B d_Weaver_readBits_30 rfl 1 rfl ?_
  refine mv_getR (pc := 31) (ci := 1) (C := R_Weaver) (T := F_Weaver) (N := 16) B 0 rfl rfl (by decide) i_Weaver (B.2.2.2.1 _ k_228) rfl (hR.1 _ 0 _ rfl) d_Weaver_readBits_31 ?_
  refine mv_getR (pc := 34) (ci := 2) (C := R_Tokens) (T := F_Tokens) (N := 10) B 2 rfl rfl (by decide) i_Tokens (B.2.2.2.1 _ k_94) rfl (hR.1 _ 2 _ rfl) d_Weaver_readBits_34 ?_
  refine mv_iload_n (pc := 37) B d_Weaver_readBits_37 rfl 0 rfl ?_
  refine mv_lald (pc := 38) B rfl (i32_in y16.1 (by omega)) d_Weaver_readBits_38 ?_
  refine mv_lstore_n (pc := 39) B d_Weaver_readBits_39 rfl (by decide) rfl ?_
  refine mv_lload_n (pc := 40) B d_Weaver_readBits_40 rfl 0 rfl ?_
  refine mv_ldc2 (pc := 41) (v := 8) B (B.2.2.2.1 _ k_1278) d_Weaver_readBits_41 ?_
  refine mv_lcmp (pc := 44) B d_Weaver_readBits_44 ?_
  refine mv_if_eq (pc := 45) (tgt := 72) B d_Weaver_readBits_45 rfl (fun h45 => ?_) (fun h45 => ?_)
  · skip
    have hln : 0 ≤ (mv_b S29 6 v16.toNatClampNeg).toInt32.toInt ∧ (mv_b S29 6 v16.toNatClampNeg).toInt32.toInt ≤ 64 := by rw [(lg_cmp_eq _ _).mp h45]; decide
    refine mv_aload_n (pc := 72) B d_Weaver_readBits_72 rfl 2 rfl ?_
    refine mv_getR (pc := 73) (ci := 1) (C := R_Weaver) (T := F_Weaver) (N := 16) B 5 rfl rfl (by decide) i_Weaver (B.2.2.2.1 _ k_235) rfl hR.2.2.1 d_Weaver_readBits_73 ?_
    refine mv_lload_n (pc := 76) B d_Weaver_readBits_76 rfl 0 rfl ?_
    refine mv_l2i (pc := 77) B d_Weaver_readBits_77 ?_
    refine mv_putI (pc := 78) (ci := 7) (C := R_Program) (T := F_Program) (N := 19) B 0 rfl rfl (by decide) i_Program t_Program_ok n_Program (B.2.2.2.1 _ k_313) rfl rfl rfl rfl d_Weaver_readBits_78 ?_
    refine mv_gen (fun S81 eS81 => ?_)
    have hR : Rw 32 (mv_r S81) := by rw [eS81]; exact hR
    have hV : WT 32 σ S81 := by rw [eS81]; exact hV.p 0 _
    have hM2 : Mt (mv_a S81 24) := by rw [eS81]; exact hM2
    have hW2 : WN 32 512 S81 n th sl no := by rw [eS81]; exact hW2.len hP hln
    have hK : KX 32 S81 th 0 0 no [] [] 0 True := by rw [eS81]; exact hK.len hP
    have m0 : mv_i S81 2 6 = 0 := by rw [eS81]; exact m0
    have t7 := Eq.trans (congrArg Int32.toInt (show mv_i S81 3 7 = mv_i _ 3 7 by rw [eS81]; rfl)) t7
    have t8 := Eq.trans (congrArg Int32.toInt (show mv_i S81 3 8 = mv_i _ 3 8 by rw [eS81]; rfl)) t8
    have t9 := Eq.trans (congrArg Int32.toInt (show mv_i S81 3 9 = mv_i _ 3 9 by rw [eS81]; rfl)) t9
    have hend : TP 32 512 σ S81 n sz 0 := ⟨hV, hM2, th, sl, no, hW2, by
      by_cases q : (mv_i S81 3 9).toInt < 0
      · exact Or.inr ⟨4, by omega, Or.inl ⟨m0, 0, 0, hK.ws ⟨by omega, q, by show ((0 : Nat) : Int) ≤ _; omega, by omega, by omega, by omega, by omega, by omega⟩⟩⟩
      · exact Or.inl (by omega)⟩
    clear eS81
    refine mv_goto (pc := 81) (tgt := 90) B d_Weaver_readBits_81 rfl ?_
    exact mv_vret (pc := 90) B hr d_Weaver_readBits_90 (Nat.le_refl _) (Nat.le_refl _) ⟨rfl, hend⟩
  · skip
    refine mv_lload_n (pc := 48) B d_Weaver_readBits_48 rfl 0 rfl ?_
    refine mv_ldc2 (pc := 49) (v := 16) B (B.2.2.2.1 _ k_1279) d_Weaver_readBits_49 ?_
    refine mv_lcmp (pc := 52) B d_Weaver_readBits_52 ?_
    refine mv_if_eq (pc := 53) (tgt := 72) B d_Weaver_readBits_53 rfl (fun h53 => ?_) (fun h53 => ?_)
    · skip
      have hln : 0 ≤ (mv_b S29 6 v16.toNatClampNeg).toInt32.toInt ∧ (mv_b S29 6 v16.toNatClampNeg).toInt32.toInt ≤ 64 := by rw [(lg_cmp_eq _ _).mp h53]; decide
      refine mv_aload_n (pc := 72) B d_Weaver_readBits_72 rfl 2 rfl ?_
      refine mv_getR (pc := 73) (ci := 1) (C := R_Weaver) (T := F_Weaver) (N := 16) B 5 rfl rfl (by decide) i_Weaver (B.2.2.2.1 _ k_235) rfl hR.2.2.1 d_Weaver_readBits_73 ?_
      refine mv_lload_n (pc := 76) B d_Weaver_readBits_76 rfl 0 rfl ?_
      refine mv_l2i (pc := 77) B d_Weaver_readBits_77 ?_
      refine mv_putI (pc := 78) (ci := 7) (C := R_Program) (T := F_Program) (N := 19) B 0 rfl rfl (by decide) i_Program t_Program_ok n_Program (B.2.2.2.1 _ k_313) rfl rfl rfl rfl d_Weaver_readBits_78 ?_
      refine mv_gen (fun S81 eS81 => ?_)
      have hR : Rw 32 (mv_r S81) := by rw [eS81]; exact hR
      have hV : WT 32 σ S81 := by rw [eS81]; exact hV.p 0 _
      have hM2 : Mt (mv_a S81 24) := by rw [eS81]; exact hM2
      have hW2 : WN 32 512 S81 n th sl no := by rw [eS81]; exact hW2.len hP hln
      have hK : KX 32 S81 th 0 0 no [] [] 0 True := by rw [eS81]; exact hK.len hP
      have m0 : mv_i S81 2 6 = 0 := by rw [eS81]; exact m0
      have t7 := Eq.trans (congrArg Int32.toInt (show mv_i S81 3 7 = mv_i _ 3 7 by rw [eS81]; rfl)) t7
      have t8 := Eq.trans (congrArg Int32.toInt (show mv_i S81 3 8 = mv_i _ 3 8 by rw [eS81]; rfl)) t8
      have t9 := Eq.trans (congrArg Int32.toInt (show mv_i S81 3 9 = mv_i _ 3 9 by rw [eS81]; rfl)) t9
      have hend : TP 32 512 σ S81 n sz 0 := ⟨hV, hM2, th, sl, no, hW2, by
        by_cases q : (mv_i S81 3 9).toInt < 0
        · exact Or.inr ⟨4, by omega, Or.inl ⟨m0, 0, 0, hK.ws ⟨by omega, q, by show ((0 : Nat) : Int) ≤ _; omega, by omega, by omega, by omega, by omega, by omega⟩⟩⟩
        · exact Or.inl (by omega)⟩
      clear eS81
      refine mv_goto (pc := 81) (tgt := 90) B d_Weaver_readBits_81 rfl ?_
      exact mv_vret (pc := 90) B hr d_Weaver_readBits_90 (Nat.le_refl _) (Nat.le_refl _) ⟨rfl, hend⟩
    · skip
      refine mv_lload_n (pc := 56) B d_Weaver_readBits_56 rfl 0 rfl ?_
      refine mv_ldc2 (pc := 57) (v := 32) B (B.2.2.2.1 _ k_1280) d_Weaver_readBits_57 ?_
      refine mv_lcmp (pc := 60) B d_Weaver_readBits_60 ?_
      refine mv_if_eq (pc := 61) (tgt := 72) B d_Weaver_readBits_61 rfl (fun h61 => ?_) (fun h61 => ?_)
      · skip
        have hln : 0 ≤ (mv_b S29 6 v16.toNatClampNeg).toInt32.toInt ∧ (mv_b S29 6 v16.toNatClampNeg).toInt32.toInt ≤ 64 := by rw [(lg_cmp_eq _ _).mp h61]; decide
        refine mv_aload_n (pc := 72) B d_Weaver_readBits_72 rfl 2 rfl ?_
        refine mv_getR (pc := 73) (ci := 1) (C := R_Weaver) (T := F_Weaver) (N := 16) B 5 rfl rfl (by decide) i_Weaver (B.2.2.2.1 _ k_235) rfl hR.2.2.1 d_Weaver_readBits_73 ?_
        refine mv_lload_n (pc := 76) B d_Weaver_readBits_76 rfl 0 rfl ?_
        refine mv_l2i (pc := 77) B d_Weaver_readBits_77 ?_
        refine mv_putI (pc := 78) (ci := 7) (C := R_Program) (T := F_Program) (N := 19) B 0 rfl rfl (by decide) i_Program t_Program_ok n_Program (B.2.2.2.1 _ k_313) rfl rfl rfl rfl d_Weaver_readBits_78 ?_
        refine mv_gen (fun S81 eS81 => ?_)
        have hR : Rw 32 (mv_r S81) := by rw [eS81]; exact hR
        have hV : WT 32 σ S81 := by rw [eS81]; exact hV.p 0 _
        have hM2 : Mt (mv_a S81 24) := by rw [eS81]; exact hM2
        have hW2 : WN 32 512 S81 n th sl no := by rw [eS81]; exact hW2.len hP hln
        have hK : KX 32 S81 th 0 0 no [] [] 0 True := by rw [eS81]; exact hK.len hP
        have m0 : mv_i S81 2 6 = 0 := by rw [eS81]; exact m0
        have t7 := Eq.trans (congrArg Int32.toInt (show mv_i S81 3 7 = mv_i _ 3 7 by rw [eS81]; rfl)) t7
        have t8 := Eq.trans (congrArg Int32.toInt (show mv_i S81 3 8 = mv_i _ 3 8 by rw [eS81]; rfl)) t8
        have t9 := Eq.trans (congrArg Int32.toInt (show mv_i S81 3 9 = mv_i _ 3 9 by rw [eS81]; rfl)) t9
        have hend : TP 32 512 σ S81 n sz 0 := ⟨hV, hM2, th, sl, no, hW2, by
          by_cases q : (mv_i S81 3 9).toInt < 0
          · exact Or.inr ⟨4, by omega, Or.inl ⟨m0, 0, 0, hK.ws ⟨by omega, q, by show ((0 : Nat) : Int) ≤ _; omega, by omega, by omega, by omega, by omega, by omega⟩⟩⟩
          · exact Or.inl (by omega)⟩
        clear eS81
        refine mv_goto (pc := 81) (tgt := 90) B d_Weaver_readBits_81 rfl ?_
        exact mv_vret (pc := 90) B hr d_Weaver_readBits_90 (Nat.le_refl _) (Nat.le_refl _) ⟨rfl, hend⟩
      · skip
        refine mv_lload_n (pc := 64) B d_Weaver_readBits_64 rfl 0 rfl ?_
        refine mv_ldc2 (pc := 65) (v := 64) B (B.2.2.2.1 _ k_1281) d_Weaver_readBits_65 ?_
        refine mv_lcmp (pc := 68) B d_Weaver_readBits_68 ?_
        refine mv_if_ne (pc := 69) (tgt := 84) B d_Weaver_readBits_69 rfl (fun h69 => ?_) (fun h69 => ?_)
        · skip
          refine mv_aload_n (pc := 84) B d_Weaver_readBits_84 rfl 2 rfl ?_
          refine mv_iload_n (pc := 85) B d_Weaver_readBits_85 rfl 1 rfl ?_
          refine mv_iconst (pc := 86) (v := 3) B d_Weaver_readBits_86 (by decide) ?_
          refine mv_callVv (pc := 87) (n := 2) (ci := 1) (C := R_Weaver) B (mK_ok sk sv) hNs rfl rfl (c_Weaver_tell l hi _ _ _ hR.1 y16.1 (by omega) (by decide)) rfl (ma_goodc kc_Weaver_tell) (B.2.2.2.1 _ k_1282) (B.2.2.2.1 _ k_1284) (B.2.2.2.1 _ ks_32) (B.2.2.2.1 _ k_2) ⟨by decide +kernel, by decide +kernel, by decide +kernel⟩ rfl d_Weaver_readBits_87 rfl (Nat.le_of_ble_eq_true rfl) ⟨by decide, by decide⟩ ⟨by decide, by decide⟩ ⟨by decide, by decide⟩ (mv_noH hno _) (fun σ87 h87 => ?_)
          obtain ⟨x9, y9, q1, q2⟩ := h87
          subst q1
          refine mv_gen (fun S90 eS90 => ?_)
          have hR : Rw 32 (mv_r S90) := by rw [eS90]; exact hR
          have hV : WT 32 σ S90 := by rw [eS90]; exact hV.tell _ _
          have hM2 : Mt (mv_a S90 24) := by rw [eS90]; exact hM2
          have hW2 : WN 32 512 S90 n th sl no := by rw [eS90]; exact hW2.tell hP _ _
          have hK : KX 32 S90 th 0 0 no [] [] 0 True := by rw [eS90]; exact hK.tell hP (fun q => absurd q q2) _
          have m0 : mv_i S90 2 6 = 0 := by rw [eS90]; exact m0
          have t7 := Eq.trans (congrArg Int32.toInt (show mv_i S90 3 7 = mv_i _ 3 7 by rw [eS90]; rfl)) t7
          have t8 := Eq.trans (congrArg Int32.toInt (show mv_i S90 3 8 = mv_i _ 3 8 by rw [eS90]; rfl)) t8
          have t9 := Eq.trans (congrArg Int32.toInt (show mv_i S90 3 9 = mv_i _ 3 9 by rw [eS90]; rfl)) t9
          have hend : TP 32 512 σ S90 n sz 0 := ⟨hV, hM2, th, sl, no, hW2, by
            by_cases q : (mv_i S90 3 9).toInt < 0
            · exact Or.inr ⟨4, by omega, Or.inl ⟨m0, 0, 0, hK.ws ⟨by omega, q, by show ((0 : Nat) : Int) ≤ _; omega, by omega, by omega, by omega, by omega, by omega⟩⟩⟩
            · exact Or.inl (by omega)⟩
          clear eS90
          exact mv_vret (pc := 90) B hr d_Weaver_readBits_90 (Nat.le_refl _) (Nat.le_refl _) ⟨rfl, hend⟩
        · skip
          have hln : 0 ≤ (mv_b S29 6 v16.toNatClampNeg).toInt32.toInt ∧ (mv_b S29 6 v16.toNatClampNeg).toInt32.toInt ≤ 64 := by rw [(lg_cmp_eq _ _).mp h69]; decide
          refine mv_aload_n (pc := 72) B d_Weaver_readBits_72 rfl 2 rfl ?_
          refine mv_getR (pc := 73) (ci := 1) (C := R_Weaver) (T := F_Weaver) (N := 16) B 5 rfl rfl (by decide) i_Weaver (B.2.2.2.1 _ k_235) rfl hR.2.2.1 d_Weaver_readBits_73 ?_
          refine mv_lload_n (pc := 76) B d_Weaver_readBits_76 rfl 0 rfl ?_
          refine mv_l2i (pc := 77) B d_Weaver_readBits_77 ?_
          refine mv_putI (pc := 78) (ci := 7) (C := R_Program) (T := F_Program) (N := 19) B 0 rfl rfl (by decide) i_Program t_Program_ok n_Program (B.2.2.2.1 _ k_313) rfl rfl rfl rfl d_Weaver_readBits_78 ?_
          refine mv_gen (fun S81 eS81 => ?_)
          have hR : Rw 32 (mv_r S81) := by rw [eS81]; exact hR
          have hV : WT 32 σ S81 := by rw [eS81]; exact hV.p 0 _
          have hM2 : Mt (mv_a S81 24) := by rw [eS81]; exact hM2
          have hW2 : WN 32 512 S81 n th sl no := by rw [eS81]; exact hW2.len hP hln
          have hK : KX 32 S81 th 0 0 no [] [] 0 True := by rw [eS81]; exact hK.len hP
          have m0 : mv_i S81 2 6 = 0 := by rw [eS81]; exact m0
          have t7 := Eq.trans (congrArg Int32.toInt (show mv_i S81 3 7 = mv_i _ 3 7 by rw [eS81]; rfl)) t7
          have t8 := Eq.trans (congrArg Int32.toInt (show mv_i S81 3 8 = mv_i _ 3 8 by rw [eS81]; rfl)) t8
          have t9 := Eq.trans (congrArg Int32.toInt (show mv_i S81 3 9 = mv_i _ 3 9 by rw [eS81]; rfl)) t9
          have hend : TP 32 512 σ S81 n sz 0 := ⟨hV, hM2, th, sl, no, hW2, by
            by_cases q : (mv_i S81 3 9).toInt < 0
            · exact Or.inr ⟨4, by omega, Or.inl ⟨m0, 0, 0, hK.ws ⟨by omega, q, by show ((0 : Nat) : Int) ≤ _; omega, by omega, by omega, by omega, by omega, by omega⟩⟩⟩
            · exact Or.inl (by omega)⟩
          clear eS81
          refine mv_goto (pc := 81) (tgt := 90) B d_Weaver_readBits_81 rfl ?_
          exact mv_vret (pc := 90) B hr d_Weaver_readBits_90 (Nat.le_refl _) (Nat.le_refl _) ⟨rfl, hend⟩
set_option maxHeartbeats 4000000 in
set_option maxRecDepth 100000 in
theorem c_Weaver_readBits_b (l : Launch) {dA : FieldType → ClassId} {D : va_G} {al : Nat → Nat} {ext : mv_Sh} {sk sv : Nat → Nat} (hi : mv_inj (mg dA D al ext)) (σ : mv_H) {t tn len n z sz th sl no : Nat} (hG : WG 48 32768 512 ext σ t tn len n z sz) (hM2 : Mt (mv_a σ 24)) (hW2 : WN 48 512 σ n th sl no) (hno0 : no = 0) (hK : KX 48 σ th 0 0 no [] [] 0 True) (m0 : mv_i σ 2 6 = 0) (t7 : (mv_i σ 3 7).toInt = 1) (t8 : (mv_i σ 3 8).toInt = 0) : mv_C l y_Weaver_readBits (Cond.code y_Weaver_readBits b_Weaver_readBits 4 (Option.none : Option Jvm.ClassFile.FieldType) :: ma) ({ frames := 2, cells := 0, slots := 0, locals := 44 }) (mg dA D al ext) (mK sk sv) [.ref (al 2)] σ (mv_Rv (fun σ1 => TP 48 512 σ σ1 n sz 0)) := by
  refine mv_C.ofV (cc := b_Weaver_readBits) (nL := 4) (ret := (Option.none : Option Jvm.ClassFile.FieldType)) (by decide +kernel) rfl hi (Nat.le_of_ble_eq_true rfl) ?_
  intro p e s m below meth c B hNs hr hnm hno
  have hP : PQ 48 := by unfold PQ; omega
  have hR := hG.1
  have ht2 := hG.2.1.2.2.2.2.2.2
  have hV : WT 48 σ σ := WT0
  have hE := hG.2.2.1
  have hsz := hE.2.2.1
  have hsz2 := hE.2.2.2.1
  refine mv_aload_n (pc := 0) B d_Weaver_readBits_0 rfl 0 rfl ?_
  refine mv_getR (pc := 1) (ci := 1) (C := R_Weaver) (T := F_Weaver) (N := 16) B 0 rfl rfl (by decide) i_Weaver (B.2.2.2.1 _ k_228) rfl (hR.1 _ 0 _ rfl) d_Weaver_readBits_1 ?_
  refine mv_sipush (pc := 4) (v := 200) B d_Weaver_readBits_4 (by decide) ?_
  refine mv_callVi (pc := 7) (n := 1) (ci := 2) (C := R_Tokens) B (mK_ok sk sv) hNs rfl rfl (c_Tokens_takeN l hi _ _ hR.1 (hG.2.2.1.wt hV hP ht2) (by omega) (by omega) (by decide)) rfl (ma_goodc kc_Tokens_take) (B.2.2.2.1 _ k_1266) (B.2.2.2.1 _ k_1267) (B.2.2.2.1 _ k_1268) (B.2.2.2.1 _ k_3) ⟨by decide +kernel, by decide +kernel, by decide +kernel⟩ rfl d_Weaver_readBits_7 rfl (Nat.le_of_ble_eq_true rfl) ⟨by decide, by decide⟩ ⟨by decide, by decide⟩ ⟨by decide, by decide⟩ (mv_noH hno _) (fun v7 σ7 h7 => ?_)
  obtain ⟨a7, w7, e7, r7⟩ := h7
  have q7 := r7.1
  have z7 := fun q => (r7.2.1 q).1
  have y7 := And.intro r7.2.2.2.1 r7.2.2.2.2.1
  subst e7
  refine mv_gen (fun S10 eS10 => ?_)
  have hR : Rw 48 (mv_r S10) := by rw [eS10]; exact hR
  have hV : WT 48 σ S10 := by rw [eS10]; exact hV.tk3 _ _ _
  have hM2 : Mt (mv_a S10 24) := by rw [eS10]; exact hM2
  have hW2 : WN 48 512 S10 n th sl no := by rw [eS10]; exact hW2.tk3 hP _ _ _
  have hK : KX 48 S10 th 0 0 no [] [] 0 True := by rw [eS10]; exact hK.tok hP _ _ _
  have m0 : mv_i S10 2 6 = 0 := by rw [eS10]; exact m0
  have t7 : (mv_i S10 3 7).toInt = a7.toInt := by rw [eS10]; rfl
  have t8 : (mv_i S10 3 8).toInt = 0 := by rw [eS10]; exact t8
  have t9 : (mv_i S10 3 9).toInt = w7.toInt := by rw [eS10]; rfl
  clear eS10
  refine mv_pop (pc := 10) B d_Weaver_readBits_10 rfl ?_
  refine mv_aload_n (pc := 11) B d_Weaver_readBits_11 rfl 0 rfl ?_
  refine mv_getR (pc := 12) (ci := 1) (C := R_Weaver) (T := F_Weaver) (N := 16) B 0 rfl rfl (by decide) i_Weaver (B.2.2.2.1 _ k_228) rfl (hR.1 _ 0 _ rfl) d_Weaver_readBits_12 ?_
  refine mv_iconst (pc := 15) (v := 4) B d_Weaver_readBits_15 (by decide) ?_
  refine mv_callVi (pc := 16) (n := 1) (ci := 2) (C := R_Tokens) B (mK_ok sk sv) hNs rfl rfl (c_Tokens_takeN l hi _ _ hR.1 (hG.2.2.1.wt hV hP ht2) (by omega) (by omega) (by decide)) rfl (ma_goodc kc_Tokens_take) (B.2.2.2.1 _ k_1266) (B.2.2.2.1 _ k_1267) (B.2.2.2.1 _ k_1268) (B.2.2.2.1 _ k_3) ⟨by decide +kernel, by decide +kernel, by decide +kernel⟩ rfl d_Weaver_readBits_16 rfl (Nat.le_of_ble_eq_true rfl) ⟨by decide, by decide⟩ ⟨by decide, by decide⟩ ⟨by decide, by decide⟩ (mv_noH hno _) (fun v16 σ16 h16 => ?_)
  obtain ⟨a16, w16, e16, r16⟩ := h16
  have q16 := r16.1
  have z16 := fun q => (r16.2.1 q).1
  have y16 := And.intro r16.2.2.2.1 r16.2.2.2.2.1
  subst e16
  refine mv_gen (fun S19 eS19 => ?_)
  have hR : Rw 48 (mv_r S19) := by rw [eS19]; exact hR
  have hV : WT 48 σ S19 := by rw [eS19]; exact hV.tk3 _ _ _
  have hM2 : Mt (mv_a S19 24) := by rw [eS19]; exact hM2
  have hW2 : WN 48 512 S19 n th sl no := by rw [eS19]; exact hW2.tk3 hP _ _ _
  have hK : KX 48 S19 th 0 0 no [] [] 0 True := by rw [eS19]; exact hK.tok hP _ _ _
  have m0 : mv_i S19 2 6 = 0 := by rw [eS19]; exact m0
  have t7 : (mv_i S19 3 7).toInt = a16.toInt := by rw [eS19]; rfl
  have t8 : (mv_i S19 3 8).toInt = 0 := by rw [eS19]; exact t8
  have t9 : (mv_i S19 3 9).toInt = w16.toInt := by rw [eS19]; rfl
  clear eS19
  refine mv_istore_n (pc := 19) B d_Weaver_readBits_19 rfl (by decide) rfl ?_
  refine mv_aload_n (pc := 20) B d_Weaver_readBits_20 rfl 1 rfl ?_
  refine mv_getR (pc := 21) (ci := 1) (C := R_Weaver) (T := F_Weaver) (N := 16) B 0 rfl rfl (by decide) i_Weaver (B.2.2.2.1 _ k_228) rfl (hR.1 _ 0 _ rfl) d_Weaver_readBits_21 ?_
  refine mv_bipush (pc := 24) (v := 59) B d_Weaver_readBits_24 (by decide) ?_
  refine mv_callVi (pc := 26) (n := 1) (ci := 2) (C := R_Tokens) B (mK_ok sk sv) hNs rfl rfl (c_Tokens_takeN l hi _ _ hR.1 (hG.2.2.1.wt hV hP ht2) (by omega) (by omega) (by decide)) rfl (ma_goodc kc_Tokens_take) (B.2.2.2.1 _ k_1266) (B.2.2.2.1 _ k_1267) (B.2.2.2.1 _ k_1268) (B.2.2.2.1 _ k_3) ⟨by decide +kernel, by decide +kernel, by decide +kernel⟩ rfl d_Weaver_readBits_26 rfl (Nat.le_of_ble_eq_true rfl) ⟨by decide, by decide⟩ ⟨by decide, by decide⟩ ⟨by decide, by decide⟩ (mv_noH hno _) (fun v26 σ26 h26 => ?_)
  obtain ⟨a26, w26, e26, r26⟩ := h26
  have q26 := r26.1
  have z26 := fun q => (r26.2.1 q).1
  have y26 := And.intro r26.2.2.2.1 r26.2.2.2.2.1
  subst e26
  refine mv_gen (fun S29 eS29 => ?_)
  have hR : Rw 48 (mv_r S29) := by rw [eS29]; exact hR
  have hV : WT 48 σ S29 := by rw [eS29]; exact hV.tk3 _ _ _
  have hM2 : Mt (mv_a S29 24) := by rw [eS29]; exact hM2
  have hW2 : WN 48 512 S29 n th sl no := by rw [eS29]; exact hW2.tk3 hP _ _ _
  have hK : KX 48 S29 th 0 0 no [] [] 0 True := by rw [eS29]; exact hK.tok hP _ _ _
  have m0 : mv_i S29 2 6 = 0 := by rw [eS29]; exact m0
  have t7 : (mv_i S29 3 7).toInt = a26.toInt := by rw [eS29]; rfl
  have t8 : (mv_i S29 3 8).toInt = 0 := by rw [eS29]; exact t8
  have t9 : (mv_i S29 3 9).toInt = w26.toInt := by rw [eS29]; rfl
  clear eS29
  refine mv_pop (pc := 29) B d_Weaver_readBits_29 rfl ?_
  refine mv_aload_n (pc := 30) B d_Weaver_readBits_30 rfl 1 rfl ?_
  refine mv_getR (pc := 31) (ci := 1) (C := R_Weaver) (T := F_Weaver) (N := 16) B 0 rfl rfl (by decide) i_Weaver (B.2.2.2.1 _ k_228) rfl (hR.1 _ 0 _ rfl) d_Weaver_readBits_31 ?_
  refine mv_getR (pc := 34) (ci := 2) (C := R_Tokens) (T := F_Tokens) (N := 10) B 2 rfl rfl (by decide) i_Tokens (B.2.2.2.1 _ k_94) rfl (hR.1 _ 2 _ rfl) d_Weaver_readBits_34 ?_
  refine mv_iload_n (pc := 37) B d_Weaver_readBits_37 rfl 0 rfl ?_
  refine mv_lald (pc := 38) B rfl (i32_in y16.1 (by omega)) d_Weaver_readBits_38 ?_
  refine mv_lstore_n (pc := 39) B d_Weaver_readBits_39 rfl (by decide) rfl ?_
  refine mv_lload_n (pc := 40) B d_Weaver_readBits_40 rfl 0 rfl ?_
  refine mv_ldc2 (pc := 41) (v := 8) B (B.2.2.2.1 _ k_1278) d_Weaver_readBits_41 ?_
  refine mv_lcmp (pc := 44) B d_Weaver_readBits_44 ?_
  refine mv_if_eq (pc := 45) (tgt := 72) B d_Weaver_readBits_45 rfl (fun h45 => ?_) (fun h45 => ?_)
  · skip
    have hln : 0 ≤ (mv_b S29 6 v16.toNatClampNeg).toInt32.toInt ∧ (mv_b S29 6 v16.toNatClampNeg).toInt32.toInt ≤ 64 := by rw [(lg_cmp_eq _ _).mp h45]; decide
    refine mv_aload_n (pc := 72) B d_Weaver_readBits_72 rfl 2 rfl ?_
    refine mv_getR (pc := 73) (ci := 1) (C := R_Weaver) (T := F_Weaver) (N := 16) B 5 rfl rfl (by decide) i_Weaver (B.2.2.2.1 _ k_235) rfl hR.2.2.1 d_Weaver_readBits_73 ?_
    refine mv_lload_n (pc := 76) B d_Weaver_readBits_76 rfl 0 rfl ?_
    refine mv_l2i (pc := 77) B d_Weaver_readBits_77 ?_
    refine mv_putI (pc := 78) (ci := 7) (C := R_Program) (T := F_Program) (N := 19) B 0 rfl rfl (by decide) i_Program t_Program_ok n_Program (B.2.2.2.1 _ k_313) rfl rfl rfl rfl d_Weaver_readBits_78 ?_
    refine mv_gen (fun S81 eS81 => ?_)
    have hR : Rw 48 (mv_r S81) := by rw [eS81]; exact hR
    have hV : WT 48 σ S81 := by rw [eS81]; exact hV.p 0 _
    have hM2 : Mt (mv_a S81 24) := by rw [eS81]; exact hM2
    have hW2 : WN 48 512 S81 n th sl no := by rw [eS81]; exact hW2.len hP hln
    have hK : KX 48 S81 th 0 0 no [] [] 0 True := by rw [eS81]; exact hK.len hP
    have m0 : mv_i S81 2 6 = 0 := by rw [eS81]; exact m0
    have t7 := Eq.trans (congrArg Int32.toInt (show mv_i S81 3 7 = mv_i _ 3 7 by rw [eS81]; rfl)) t7
    have t8 := Eq.trans (congrArg Int32.toInt (show mv_i S81 3 8 = mv_i _ 3 8 by rw [eS81]; rfl)) t8
    have t9 := Eq.trans (congrArg Int32.toInt (show mv_i S81 3 9 = mv_i _ 3 9 by rw [eS81]; rfl)) t9
    have hend : TP 48 512 σ S81 n sz 0 := ⟨hV, hM2, th, sl, no, hW2, by
      by_cases q : (mv_i S81 3 9).toInt < 0
      · exact Or.inr ⟨4, by omega, Or.inl ⟨m0, 0, 0, hK.ws ⟨by omega, q, by show ((0 : Nat) : Int) ≤ _; omega, by omega, by omega, by omega, by omega, by omega⟩⟩⟩
      · exact Or.inl (by omega)⟩
    clear eS81
    refine mv_goto (pc := 81) (tgt := 90) B d_Weaver_readBits_81 rfl ?_
    exact mv_vret (pc := 90) B hr d_Weaver_readBits_90 (Nat.le_refl _) (Nat.le_refl _) ⟨rfl, hend⟩
  · skip
    refine mv_lload_n (pc := 48) B d_Weaver_readBits_48 rfl 0 rfl ?_
    refine mv_ldc2 (pc := 49) (v := 16) B (B.2.2.2.1 _ k_1279) d_Weaver_readBits_49 ?_
    refine mv_lcmp (pc := 52) B d_Weaver_readBits_52 ?_
    refine mv_if_eq (pc := 53) (tgt := 72) B d_Weaver_readBits_53 rfl (fun h53 => ?_) (fun h53 => ?_)
    · skip
      have hln : 0 ≤ (mv_b S29 6 v16.toNatClampNeg).toInt32.toInt ∧ (mv_b S29 6 v16.toNatClampNeg).toInt32.toInt ≤ 64 := by rw [(lg_cmp_eq _ _).mp h53]; decide
      refine mv_aload_n (pc := 72) B d_Weaver_readBits_72 rfl 2 rfl ?_
      refine mv_getR (pc := 73) (ci := 1) (C := R_Weaver) (T := F_Weaver) (N := 16) B 5 rfl rfl (by decide) i_Weaver (B.2.2.2.1 _ k_235) rfl hR.2.2.1 d_Weaver_readBits_73 ?_
      refine mv_lload_n (pc := 76) B d_Weaver_readBits_76 rfl 0 rfl ?_
      refine mv_l2i (pc := 77) B d_Weaver_readBits_77 ?_
      refine mv_putI (pc := 78) (ci := 7) (C := R_Program) (T := F_Program) (N := 19) B 0 rfl rfl (by decide) i_Program t_Program_ok n_Program (B.2.2.2.1 _ k_313) rfl rfl rfl rfl d_Weaver_readBits_78 ?_
      refine mv_gen (fun S81 eS81 => ?_)
      have hR : Rw 48 (mv_r S81) := by rw [eS81]; exact hR
      have hV : WT 48 σ S81 := by rw [eS81]; exact hV.p 0 _
      have hM2 : Mt (mv_a S81 24) := by rw [eS81]; exact hM2
      have hW2 : WN 48 512 S81 n th sl no := by rw [eS81]; exact hW2.len hP hln
      have hK : KX 48 S81 th 0 0 no [] [] 0 True := by rw [eS81]; exact hK.len hP
      have m0 : mv_i S81 2 6 = 0 := by rw [eS81]; exact m0
      have t7 := Eq.trans (congrArg Int32.toInt (show mv_i S81 3 7 = mv_i _ 3 7 by rw [eS81]; rfl)) t7
      have t8 := Eq.trans (congrArg Int32.toInt (show mv_i S81 3 8 = mv_i _ 3 8 by rw [eS81]; rfl)) t8
      have t9 := Eq.trans (congrArg Int32.toInt (show mv_i S81 3 9 = mv_i _ 3 9 by rw [eS81]; rfl)) t9
      have hend : TP 48 512 σ S81 n sz 0 := ⟨hV, hM2, th, sl, no, hW2, by
        by_cases q : (mv_i S81 3 9).toInt < 0
        · exact Or.inr ⟨4, by omega, Or.inl ⟨m0, 0, 0, hK.ws ⟨by omega, q, by show ((0 : Nat) : Int) ≤ _; omega, by omega, by omega, by omega, by omega, by omega⟩⟩⟩
        · exact Or.inl (by omega)⟩
      clear eS81
      refine mv_goto (pc := 81) (tgt := 90) B d_Weaver_readBits_81 rfl ?_
      exact mv_vret (pc := 90) B hr d_Weaver_readBits_90 (Nat.le_refl _) (Nat.le_refl _) ⟨rfl, hend⟩
    · skip
      refine mv_lload_n (pc := 56) B d_Weaver_readBits_56 rfl 0 rfl ?_
      refine mv_ldc2 (pc := 57) (v := 32) B (B.2.2.2.1 _ k_1280) d_Weaver_readBits_57 ?_
      refine mv_lcmp (pc := 60) B d_Weaver_readBits_60 ?_
      refine mv_if_eq (pc := 61) (tgt := 72) B d_Weaver_readBits_61 rfl (fun h61 => ?_) (fun h61 => ?_)
      · skip
        have hln : 0 ≤ (mv_b S29 6 v16.toNatClampNeg).toInt32.toInt ∧ (mv_b S29 6 v16.toNatClampNeg).toInt32.toInt ≤ 64 := by rw [(lg_cmp_eq _ _).mp h61]; decide
        refine mv_aload_n (pc := 72) B d_Weaver_readBits_72 rfl 2 rfl ?_
        refine mv_getR (pc := 73) (ci := 1) (C := R_Weaver) (T := F_Weaver) (N := 16) B 5 rfl rfl (by decide) i_Weaver (B.2.2.2.1 _ k_235) rfl hR.2.2.1 d_Weaver_readBits_73 ?_
        refine mv_lload_n (pc := 76) B d_Weaver_readBits_76 rfl 0 rfl ?_
        refine mv_l2i (pc := 77) B d_Weaver_readBits_77 ?_
        refine mv_putI (pc := 78) (ci := 7) (C := R_Program) (T := F_Program) (N := 19) B 0 rfl rfl (by decide) i_Program t_Program_ok n_Program (B.2.2.2.1 _ k_313) rfl rfl rfl rfl d_Weaver_readBits_78 ?_
        refine mv_gen (fun S81 eS81 => ?_)
        have hR : Rw 48 (mv_r S81) := by rw [eS81]; exact hR
        have hV : WT 48 σ S81 := by rw [eS81]; exact hV.p 0 _
        have hM2 : Mt (mv_a S81 24) := by rw [eS81]; exact hM2
        have hW2 : WN 48 512 S81 n th sl no := by rw [eS81]; exact hW2.len hP hln
        have hK : KX 48 S81 th 0 0 no [] [] 0 True := by rw [eS81]; exact hK.len hP
        have m0 : mv_i S81 2 6 = 0 := by rw [eS81]; exact m0
        have t7 := Eq.trans (congrArg Int32.toInt (show mv_i S81 3 7 = mv_i _ 3 7 by rw [eS81]; rfl)) t7
        have t8 := Eq.trans (congrArg Int32.toInt (show mv_i S81 3 8 = mv_i _ 3 8 by rw [eS81]; rfl)) t8
        have t9 := Eq.trans (congrArg Int32.toInt (show mv_i S81 3 9 = mv_i _ 3 9 by rw [eS81]; rfl)) t9
        have hend : TP 48 512 σ S81 n sz 0 := ⟨hV, hM2, th, sl, no, hW2, by
          by_cases q : (mv_i S81 3 9).toInt < 0
          · exact Or.inr ⟨4, by omega, Or.inl ⟨m0, 0, 0, hK.ws ⟨by omega, q, by show ((0 : Nat) : Int) ≤ _; omega, by omega, by omega, by omega, by omega, by omega⟩⟩⟩
          · exact Or.inl (by omega)⟩
        clear eS81
        refine mv_goto (pc := 81) (tgt := 90) B d_Weaver_readBits_81 rfl ?_
        exact mv_vret (pc := 90) B hr d_Weaver_readBits_90 (Nat.le_refl _) (Nat.le_refl _) ⟨rfl, hend⟩
      · skip
        refine mv_lload_n (pc := 64) B d_Weaver_readBits_64 rfl 0 rfl ?_
        refine mv_ldc2 (pc := 65) (v := 64) B (B.2.2.2.1 _ k_1281) d_Weaver_readBits_65 ?_
        refine mv_lcmp (pc := 68) B d_Weaver_readBits_68 ?_
        refine mv_if_ne (pc := 69) (tgt := 84) B d_Weaver_readBits_69 rfl (fun h69 => ?_) (fun h69 => ?_)
        · skip
          refine mv_aload_n (pc := 84) B d_Weaver_readBits_84 rfl 2 rfl ?_
          refine mv_iload_n (pc := 85) B d_Weaver_readBits_85 rfl 1 rfl ?_
          refine mv_iconst (pc := 86) (v := 3) B d_Weaver_readBits_86 (by decide) ?_
          refine mv_callVv (pc := 87) (n := 2) (ci := 1) (C := R_Weaver) B (mK_ok sk sv) hNs rfl rfl (c_Weaver_tell l hi _ _ _ hR.1 y16.1 (by omega) (by decide)) rfl (ma_goodc kc_Weaver_tell) (B.2.2.2.1 _ k_1282) (B.2.2.2.1 _ k_1284) (B.2.2.2.1 _ ks_32) (B.2.2.2.1 _ k_2) ⟨by decide +kernel, by decide +kernel, by decide +kernel⟩ rfl d_Weaver_readBits_87 rfl (Nat.le_of_ble_eq_true rfl) ⟨by decide, by decide⟩ ⟨by decide, by decide⟩ ⟨by decide, by decide⟩ (mv_noH hno _) (fun σ87 h87 => ?_)
          obtain ⟨x9, y9, q1, q2⟩ := h87
          subst q1
          refine mv_gen (fun S90 eS90 => ?_)
          have hR : Rw 48 (mv_r S90) := by rw [eS90]; exact hR
          have hV : WT 48 σ S90 := by rw [eS90]; exact hV.tell _ _
          have hM2 : Mt (mv_a S90 24) := by rw [eS90]; exact hM2
          have hW2 : WN 48 512 S90 n th sl no := by rw [eS90]; exact hW2.tell hP _ _
          have hK : KX 48 S90 th 0 0 no [] [] 0 True := by rw [eS90]; exact hK.tell hP (fun q => absurd q q2) _
          have m0 : mv_i S90 2 6 = 0 := by rw [eS90]; exact m0
          have t7 := Eq.trans (congrArg Int32.toInt (show mv_i S90 3 7 = mv_i _ 3 7 by rw [eS90]; rfl)) t7
          have t8 := Eq.trans (congrArg Int32.toInt (show mv_i S90 3 8 = mv_i _ 3 8 by rw [eS90]; rfl)) t8
          have t9 := Eq.trans (congrArg Int32.toInt (show mv_i S90 3 9 = mv_i _ 3 9 by rw [eS90]; rfl)) t9
          have hend : TP 48 512 σ S90 n sz 0 := ⟨hV, hM2, th, sl, no, hW2, by
            by_cases q : (mv_i S90 3 9).toInt < 0
            · exact Or.inr ⟨4, by omega, Or.inl ⟨m0, 0, 0, hK.ws ⟨by omega, q, by show ((0 : Nat) : Int) ≤ _; omega, by omega, by omega, by omega, by omega, by omega⟩⟩⟩
            · exact Or.inl (by omega)⟩
          clear eS90
          exact mv_vret (pc := 90) B hr d_Weaver_readBits_90 (Nat.le_refl _) (Nat.le_refl _) ⟨rfl, hend⟩
        · skip
          have hln : 0 ≤ (mv_b S29 6 v16.toNatClampNeg).toInt32.toInt ∧ (mv_b S29 6 v16.toNatClampNeg).toInt32.toInt ≤ 64 := by rw [(lg_cmp_eq _ _).mp h69]; decide
          refine mv_aload_n (pc := 72) B d_Weaver_readBits_72 rfl 2 rfl ?_
          refine mv_getR (pc := 73) (ci := 1) (C := R_Weaver) (T := F_Weaver) (N := 16) B 5 rfl rfl (by decide) i_Weaver (B.2.2.2.1 _ k_235) rfl hR.2.2.1 d_Weaver_readBits_73 ?_
          refine mv_lload_n (pc := 76) B d_Weaver_readBits_76 rfl 0 rfl ?_
          refine mv_l2i (pc := 77) B d_Weaver_readBits_77 ?_
          refine mv_putI (pc := 78) (ci := 7) (C := R_Program) (T := F_Program) (N := 19) B 0 rfl rfl (by decide) i_Program t_Program_ok n_Program (B.2.2.2.1 _ k_313) rfl rfl rfl rfl d_Weaver_readBits_78 ?_
          refine mv_gen (fun S81 eS81 => ?_)
          have hR : Rw 48 (mv_r S81) := by rw [eS81]; exact hR
          have hV : WT 48 σ S81 := by rw [eS81]; exact hV.p 0 _
          have hM2 : Mt (mv_a S81 24) := by rw [eS81]; exact hM2
          have hW2 : WN 48 512 S81 n th sl no := by rw [eS81]; exact hW2.len hP hln
          have hK : KX 48 S81 th 0 0 no [] [] 0 True := by rw [eS81]; exact hK.len hP
          have m0 : mv_i S81 2 6 = 0 := by rw [eS81]; exact m0
          have t7 := Eq.trans (congrArg Int32.toInt (show mv_i S81 3 7 = mv_i _ 3 7 by rw [eS81]; rfl)) t7
          have t8 := Eq.trans (congrArg Int32.toInt (show mv_i S81 3 8 = mv_i _ 3 8 by rw [eS81]; rfl)) t8
          have t9 := Eq.trans (congrArg Int32.toInt (show mv_i S81 3 9 = mv_i _ 3 9 by rw [eS81]; rfl)) t9
          have hend : TP 48 512 σ S81 n sz 0 := ⟨hV, hM2, th, sl, no, hW2, by
            by_cases q : (mv_i S81 3 9).toInt < 0
            · exact Or.inr ⟨4, by omega, Or.inl ⟨m0, 0, 0, hK.ws ⟨by omega, q, by show ((0 : Nat) : Int) ≤ _; omega, by omega, by omega, by omega, by omega, by omega⟩⟩⟩
            · exact Or.inl (by omega)⟩
          clear eS81
          refine mv_goto (pc := 81) (tgt := 90) B d_Weaver_readBits_81 rfl ?_
          exact mv_vret (pc := 90) B hr d_Weaver_readBits_90 (Nat.le_refl _) (Nat.le_refl _) ⟨rfl, hend⟩
set_option maxHeartbeats 4000000 in
set_option maxRecDepth 100000 in
theorem c_Weaver_readBits_c (l : Launch) {dA : FieldType → ClassId} {D : va_G} {al : Nat → Nat} {sk sv : Nat → Nat} (hi : mv_inj (mg dA D al me)) (σ : mv_H) {t tn len n z sz th sl no : Nat} (hG : WG 145 8192 48 me σ t tn len n z sz) (hM2 : Mt (mv_a σ 24)) (hW2 : WN 145 48 σ n th sl no) (hno0 : no = 0) (hK : KX 145 σ th 0 0 no [] [] 0 True) (m0 : mv_i σ 2 6 = 0) (t7 : (mv_i σ 3 7).toInt = 1) (t8 : (mv_i σ 3 8).toInt = 0) : mv_C l y_Weaver_readBits (Cond.code y_Weaver_readBits b_Weaver_readBits 4 (Option.none : Option Jvm.ClassFile.FieldType) :: ma) ({ frames := 2, cells := 0, slots := 0, locals := 44 }) (mg dA D al me) (mK sk sv) [.ref (al 2)] σ (mv_Rv (fun σ1 => TP 145 48 σ σ1 n sz 0)) := by
  refine mv_C.ofV (cc := b_Weaver_readBits) (nL := 4) (ret := (Option.none : Option Jvm.ClassFile.FieldType)) (by decide +kernel) rfl hi (Nat.le_of_ble_eq_true rfl) ?_
  intro p e s m below meth c B hNs hr hnm hno
  have hP : PQ 145 := by unfold PQ; omega
  have hR := hG.1
  have ht2 := hG.2.1.2.2.2.2.2.2
  have hV : WT 145 σ σ := WT0
  have hE := hG.2.2.1
  have hsz := hE.2.2.1
  have hsz2 := hE.2.2.2.1
  refine mv_aload_n (pc := 0) B d_Weaver_readBits_0 rfl 0 rfl ?_
  refine mv_getR (pc := 1) (ci := 1) (C := R_Weaver) (T := F_Weaver) (N := 16) B 0 rfl rfl (by decide) i_Weaver (B.2.2.2.1 _ k_228) rfl (hR.1 _ 0 _ rfl) d_Weaver_readBits_1 ?_
  refine mv_sipush (pc := 4) (v := 200) B d_Weaver_readBits_4 (by decide) ?_
  refine mv_callVi (pc := 7) (n := 1) (ci := 2) (C := R_Tokens) B (mK_ok sk sv) hNs rfl rfl (c_Tokens_takeN l hi _ _ hR.1 (hG.2.2.1.wt hV hP ht2) (by omega) (by omega) (by decide)) rfl (ma_goodc kc_Tokens_take) (B.2.2.2.1 _ k_1266) (B.2.2.2.1 _ k_1267) (B.2.2.2.1 _ k_1268) (B.2.2.2.1 _ k_3) ⟨by decide +kernel, by decide +kernel, by decide +kernel⟩ rfl d_Weaver_readBits_7 rfl (Nat.le_of_ble_eq_true rfl) ⟨by decide, by decide⟩ ⟨by decide, by decide⟩ ⟨by decide, by decide⟩ (mv_noH hno _) (fun v7 σ7 h7 => ?_)
  obtain ⟨a7, w7, e7, r7⟩ := h7
  have q7 := r7.1
  have z7 := fun q => (r7.2.1 q).1
  have y7 := And.intro r7.2.2.2.1 r7.2.2.2.2.1
  subst e7
  refine mv_gen (fun S10 eS10 => ?_)
  have hR : Rw 145 (mv_r S10) := by rw [eS10]; exact hR
  have hV : WT 145 σ S10 := by rw [eS10]; exact hV.tk3 _ _ _
  have hM2 : Mt (mv_a S10 24) := by rw [eS10]; exact hM2
  have hW2 : WN 145 48 S10 n th sl no := by rw [eS10]; exact hW2.tk3 hP _ _ _
  have hK : KX 145 S10 th 0 0 no [] [] 0 True := by rw [eS10]; exact hK.tok hP _ _ _
  have m0 : mv_i S10 2 6 = 0 := by rw [eS10]; exact m0
  have t7 : (mv_i S10 3 7).toInt = a7.toInt := by rw [eS10]; rfl
  have t8 : (mv_i S10 3 8).toInt = 0 := by rw [eS10]; exact t8
  have t9 : (mv_i S10 3 9).toInt = w7.toInt := by rw [eS10]; rfl
  clear eS10
  refine mv_pop (pc := 10) B d_Weaver_readBits_10 rfl ?_
  refine mv_aload_n (pc := 11) B d_Weaver_readBits_11 rfl 0 rfl ?_
  refine mv_getR (pc := 12) (ci := 1) (C := R_Weaver) (T := F_Weaver) (N := 16) B 0 rfl rfl (by decide) i_Weaver (B.2.2.2.1 _ k_228) rfl (hR.1 _ 0 _ rfl) d_Weaver_readBits_12 ?_
  refine mv_iconst (pc := 15) (v := 4) B d_Weaver_readBits_15 (by decide) ?_
  refine mv_callVi (pc := 16) (n := 1) (ci := 2) (C := R_Tokens) B (mK_ok sk sv) hNs rfl rfl (c_Tokens_takeN l hi _ _ hR.1 (hG.2.2.1.wt hV hP ht2) (by omega) (by omega) (by decide)) rfl (ma_goodc kc_Tokens_take) (B.2.2.2.1 _ k_1266) (B.2.2.2.1 _ k_1267) (B.2.2.2.1 _ k_1268) (B.2.2.2.1 _ k_3) ⟨by decide +kernel, by decide +kernel, by decide +kernel⟩ rfl d_Weaver_readBits_16 rfl (Nat.le_of_ble_eq_true rfl) ⟨by decide, by decide⟩ ⟨by decide, by decide⟩ ⟨by decide, by decide⟩ (mv_noH hno _) (fun v16 σ16 h16 => ?_)
  obtain ⟨a16, w16, e16, r16⟩ := h16
  have q16 := r16.1
  have z16 := fun q => (r16.2.1 q).1
  have y16 := And.intro r16.2.2.2.1 r16.2.2.2.2.1
  subst e16
  refine mv_gen (fun S19 eS19 => ?_)
  have hR : Rw 145 (mv_r S19) := by rw [eS19]; exact hR
  have hV : WT 145 σ S19 := by rw [eS19]; exact hV.tk3 _ _ _
  have hM2 : Mt (mv_a S19 24) := by rw [eS19]; exact hM2
  have hW2 : WN 145 48 S19 n th sl no := by rw [eS19]; exact hW2.tk3 hP _ _ _
  have hK : KX 145 S19 th 0 0 no [] [] 0 True := by rw [eS19]; exact hK.tok hP _ _ _
  have m0 : mv_i S19 2 6 = 0 := by rw [eS19]; exact m0
  have t7 : (mv_i S19 3 7).toInt = a16.toInt := by rw [eS19]; rfl
  have t8 : (mv_i S19 3 8).toInt = 0 := by rw [eS19]; exact t8
  have t9 : (mv_i S19 3 9).toInt = w16.toInt := by rw [eS19]; rfl
  clear eS19
  refine mv_istore_n (pc := 19) B d_Weaver_readBits_19 rfl (by decide) rfl ?_
  refine mv_aload_n (pc := 20) B d_Weaver_readBits_20 rfl 1 rfl ?_
  refine mv_getR (pc := 21) (ci := 1) (C := R_Weaver) (T := F_Weaver) (N := 16) B 0 rfl rfl (by decide) i_Weaver (B.2.2.2.1 _ k_228) rfl (hR.1 _ 0 _ rfl) d_Weaver_readBits_21 ?_
  refine mv_bipush (pc := 24) (v := 59) B d_Weaver_readBits_24 (by decide) ?_
  refine mv_callVi (pc := 26) (n := 1) (ci := 2) (C := R_Tokens) B (mK_ok sk sv) hNs rfl rfl (c_Tokens_takeN l hi _ _ hR.1 (hG.2.2.1.wt hV hP ht2) (by omega) (by omega) (by decide)) rfl (ma_goodc kc_Tokens_take) (B.2.2.2.1 _ k_1266) (B.2.2.2.1 _ k_1267) (B.2.2.2.1 _ k_1268) (B.2.2.2.1 _ k_3) ⟨by decide +kernel, by decide +kernel, by decide +kernel⟩ rfl d_Weaver_readBits_26 rfl (Nat.le_of_ble_eq_true rfl) ⟨by decide, by decide⟩ ⟨by decide, by decide⟩ ⟨by decide, by decide⟩ (mv_noH hno _) (fun v26 σ26 h26 => ?_)
  obtain ⟨a26, w26, e26, r26⟩ := h26
  have q26 := r26.1
  have z26 := fun q => (r26.2.1 q).1
  have y26 := And.intro r26.2.2.2.1 r26.2.2.2.2.1
  subst e26
  refine mv_gen (fun S29 eS29 => ?_)
  have hR : Rw 145 (mv_r S29) := by rw [eS29]; exact hR
  have hV : WT 145 σ S29 := by rw [eS29]; exact hV.tk3 _ _ _
  have hM2 : Mt (mv_a S29 24) := by rw [eS29]; exact hM2
  have hW2 : WN 145 48 S29 n th sl no := by rw [eS29]; exact hW2.tk3 hP _ _ _
  have hK : KX 145 S29 th 0 0 no [] [] 0 True := by rw [eS29]; exact hK.tok hP _ _ _
  have m0 : mv_i S29 2 6 = 0 := by rw [eS29]; exact m0
  have t7 : (mv_i S29 3 7).toInt = a26.toInt := by rw [eS29]; rfl
  have t8 : (mv_i S29 3 8).toInt = 0 := by rw [eS29]; exact t8
  have t9 : (mv_i S29 3 9).toInt = w26.toInt := by rw [eS29]; rfl
  clear eS29
  refine mv_pop (pc := 29) B d_Weaver_readBits_29 rfl ?_
  refine mv_aload_n (pc := 30) B d_Weaver_readBits_30 rfl 1 rfl ?_
  refine mv_getR (pc := 31) (ci := 1) (C := R_Weaver) (T := F_Weaver) (N := 16) B 0 rfl rfl (by decide) i_Weaver (B.2.2.2.1 _ k_228) rfl (hR.1 _ 0 _ rfl) d_Weaver_readBits_31 ?_
  refine mv_getR (pc := 34) (ci := 2) (C := R_Tokens) (T := F_Tokens) (N := 10) B 2 rfl rfl (by decide) i_Tokens (B.2.2.2.1 _ k_94) rfl (hR.1 _ 2 _ rfl) d_Weaver_readBits_34 ?_
  refine mv_iload_n (pc := 37) B d_Weaver_readBits_37 rfl 0 rfl ?_
  refine mv_lald (pc := 38) B rfl (i32_in y16.1 (by omega)) d_Weaver_readBits_38 ?_
  refine mv_lstore_n (pc := 39) B d_Weaver_readBits_39 rfl (by decide) rfl ?_
  refine mv_lload_n (pc := 40) B d_Weaver_readBits_40 rfl 0 rfl ?_
  refine mv_ldc2 (pc := 41) (v := 8) B (B.2.2.2.1 _ k_1278) d_Weaver_readBits_41 ?_
  refine mv_lcmp (pc := 44) B d_Weaver_readBits_44 ?_
  refine mv_if_eq (pc := 45) (tgt := 72) B d_Weaver_readBits_45 rfl (fun h45 => ?_) (fun h45 => ?_)
  · skip
    have hln : 0 ≤ (mv_b S29 6 v16.toNatClampNeg).toInt32.toInt ∧ (mv_b S29 6 v16.toNatClampNeg).toInt32.toInt ≤ 64 := by rw [(lg_cmp_eq _ _).mp h45]; decide
    refine mv_aload_n (pc := 72) B d_Weaver_readBits_72 rfl 2 rfl ?_
    refine mv_getR (pc := 73) (ci := 1) (C := R_Weaver) (T := F_Weaver) (N := 16) B 5 rfl rfl (by decide) i_Weaver (B.2.2.2.1 _ k_235) rfl hR.2.2.1 d_Weaver_readBits_73 ?_
    refine mv_lload_n (pc := 76) B d_Weaver_readBits_76 rfl 0 rfl ?_
    refine mv_l2i (pc := 77) B d_Weaver_readBits_77 ?_
    refine mv_putI (pc := 78) (ci := 7) (C := R_Program) (T := F_Program) (N := 19) B 0 rfl rfl (by decide) i_Program t_Program_ok n_Program (B.2.2.2.1 _ k_313) rfl rfl rfl rfl d_Weaver_readBits_78 ?_
    refine mv_gen (fun S81 eS81 => ?_)
    have hR : Rw 145 (mv_r S81) := by rw [eS81]; exact hR
    have hV : WT 145 σ S81 := by rw [eS81]; exact hV.p 0 _
    have hM2 : Mt (mv_a S81 24) := by rw [eS81]; exact hM2
    have hW2 : WN 145 48 S81 n th sl no := by rw [eS81]; exact hW2.len hP hln
    have hK : KX 145 S81 th 0 0 no [] [] 0 True := by rw [eS81]; exact hK.len hP
    have m0 : mv_i S81 2 6 = 0 := by rw [eS81]; exact m0
    have t7 := Eq.trans (congrArg Int32.toInt (show mv_i S81 3 7 = mv_i _ 3 7 by rw [eS81]; rfl)) t7
    have t8 := Eq.trans (congrArg Int32.toInt (show mv_i S81 3 8 = mv_i _ 3 8 by rw [eS81]; rfl)) t8
    have t9 := Eq.trans (congrArg Int32.toInt (show mv_i S81 3 9 = mv_i _ 3 9 by rw [eS81]; rfl)) t9
    have hend : TP 145 48 σ S81 n sz 0 := ⟨hV, hM2, th, sl, no, hW2, by
      by_cases q : (mv_i S81 3 9).toInt < 0
      · exact Or.inr ⟨4, by omega, Or.inl ⟨m0, 0, 0, hK.ws ⟨by omega, q, by show ((0 : Nat) : Int) ≤ _; omega, by omega, by omega, by omega, by omega, by omega⟩⟩⟩
      · exact Or.inl (by omega)⟩
    clear eS81
    refine mv_goto (pc := 81) (tgt := 90) B d_Weaver_readBits_81 rfl ?_
    exact mv_vret (pc := 90) B hr d_Weaver_readBits_90 (Nat.le_refl _) (Nat.le_refl _) ⟨rfl, hend⟩
  · skip
    refine mv_lload_n (pc := 48) B d_Weaver_readBits_48 rfl 0 rfl ?_
    refine mv_ldc2 (pc := 49) (v := 16) B (B.2.2.2.1 _ k_1279) d_Weaver_readBits_49 ?_
    refine mv_lcmp (pc := 52) B d_Weaver_readBits_52 ?_
    refine mv_if_eq (pc := 53) (tgt := 72) B d_Weaver_readBits_53 rfl (fun h53 => ?_) (fun h53 => ?_)
    · skip
      have hln : 0 ≤ (mv_b S29 6 v16.toNatClampNeg).toInt32.toInt ∧ (mv_b S29 6 v16.toNatClampNeg).toInt32.toInt ≤ 64 := by rw [(lg_cmp_eq _ _).mp h53]; decide
      refine mv_aload_n (pc := 72) B d_Weaver_readBits_72 rfl 2 rfl ?_
      refine mv_getR (pc := 73) (ci := 1) (C := R_Weaver) (T := F_Weaver) (N := 16) B 5 rfl rfl (by decide) i_Weaver (B.2.2.2.1 _ k_235) rfl hR.2.2.1 d_Weaver_readBits_73 ?_
      refine mv_lload_n (pc := 76) B d_Weaver_readBits_76 rfl 0 rfl ?_
      refine mv_l2i (pc := 77) B d_Weaver_readBits_77 ?_
      refine mv_putI (pc := 78) (ci := 7) (C := R_Program) (T := F_Program) (N := 19) B 0 rfl rfl (by decide) i_Program t_Program_ok n_Program (B.2.2.2.1 _ k_313) rfl rfl rfl rfl d_Weaver_readBits_78 ?_
      refine mv_gen (fun S81 eS81 => ?_)
      have hR : Rw 145 (mv_r S81) := by rw [eS81]; exact hR
      have hV : WT 145 σ S81 := by rw [eS81]; exact hV.p 0 _
      have hM2 : Mt (mv_a S81 24) := by rw [eS81]; exact hM2
      have hW2 : WN 145 48 S81 n th sl no := by rw [eS81]; exact hW2.len hP hln
      have hK : KX 145 S81 th 0 0 no [] [] 0 True := by rw [eS81]; exact hK.len hP
      have m0 : mv_i S81 2 6 = 0 := by rw [eS81]; exact m0
      have t7 := Eq.trans (congrArg Int32.toInt (show mv_i S81 3 7 = mv_i _ 3 7 by rw [eS81]; rfl)) t7
      have t8 := Eq.trans (congrArg Int32.toInt (show mv_i S81 3 8 = mv_i _ 3 8 by rw [eS81]; rfl)) t8
      have t9 := Eq.trans (congrArg Int32.toInt (show mv_i S81 3 9 = mv_i _ 3 9 by rw [eS81]; rfl)) t9
      have hend : TP 145 48 σ S81 n sz 0 := ⟨hV, hM2, th, sl, no, hW2, by
        by_cases q : (mv_i S81 3 9).toInt < 0
        · exact Or.inr ⟨4, by omega, Or.inl ⟨m0, 0, 0, hK.ws ⟨by omega, q, by show ((0 : Nat) : Int) ≤ _; omega, by omega, by omega, by omega, by omega, by omega⟩⟩⟩
        · exact Or.inl (by omega)⟩
      clear eS81
      refine mv_goto (pc := 81) (tgt := 90) B d_Weaver_readBits_81 rfl ?_
      exact mv_vret (pc := 90) B hr d_Weaver_readBits_90 (Nat.le_refl _) (Nat.le_refl _) ⟨rfl, hend⟩
    · skip
      refine mv_lload_n (pc := 56) B d_Weaver_readBits_56 rfl 0 rfl ?_
      refine mv_ldc2 (pc := 57) (v := 32) B (B.2.2.2.1 _ k_1280) d_Weaver_readBits_57 ?_
      refine mv_lcmp (pc := 60) B d_Weaver_readBits_60 ?_
      refine mv_if_eq (pc := 61) (tgt := 72) B d_Weaver_readBits_61 rfl (fun h61 => ?_) (fun h61 => ?_)
      · skip
        have hln : 0 ≤ (mv_b S29 6 v16.toNatClampNeg).toInt32.toInt ∧ (mv_b S29 6 v16.toNatClampNeg).toInt32.toInt ≤ 64 := by rw [(lg_cmp_eq _ _).mp h61]; decide
        refine mv_aload_n (pc := 72) B d_Weaver_readBits_72 rfl 2 rfl ?_
        refine mv_getR (pc := 73) (ci := 1) (C := R_Weaver) (T := F_Weaver) (N := 16) B 5 rfl rfl (by decide) i_Weaver (B.2.2.2.1 _ k_235) rfl hR.2.2.1 d_Weaver_readBits_73 ?_
        refine mv_lload_n (pc := 76) B d_Weaver_readBits_76 rfl 0 rfl ?_
        refine mv_l2i (pc := 77) B d_Weaver_readBits_77 ?_
        refine mv_putI (pc := 78) (ci := 7) (C := R_Program) (T := F_Program) (N := 19) B 0 rfl rfl (by decide) i_Program t_Program_ok n_Program (B.2.2.2.1 _ k_313) rfl rfl rfl rfl d_Weaver_readBits_78 ?_
        refine mv_gen (fun S81 eS81 => ?_)
        have hR : Rw 145 (mv_r S81) := by rw [eS81]; exact hR
        have hV : WT 145 σ S81 := by rw [eS81]; exact hV.p 0 _
        have hM2 : Mt (mv_a S81 24) := by rw [eS81]; exact hM2
        have hW2 : WN 145 48 S81 n th sl no := by rw [eS81]; exact hW2.len hP hln
        have hK : KX 145 S81 th 0 0 no [] [] 0 True := by rw [eS81]; exact hK.len hP
        have m0 : mv_i S81 2 6 = 0 := by rw [eS81]; exact m0
        have t7 := Eq.trans (congrArg Int32.toInt (show mv_i S81 3 7 = mv_i _ 3 7 by rw [eS81]; rfl)) t7
        have t8 := Eq.trans (congrArg Int32.toInt (show mv_i S81 3 8 = mv_i _ 3 8 by rw [eS81]; rfl)) t8
        have t9 := Eq.trans (congrArg Int32.toInt (show mv_i S81 3 9 = mv_i _ 3 9 by rw [eS81]; rfl)) t9
        have hend : TP 145 48 σ S81 n sz 0 := ⟨hV, hM2, th, sl, no, hW2, by
          by_cases q : (mv_i S81 3 9).toInt < 0
          · exact Or.inr ⟨4, by omega, Or.inl ⟨m0, 0, 0, hK.ws ⟨by omega, q, by show ((0 : Nat) : Int) ≤ _; omega, by omega, by omega, by omega, by omega, by omega⟩⟩⟩
          · exact Or.inl (by omega)⟩
        clear eS81
        refine mv_goto (pc := 81) (tgt := 90) B d_Weaver_readBits_81 rfl ?_
        exact mv_vret (pc := 90) B hr d_Weaver_readBits_90 (Nat.le_refl _) (Nat.le_refl _) ⟨rfl, hend⟩
      · skip
        refine mv_lload_n (pc := 64) B d_Weaver_readBits_64 rfl 0 rfl ?_
        refine mv_ldc2 (pc := 65) (v := 64) B (B.2.2.2.1 _ k_1281) d_Weaver_readBits_65 ?_
        refine mv_lcmp (pc := 68) B d_Weaver_readBits_68 ?_
        refine mv_if_ne (pc := 69) (tgt := 84) B d_Weaver_readBits_69 rfl (fun h69 => ?_) (fun h69 => ?_)
        · skip
          refine mv_aload_n (pc := 84) B d_Weaver_readBits_84 rfl 2 rfl ?_
          refine mv_iload_n (pc := 85) B d_Weaver_readBits_85 rfl 1 rfl ?_
          refine mv_iconst (pc := 86) (v := 3) B d_Weaver_readBits_86 (by decide) ?_
          refine mv_callVv (pc := 87) (n := 2) (ci := 1) (C := R_Weaver) B (mK_ok sk sv) hNs rfl rfl (c_Weaver_tell l hi _ _ _ hR.1 y16.1 (by omega) (by decide)) rfl (ma_goodc kc_Weaver_tell) (B.2.2.2.1 _ k_1282) (B.2.2.2.1 _ k_1284) (B.2.2.2.1 _ ks_32) (B.2.2.2.1 _ k_2) ⟨by decide +kernel, by decide +kernel, by decide +kernel⟩ rfl d_Weaver_readBits_87 rfl (Nat.le_of_ble_eq_true rfl) ⟨by decide, by decide⟩ ⟨by decide, by decide⟩ ⟨by decide, by decide⟩ (mv_noH hno _) (fun σ87 h87 => ?_)
          obtain ⟨x9, y9, q1, q2⟩ := h87
          subst q1
          refine mv_gen (fun S90 eS90 => ?_)
          have hR : Rw 145 (mv_r S90) := by rw [eS90]; exact hR
          have hV : WT 145 σ S90 := by rw [eS90]; exact hV.tell _ _
          have hM2 : Mt (mv_a S90 24) := by rw [eS90]; exact hM2
          have hW2 : WN 145 48 S90 n th sl no := by rw [eS90]; exact hW2.tell hP _ _
          have hK : KX 145 S90 th 0 0 no [] [] 0 True := by rw [eS90]; exact hK.tell hP (fun q => absurd q q2) _
          have m0 : mv_i S90 2 6 = 0 := by rw [eS90]; exact m0
          have t7 := Eq.trans (congrArg Int32.toInt (show mv_i S90 3 7 = mv_i _ 3 7 by rw [eS90]; rfl)) t7
          have t8 := Eq.trans (congrArg Int32.toInt (show mv_i S90 3 8 = mv_i _ 3 8 by rw [eS90]; rfl)) t8
          have t9 := Eq.trans (congrArg Int32.toInt (show mv_i S90 3 9 = mv_i _ 3 9 by rw [eS90]; rfl)) t9
          have hend : TP 145 48 σ S90 n sz 0 := ⟨hV, hM2, th, sl, no, hW2, by
            by_cases q : (mv_i S90 3 9).toInt < 0
            · exact Or.inr ⟨4, by omega, Or.inl ⟨m0, 0, 0, hK.ws ⟨by omega, q, by show ((0 : Nat) : Int) ≤ _; omega, by omega, by omega, by omega, by omega, by omega⟩⟩⟩
            · exact Or.inl (by omega)⟩
          clear eS90
          exact mv_vret (pc := 90) B hr d_Weaver_readBits_90 (Nat.le_refl _) (Nat.le_refl _) ⟨rfl, hend⟩
        · skip
          have hln : 0 ≤ (mv_b S29 6 v16.toNatClampNeg).toInt32.toInt ∧ (mv_b S29 6 v16.toNatClampNeg).toInt32.toInt ≤ 64 := by rw [(lg_cmp_eq _ _).mp h69]; decide
          refine mv_aload_n (pc := 72) B d_Weaver_readBits_72 rfl 2 rfl ?_
          refine mv_getR (pc := 73) (ci := 1) (C := R_Weaver) (T := F_Weaver) (N := 16) B 5 rfl rfl (by decide) i_Weaver (B.2.2.2.1 _ k_235) rfl hR.2.2.1 d_Weaver_readBits_73 ?_
          refine mv_lload_n (pc := 76) B d_Weaver_readBits_76 rfl 0 rfl ?_
          refine mv_l2i (pc := 77) B d_Weaver_readBits_77 ?_
          refine mv_putI (pc := 78) (ci := 7) (C := R_Program) (T := F_Program) (N := 19) B 0 rfl rfl (by decide) i_Program t_Program_ok n_Program (B.2.2.2.1 _ k_313) rfl rfl rfl rfl d_Weaver_readBits_78 ?_
          refine mv_gen (fun S81 eS81 => ?_)
          have hR : Rw 145 (mv_r S81) := by rw [eS81]; exact hR
          have hV : WT 145 σ S81 := by rw [eS81]; exact hV.p 0 _
          have hM2 : Mt (mv_a S81 24) := by rw [eS81]; exact hM2
          have hW2 : WN 145 48 S81 n th sl no := by rw [eS81]; exact hW2.len hP hln
          have hK : KX 145 S81 th 0 0 no [] [] 0 True := by rw [eS81]; exact hK.len hP
          have m0 : mv_i S81 2 6 = 0 := by rw [eS81]; exact m0
          have t7 := Eq.trans (congrArg Int32.toInt (show mv_i S81 3 7 = mv_i _ 3 7 by rw [eS81]; rfl)) t7
          have t8 := Eq.trans (congrArg Int32.toInt (show mv_i S81 3 8 = mv_i _ 3 8 by rw [eS81]; rfl)) t8
          have t9 := Eq.trans (congrArg Int32.toInt (show mv_i S81 3 9 = mv_i _ 3 9 by rw [eS81]; rfl)) t9
          have hend : TP 145 48 σ S81 n sz 0 := ⟨hV, hM2, th, sl, no, hW2, by
            by_cases q : (mv_i S81 3 9).toInt < 0
            · exact Or.inr ⟨4, by omega, Or.inl ⟨m0, 0, 0, hK.ws ⟨by omega, q, by show ((0 : Nat) : Int) ≤ _; omega, by omega, by omega, by omega, by omega, by omega⟩⟩⟩
            · exact Or.inl (by omega)⟩
          clear eS81
          refine mv_goto (pc := 81) (tgt := 90) B d_Weaver_readBits_81 rfl ?_
          exact mv_vret (pc := 90) B hr d_Weaver_readBits_90 (Nat.le_refl _) (Nat.le_refl _) ⟨rfl, hend⟩
