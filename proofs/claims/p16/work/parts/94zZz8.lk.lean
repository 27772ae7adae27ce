/-! calls that only look -/
/-- only THROWN of the reference -/
def L2 : mv_H → mv_H → Prop := Fx (fun o k => o = 70 ∧ k = 2) (fun _ _ => False) (fun _ _ => False) (fun _ => False)
theorem L2.qf {N : Nat} {σ τ : mv_H} (h : L2 σ τ) : QF N σ τ := Fx.up h (fun o k z => Or.inl ⟨z.1, by omega, by omega⟩) (fun o k z => absurd z id) (fun o k z => absurd z id) (fun o z => absurd z id)
theorem L2.si {σ τ : mv_H} {v : Int32} (h : L2 σ τ) : L2 σ (mv_si τ 70 2 v) := Fx.si h ⟨rfl, rfl⟩
/-- the reference's machine stays, whichever book is open -/
def RLk (σ τ : mv_H) : Prop := mv_r τ 70 9 = mv_r σ 70 9 ∧ mv_i τ 70 11 = mv_i σ 70 11 ∧ ∀ N, (N = 74 ∨ N = 108) → RKp N σ τ
theorem L2.rk {σ τ : mv_H} (h : L2 σ τ) : RLk σ τ := ⟨by rw [h.2.2.1], h.1 _ _ (by omega), fun N hN => ⟨fun k q => h.1 _ _ (by omega), fun o q => ⟨funext fun k => h.2.2.2.1 _ _ id, h.2.2.2.2 _ id⟩, fun k q => h.1 _ _ (by omega)⟩⟩
theorem FD.rk {σ τ : mv_H} (h : FD σ τ) : RLk σ τ := ⟨by rw [h.2.2.1], h.1 _ _ (by omega), fun N hN => ⟨fun k q => h.1 _ _ (by omega), fun o q => ⟨funext fun k => h.2.2.2.1 _ _ (by omega), h.2.2.2.2 _ id⟩, fun k q => h.1 _ _ (by omega)⟩⟩
theorem mdc_r {B : Nat} {h g : mv_H} (hB : B = 74 ∨ B = 108) (f : MSf B h g) (eb : mv_b g = mv_b h) (ea : mv_a g = mv_a h) (ei : ∀ k, k = 12 ∨ k = 13 ∨ k = 14 → mv_i g 70 k = mv_i h 70 k) : RLk h g := by
  refine ⟨by rw [f.1], f.2.2.1 _ _ (by omega) (by omega), fun N hN => ⟨fun k q => ?_, fun o q => ⟨by rw [ea], by rw [eb]⟩, fun k q => f.2.2.1 _ _ (by omega) (by omega)⟩⟩
  rcases q with q | q | q | q | q
  · exact f.2.2.1 _ _ (by omega) (by omega)
  · exact ei k (by omega)
  · exact ei k (by omega)
  · exact ei k (by omega)
  · exact f.2.2.1 _ _ (by omega) (by omega)
theorem sdc_e {B : Nat} {h : mv_H} (w : Int64) (h11 : ¬ mv_i h 70 11 = 0) : f_Model_decode B h w = some (sOv w.toInt32, mv_si h 70 2 0) := by
  have i11 : ¬ mv_i (mv_si h 70 2 0) 70 11 = 0 := by rw [mv_si_o _ _ (by omega)]; exact h11
  unfold f_Model_decode
  rw [xk_s, if_neg i11, so_ok, xhb_s]
theorem MSf.qf {B : Nat} {h g : mv_H} (f : MSf B h g) : QF B h g := ⟨fun o k q => f.2.2.1 o k (by omega) (by omega), fun o k q => f.2.1 o k (by omega), f.1, fun o k q => congrFun (f.2.2.2.1 o (by omega)) k, fun o q => f.2.2.2.2 o (by omega)⟩
theorem SMw.qf {B : Nat} {h g : mv_H} (f : SMw h g) : QF B h g := ⟨fun o k q => f.2.2.1 o k (by omega), fun o k q => by rw [f.1], f.2.1, fun o k q => congrFun (f.2.2.2.1 o (by omega)) k, fun o q => by rw [f.2.2.2.2]⟩
theorem SFs.qf {B : Nat} {h g : mv_H} (f : SFs h g) : QF B h g := ⟨fun o k q => f.2.2.1 o k (by omega), fun o k q => by rw [f.1], f.2.1, fun o k q => congrFun (f.2.2.2.1 o (by omega)) k, fun o q => by rw [f.2.2.2.2]⟩
theorem QFr.qf {B : Nat} {h g : mv_H} (f : QFr B h g) : QF B h g := ⟨fun o k q => f.2.2.1 o k (by omega), fun o k q => f.2.1 o k (by omega), f.1, fun o k q => congrFun (f.2.2.2.1 o (by omega)) k, fun o q => f.2.2.2.2 o (by omega)⟩
/-- what ship leaves of the reference's machine -/
def ZX (a b : Nat) (σ τ : mv_H) : Prop := (mv_i τ 70 6 = 0 ∧ mv_i τ 70 14 = mv_i σ 70 14 ∧ mv_i τ 70 15 = mv_i σ 70 15) ∧ (∀ i, i < a → mv_a τ 72 i = 0) ∧ ∀ i, i < b → mv_a τ 73 i = 0
theorem ZX.x {a b : Nat} {σ τ : mv_H} {v : Int32} (h : ZX a b σ τ) (hv : v = 0) : ZX (a + 1) b σ (mv_sa τ 72 a v) := by
  subst hv
  refine ⟨h.1, fun i hi => ?_, fun i hi => ?_⟩
  · show mv_u (mv_a τ) 72 a 0 72 i = 0
    by_cases c : i = a
    · subst c
      exact mv_u_same _ _ _ _
    · rw [mv_u_ne _ _ (by omega)]
      exact h.2.1 i (by omega)
  · show mv_u (mv_a τ) 72 a 0 73 i = 0
    rw [mv_u_ne _ _ (by omega)]
    exact h.2.2 i hi
theorem ZX.m {a b : Nat} {σ τ : mv_H} {v : Int32} (h : ZX a b σ τ) (hv : v = 0) : ZX a (b + 1) σ (mv_sa τ 73 b v) := by
  subst hv
  refine ⟨h.1, fun i hi => ?_, fun i hi => ?_⟩
  · show mv_u (mv_a τ) 73 b 0 72 i = 0
    rw [mv_u_ne _ _ (by omega)]
    exact h.2.1 i hi
  · show mv_u (mv_a τ) 73 b 0 73 i = 0
    by_cases c : i = b
    · subst c
      exact mv_u_same _ _ _ _
    · rw [mv_u_ne _ _ (by omega)]
      exact h.2.2 i (by omega)
theorem ZX.le {a b a' b' : Nat} {σ τ : mv_H} (h : ZX a b σ τ) (ha : a' ≤ a) (hb : b' ≤ b) : ZX a' b' σ τ := ⟨h.1, fun i hi => h.2.1 i (by omega), fun i hi => h.2.2 i (by omega)⟩
def SZq (σ τ : mv_H) : Prop := ZX 32 32768 σ τ ∧ mv_i τ 70 12 = 0 ∧ mv_i τ 70 13 = 0
theorem SZq.of {σ τ υ : mv_H} (h : ZX 32 32768 σ τ) (e : υ = mv_si (mv_si τ 70 12 0) 70 13 0) : SZq σ υ := by
  subst e
  refine ⟨⟨⟨?_, ?_, ?_⟩, h.2.1, h.2.2⟩, ?_, mv_si_s _ _ _ _⟩
  · exact ((mv_si_o _ _ (by omega)).trans (mv_si_o _ _ (by omega))).trans h.1.1
  · exact ((mv_si_o _ _ (by omega)).trans (mv_si_o _ _ (by omega))).trans h.1.2.1
  · exact ((mv_si_o _ _ (by omega)).trans (mv_si_o _ _ (by omega))).trans h.1.2.2
  · exact (mv_si_o _ _ (by omega)).trans (mv_si_s _ _ _ _)
theorem cl_0 : (0 : Int32).toNatClampNeg = 0 := by decide
theorem zx_0 {σ : mv_H} : ZX (0 : Int32).toNatClampNeg 0 σ (mv_si (mv_si (mv_si σ 70 2 0) 70 11 1) 70 6 0) := by
  rw [cl_0]
  exact ⟨⟨mv_si_s _ _ _ _, ((mv_si_o _ _ (by omega)).trans (mv_si_o _ _ (by omega))).trans (mv_si_o _ _ (by omega)), ((mv_si_o _ _ (by omega)).trans (mv_si_o _ _ (by omega))).trans (mv_si_o _ _ (by omega))⟩, fun i hi => absurd hi (Nat.not_lt_zero _), fun i hi => absurd hi (Nat.not_lt_zero _)⟩
theorem bz_0 : vp_nar .byte 0 = 0 := by decide

set_option maxHeartbeats 4000000 in
set_option maxRecDepth 100000 in
theorem c_kk_Loom_trap (l : Launch) {dA : FieldType → ClassId} {D : va_G} {al : Nat → Nat} {ext : mv_Sh} {sk sv : Nat → Nat} (hi : mv_inj (mg dA D al ext)) (σ : mv_H) (hsh : mh (mv_r σ)) : mv_C l y_Loom_trap (Cond.code y_Loom_trap b_Loom_trap 1 (Option.some Jvm.ClassFile.FieldType.int) :: ma) ({ frames := 0, cells := 0, slots := 0, locals := 0 }) (mg dA D al ext) (mK sk sv) [.ref (al 0)] σ (mv_Ri (fun v σ1 => σ1 = σ ∧ v = mv_i σ 64 9)) := by
  refine mv_C.ofV (cc := b_Loom_trap) (nL := 1) (ret := (Option.some Jvm.ClassFile.FieldType.int)) (by decide +kernel) rfl hi (Nat.le_of_ble_eq_true rfl) ?_
  intro p e s m below meth c B hNs hr hnm hno
  refine mv_aload_n (pc := 0) B d_Loom_trap_0 rfl 0 rfl ?_
  refine mv_getR (pc := 1) (ci := 0) (C := R_Loom) (T := F_Loom) (N := 10) B 9 rfl rfl (by decide) i_Loom (B.2.2.2.1 _ k_495) rfl (hsh _ 9 _ rfl) d_Loom_trap_1 ?_
  refine mv_getI (pc := 4) (ci := 9) (C := R_Machine) (T := F_Machine) (N := 13) B 9 rfl rfl (by decide) i_Machine (B.2.2.2.1 _ k_452) rfl d_Loom_trap_4 ?_
  exact mv_iret (pc := 7) B hr rfl d_Loom_trap_7 (Nat.le_refl _) (Nat.le_refl _) ⟨_, rfl, rfl, rfl⟩
set_option maxHeartbeats 4000000 in
set_option maxRecDepth 100000 in
theorem c_kk_Loom_decode_a (l : Launch) {dA : FieldType → ClassId} {D : va_G} {al : Nat → Nat} {ext : mv_Sh} {sk sv : Nat → Nat} (hi : mv_inj (mg dA D al ext)) (σ : mv_H) (w9 : Int64) (hR : Rf 32 (mv_r σ)) (hT : TreeOK 32 512 σ ∨ TreeZ 32 σ) : mv_C l y_Loom_decode (Cond.code y_Loom_decode b_Loom_decode 3 (Option.some Jvm.ClassFile.FieldType.int) :: ma) ({ frames := 2, cells := 0, slots := 0, locals := 51 }) (mg dA D al ext) (mK sk sv) [.ref (al 0), .long w9] σ (mv_Ri (fun v σ1 => F12 σ σ1)) := by
  refine mv_C.ofV (cc := b_Loom_decode) (nL := 3) (ret := (Option.some Jvm.ClassFile.FieldType.int)) (by decide +kernel) rfl hi (Nat.le_of_ble_eq_true rfl) ?_
  intro p e s m below meth c B hNs hr hnm hno
  refine mv_aload_n (pc := 0) B d_Loom_decode_0 rfl 0 rfl ?_
  refine mv_getR (pc := 1) (ci := 0) (C := R_Loom) (T := F_Loom) (N := 10) B 9 rfl rfl (by decide) i_Loom (B.2.2.2.1 _ k_495) rfl (hR.1 _ 9 _ rfl) d_Loom_decode_1 ?_
  refine mv_lload_n (pc := 4) B d_Loom_decode_4 rfl 1 rfl ?_
  refine mv_callVi (pc := 5) (n := 1) (ci := 9) (C := R_Machine) B (mK_ok sk sv) hNs rfl rfl (c_Machine_opOf_a l hi _ _ hR hT) rfl (ma_goodc kc_Machine_opOf) (B.2.2.2.1 _ k_1560) (B.2.2.2.1 _ k_1561) (B.2.2.2.1 _ k_1562) (B.2.2.2.1 _ k_11) ⟨by decide +kernel, by decide +kernel, by decide +kernel⟩ rfl d_Loom_decode_5 rfl (Nat.le_of_ble_eq_true rfl) ⟨by decide, by decide⟩ ⟨by decide, by decide⟩ ⟨by decide, by decide⟩ (mv_noH hno _) (fun v5 σ5 h5 => ?_)
  exact mv_iret (pc := 8) B hr rfl d_Loom_decode_8 (Nat.le_refl _) (Nat.le_refl _) ⟨_, rfl, h5.1⟩
set_option maxHeartbeats 4000000 in
set_option maxRecDepth 100000 in
theorem c_kk_Loom_decode_b (l : Launch) {dA : FieldType → ClassId} {D : va_G} {al : Nat → Nat} {ext : mv_Sh} {sk sv : Nat → Nat} (hi : mv_inj (mg dA D al ext)) (σ : mv_H) (w9 : Int64) (hR : Rf 48 (mv_r σ)) (hT : TreeOK 48 512 σ ∨ TreeZ 48 σ) : mv_C l y_Loom_decode (Cond.code y_Loom_decode b_Loom_decode 3 (Option.some Jvm.ClassFile.FieldType.int) :: ma) ({ frames := 2, cells := 0, slots := 0, locals := 51 }) (mg dA D al ext) (mK sk sv) [.ref (al 0), .long w9] σ (mv_Ri (fun v σ1 => F12 σ σ1)) := by
  refine mv_C.ofV (cc := b_Loom_decode) (nL := 3) (ret := (Option.some Jvm.ClassFile.FieldType.int)) (by decide +kernel) rfl hi (Nat.le_of_ble_eq_true rfl) ?_
  intro p e s m below meth c B hNs hr hnm hno
  refine mv_aload_n (pc := 0) B d_Loom_decode_0 rfl 0 rfl ?_
  refine mv_getR (pc := 1) (ci := 0) (C := R_Loom) (T := F_Loom) (N := 10) B 9 rfl rfl (by decide) i_Loom (B.2.2.2.1 _ k_495) rfl (hR.1 _ 9 _ rfl) d_Loom_decode_1 ?_
  refine mv_lload_n (pc := 4) B d_Loom_decode_4 rfl 1 rfl ?_
  refine mv_callVi (pc := 5) (n := 1) (ci := 9) (C := R_Machine) B (mK_ok sk sv) hNs rfl rfl (c_Machine_opOf_b l hi _ _ hR hT) rfl (ma_goodc kc_Machine_opOf) (B.2.2.2.1 _ k_1560) (B.2.2.2.1 _ k_1561) (B.2.2.2.1 _ k_1562) (B.2.2.2.1 _ k_11) ⟨by decide +kernel, by decide +kernel, by decide +kernel⟩ rfl d_Loom_decode_5 rfl (Nat.le_of_ble_eq_true rfl) ⟨by decide, by decide⟩ ⟨by decide, by decide⟩ ⟨by decide, by decide⟩ (mv_noH hno _) (fun v5 σ5 h5 => ?_)
  exact mv_iret (pc := 8) B hr rfl d_Loom_decode_8 (Nat.le_refl _) (Nat.le_refl _) ⟨_, rfl, h5.1⟩
set_option maxHeartbeats 4000000 in
set_option maxRecDepth 100000 in
theorem c_kk_Loom_decode_c (l : Launch) {dA : FieldType → ClassId} {D : va_G} {al : Nat → Nat} {sk sv : Nat → Nat} (hi : mv_inj (mg dA D al me)) (σ : mv_H) (w9 : Int64) (hR : Rf 145 (mv_r σ)) (hT : TreeOK 145 48 σ ∨ TreeZ 145 σ) : mv_C l y_Loom_decode (Cond.code y_Loom_decode b_Loom_decode 3 (Option.some Jvm.ClassFile.FieldType.int) :: ma) ({ frames := 2, cells := 0, slots := 0, locals := 51 }) (mg dA D al me) (mK sk sv) [.ref (al 0), .long w9] σ (mv_Ri (fun v σ1 => F12 σ σ1)) := by
  refine mv_C.ofV (cc := b_Loom_decode) (nL := 3) (ret := (Option.some Jvm.ClassFile.FieldType.int)) (by decide +kernel) rfl hi (Nat.le_of_ble_eq_true rfl) ?_
  intro p e s m below meth c B hNs hr hnm hno
  refine mv_aload_n (pc := 0) B d_Loom_decode_0 rfl 0 rfl ?_
  refine mv_getR (pc := 1) (ci := 0) (C := R_Loom) (T := F_Loom) (N := 10) B 9 rfl rfl (by decide) i_Loom (B.2.2.2.1 _ k_495) rfl (hR.1 _ 9 _ rfl) d_Loom_decode_1 ?_
  refine mv_lload_n (pc := 4) B d_Loom_decode_4 rfl 1 rfl ?_
  refine mv_callVi (pc := 5) (n := 1) (ci := 9) (C := R_Machine) B (mK_ok sk sv) hNs rfl rfl (c_Machine_opOf_c l hi _ _ hR hT) rfl (ma_goodc kc_Machine_opOf) (B.2.2.2.1 _ k_1560) (B.2.2.2.1 _ k_1561) (B.2.2.2.1 _ k_1562) (B.2.2.2.1 _ k_11) ⟨by decide +kernel, by decide +kernel, by decide +kernel⟩ rfl d_Loom_decode_5 rfl (Nat.le_of_ble_eq_true rfl) ⟨by decide, by decide⟩ ⟨by decide, by decide⟩ ⟨by decide, by decide⟩ (mv_noH hno _) (fun v5 σ5 h5 => ?_)
  exact mv_iret (pc := 8) B hr rfl d_Loom_decode_8 (Nat.le_refl _) (Nat.le_refl _) ⟨_, rfl, h5.1⟩
set_option maxHeartbeats 4000000 in
set_option maxRecDepth 100000 in
theorem c_kk_Model_fault (l : Launch) {dA : FieldType → ClassId} {D : va_G} {al : Nat → Nat} {ext : mv_Sh} {sk sv : Nat → Nat} (hi : mv_inj (mg dA D al ext)) (σ : mv_H) (n9 : Int32) : mv_C l y_Model_fault (Cond.code y_Model_fault b_Model_fault 2 (Option.some Jvm.ClassFile.FieldType.int) :: ma) ({ frames := 0, cells := 0, slots := 0, locals := 0 }) (mg dA D al ext) (mK sk sv) [.ref (al 70), .int n9] σ (mv_Ri (fun v σ1 => L2 σ σ1)) := by
  refine mv_C.ofV (cc := b_Model_fault) (nL := 2) (ret := (Option.some Jvm.ClassFile.FieldType.int)) (by decide +kernel) rfl hi (Nat.le_of_ble_eq_true rfl) ?_
  intro p e s m below meth c B hNs hr hnm hno
  refine mv_aload_n (pc := 0) B d_Model_fault_0 rfl 0 rfl ?_
  refine mv_iload_n (pc := 1) B d_Model_fault_1 rfl 1 rfl ?_
  refine mv_if_lt (pc := 2) (tgt := 10) B d_Model_fault_2 rfl (fun h2 => ?_) (fun h2 => ?_)
  · skip
    refine mv_iconst (pc := 10) (v := 1) B d_Model_fault_10 (by decide) ?_
    refine mv_goto (pc := 11) (tgt := 15) B d_Model_fault_11 rfl ?_
    refine mv_putI (pc := 15) (ci := 11) (C := R_Model) (T := F_Model) (N := 16) B 2 rfl rfl (by decide) i_Model t_Model_ok n_Model (B.2.2.2.1 _ k_2047) rfl rfl rfl rfl d_Model_fault_15 ?_
    refine mv_iload_n (pc := 18) B d_Model_fault_18 rfl 1 rfl ?_
    refine mv_if_ne (pc := 19) (tgt := 29) B d_Model_fault_19 rfl (fun h19 => ?_) (fun h19 => ?_)
    · skip
      refine mv_iload_n (pc := 29) B d_Model_fault_29 rfl 1 rfl ?_
      refine mv_iconst (pc := 30) (v := 1) B d_Model_fault_30 (by decide) ?_
      refine mv_icmp_ne (pc := 31) (tgt := 41) B d_Model_fault_31 rfl (fun h31 => ?_) (fun h31 => ?_)
      · skip
        refine mv_iload_n (pc := 41) B d_Model_fault_41 rfl 1 rfl ?_
        refine mv_iconst (pc := 42) (v := 2) B d_Model_fault_42 (by decide) ?_
        refine mv_icmp_ne (pc := 43) (tgt := 53) B d_Model_fault_43 rfl (fun h43 => ?_) (fun h43 => ?_)
        · skip
          refine mv_iconst (pc := 53) (v := 0) B d_Model_fault_53 (by decide) ?_
          exact mv_iret (pc := 54) B hr rfl d_Model_fault_54 (Nat.le_refl _) (Nat.le_refl _) ⟨_, rfl, L2.si Fx.rf⟩
        · skip
          refine mv_aload_n (pc := 46) B d_Model_fault_46 rfl 0 rfl ?_
          refine mv_getI (pc := 47) (ci := 11) (C := R_Model) (T := F_Model) (N := 16) B 5 rfl rfl (by decide) i_Model (B.2.2.2.1 _ k_2050) rfl d_Model_fault_47 ?_
          refine mv_goto (pc := 50) (tgt := 54) B d_Model_fault_50 rfl ?_
          exact mv_iret (pc := 54) B hr rfl d_Model_fault_54 (Nat.le_refl _) (Nat.le_refl _) ⟨_, rfl, L2.si Fx.rf⟩
      · skip
        refine mv_aload_n (pc := 34) B d_Model_fault_34 rfl 0 rfl ?_
        refine mv_getI (pc := 35) (ci := 11) (C := R_Model) (T := F_Model) (N := 16) B 4 rfl rfl (by decide) i_Model (B.2.2.2.1 _ k_2049) rfl d_Model_fault_35 ?_
        refine mv_goto (pc := 38) (tgt := 54) B d_Model_fault_38 rfl ?_
        exact mv_iret (pc := 54) B hr rfl d_Model_fault_54 (Nat.le_refl _) (Nat.le_refl _) ⟨_, rfl, L2.si Fx.rf⟩
    · skip
      refine mv_aload_n (pc := 22) B d_Model_fault_22 rfl 0 rfl ?_
      refine mv_getI (pc := 23) (ci := 11) (C := R_Model) (T := F_Model) (N := 16) B 3 rfl rfl (by decide) i_Model (B.2.2.2.1 _ k_2048) rfl d_Model_fault_23 ?_
      refine mv_goto (pc := 26) (tgt := 54) B d_Model_fault_26 rfl ?_
      exact mv_iret (pc := 54) B hr rfl d_Model_fault_54 (Nat.le_refl _) (Nat.le_refl _) ⟨_, rfl, L2.si Fx.rf⟩
  · skip
    refine mv_iload_n (pc := 5) B d_Model_fault_5 rfl 1 rfl ?_
    refine mv_iconst (pc := 6) (v := 2) B d_Model_fault_6 (by decide) ?_
    refine mv_icmp_le (pc := 7) (tgt := 14) B d_Model_fault_7 rfl (fun h7 => ?_) (fun h7 => ?_)
    · skip
      refine mv_iconst (pc := 14) (v := 0) B d_Model_fault_14 (by decide) ?_
      refine mv_putI (pc := 15) (ci := 11) (C := R_Model) (T := F_Model) (N := 16) B 2 rfl rfl (by decide) i_Model t_Model_ok n_Model (B.2.2.2.1 _ k_2047) rfl rfl rfl rfl d_Model_fault_15 ?_
      refine mv_iload_n (pc := 18) B d_Model_fault_18 rfl 1 rfl ?_
      refine mv_if_ne (pc := 19) (tgt := 29) B d_Model_fault_19 rfl (fun h19 => ?_) (fun h19 => ?_)
      · skip
        refine mv_iload_n (pc := 29) B d_Model_fault_29 rfl 1 rfl ?_
        refine mv_iconst (pc := 30) (v := 1) B d_Model_fault_30 (by decide) ?_
        refine mv_icmp_ne (pc := 31) (tgt := 41) B d_Model_fault_31 rfl (fun h31 => ?_) (fun h31 => ?_)
        · skip
          refine mv_iload_n (pc := 41) B d_Model_fault_41 rfl 1 rfl ?_
          refine mv_iconst (pc := 42) (v := 2) B d_Model_fault_42 (by decide) ?_
          refine mv_icmp_ne (pc := 43) (tgt := 53) B d_Model_fault_43 rfl (fun h43 => ?_) (fun h43 => ?_)
          · skip
            refine mv_iconst (pc := 53) (v := 0) B d_Model_fault_53 (by decide) ?_
            exact mv_iret (pc := 54) B hr rfl d_Model_fault_54 (Nat.le_refl _) (Nat.le_refl _) ⟨_, rfl, L2.si Fx.rf⟩
          · skip
            refine mv_aload_n (pc := 46) B d_Model_fault_46 rfl 0 rfl ?_
            refine mv_getI (pc := 47) (ci := 11) (C := R_Model) (T := F_Model) (N := 16) B 5 rfl rfl (by decide) i_Model (B.2.2.2.1 _ k_2050) rfl d_Model_fault_47 ?_
            refine mv_goto (pc := 50) (tgt := 54) B d_Model_fault_50 rfl ?_
            exact mv_iret (pc := 54) B hr rfl d_Model_fault_54 (Nat.le_refl _) (Nat.le_refl _) ⟨_, rfl, L2.si Fx.rf⟩
        · skip
          refine mv_aload_n (pc := 34) B d_Model_fault_34 rfl 0 rfl ?_
          refine mv_getI (pc := 35) (ci := 11) (C := R_Model) (T := F_Model) (N := 16) B 4 rfl rfl (by decide) i_Model (B.2.2.2.1 _ k_2049) rfl d_Model_fault_35 ?_
          refine mv_goto (pc := 38) (tgt := 54) B d_Model_fault_38 rfl ?_
          exact mv_iret (pc := 54) B hr rfl d_Model_fault_54 (Nat.le_refl _) (Nat.le_refl _) ⟨_, rfl, L2.si Fx.rf⟩
      · skip
        refine mv_aload_n (pc := 22) B d_Model_fault_22 rfl 0 rfl ?_
        refine mv_getI (pc := 23) (ci := 11) (C := R_Model) (T := F_Model) (N := 16) B 3 rfl rfl (by decide) i_Model (B.2.2.2.1 _ k_2048) rfl d_Model_fault_23 ?_
        refine mv_goto (pc := 26) (tgt := 54) B d_Model_fault_26 rfl ?_
        exact mv_iret (pc := 54) B hr rfl d_Model_fault_54 (Nat.le_refl _) (Nat.le_refl _) ⟨_, rfl, L2.si Fx.rf⟩
    · skip
      refine mv_iconst (pc := 10) (v := 1) B d_Model_fault_10 (by decide) ?_
      refine mv_goto (pc := 11) (tgt := 15) B d_Model_fault_11 rfl ?_
      refine mv_putI (pc := 15) (ci := 11) (C := R_Model) (T := F_Model) (N := 16) B 2 rfl rfl (by decide) i_Model t_Model_ok n_Model (B.2.2.2.1 _ k_2047) rfl rfl rfl rfl d_Model_fault_15 ?_
      refine mv_iload_n (pc := 18) B d_Model_fault_18 rfl 1 rfl ?_
      refine mv_if_ne (pc := 19) (tgt := 29) B d_Model_fault_19 rfl (fun h19 => ?_) (fun h19 => ?_)
      · skip
        refine mv_iload_n (pc := 29) B d_Model_fault_29 rfl 1 rfl ?_
        refine mv_iconst (pc := 30) (v := 1) B d_Model_fault_30 (by decide) ?_
        refine mv_icmp_ne (pc := 31) (tgt := 41) B d_Model_fault_31 rfl (fun h31 => ?_) (fun h31 => ?_)
        · skip
          refine mv_iload_n (pc := 41) B d_Model_fault_41 rfl 1 rfl ?_
          refine mv_iconst (pc := 42) (v := 2) B d_Model_fault_42 (by decide) ?_
          refine mv_icmp_ne (pc := 43) (tgt := 53) B d_Model_fault_43 rfl (fun h43 => ?_) (fun h43 => ?_)
          · skip
            refine mv_iconst (pc := 53) (v := 0) B d_Model_fault_53 (by decide) ?_
            exact mv_iret (pc := 54) B hr rfl d_Model_fault_54 (Nat.le_refl _) (Nat.le_refl _) ⟨_, rfl, L2.si Fx.rf⟩
          · skip
            refine mv_aload_n (pc := 46) B d_Model_fault_46 rfl 0 rfl ?_
            refine mv_getI (pc := 47) (ci := 11) (C := R_Model) (T := F_Model) (N := 16) B 5 rfl rfl (by decide) i_Model (B.2.2.2.1 _ k_2050) rfl d_Model_fault_47 ?_
            refine mv_goto (pc := 50) (tgt := 54) B d_Model_fault_50 rfl ?_
            exact mv_iret (pc := 54) B hr rfl d_Model_fault_54 (Nat.le_refl _) (Nat.le_refl _) ⟨_, rfl, L2.si Fx.rf⟩
        · skip
          refine mv_aload_n (pc := 34) B d_Model_fault_34 rfl 0 rfl ?_
          refine mv_getI (pc := 35) (ci := 11) (C := R_Model) (T := F_Model) (N := 16) B 4 rfl rfl (by decide) i_Model (B.2.2.2.1 _ k_2049) rfl d_Model_fault_35 ?_
          refine mv_goto (pc := 38) (tgt := 54) B d_Model_fault_38 rfl ?_
          exact mv_iret (pc := 54) B hr rfl d_Model_fault_54 (Nat.le_refl _) (Nat.le_refl _) ⟨_, rfl, L2.si Fx.rf⟩
      · skip
        refine mv_aload_n (pc := 22) B d_Model_fault_22 rfl 0 rfl ?_
        refine mv_getI (pc := 23) (ci := 11) (C := R_Model) (T := F_Model) (N := 16) B 3 rfl rfl (by decide) i_Model (B.2.2.2.1 _ k_2048) rfl d_Model_fault_23 ?_
        refine mv_goto (pc := 26) (tgt := 54) B d_Model_fault_26 rfl ?_
        exact mv_iret (pc := 54) B hr rfl d_Model_fault_54 (Nat.le_refl _) (Nat.le_refl _) ⟨_, rfl, L2.si Fx.rf⟩
set_option maxHeartbeats 4000000 in
set_option maxRecDepth 100000 in
theorem c_kk_Model_trap (l : Launch) {dA : FieldType → ClassId} {D : va_G} {al : Nat → Nat} {ext : mv_Sh} {sk sv : Nat → Nat} (hi : mv_inj (mg dA D al ext)) (σ : mv_H)  : mv_C l y_Model_trap (Cond.code y_Model_trap b_Model_trap 1 (Option.some Jvm.ClassFile.FieldType.int) :: ma) ({ frames := 0, cells := 0, slots := 0, locals := 0 }) (mg dA D al ext) (mK sk sv) [.ref (al 70)] σ (mv_Ri (fun v σ1 => L2 σ σ1 ∧ v = mv_i σ 70 14)) := by
  refine mv_C.ofV (cc := b_Model_trap) (nL := 1) (ret := (Option.some Jvm.ClassFile.FieldType.int)) (by decide +kernel) rfl hi (Nat.le_of_ble_eq_true rfl) ?_
  intro p e s m below meth c B hNs hr hnm hno
  refine mv_aload_n (pc := 0) B d_Model_trap_0 rfl 0 rfl ?_
  refine mv_iconst (pc := 1) (v := 0) B d_Model_trap_1 (by decide) ?_
  refine mv_putI (pc := 2) (ci := 11) (C := R_Model) (T := F_Model) (N := 16) B 2 rfl rfl (by decide) i_Model t_Model_ok n_Model (B.2.2.2.1 _ k_2047) rfl rfl rfl rfl d_Model_trap_2 ?_
  refine mv_aload_n (pc := 5) B d_Model_trap_5 rfl 0 rfl ?_
  refine mv_getI (pc := 6) (ci := 11) (C := R_Model) (T := F_Model) (N := 16) B 14 rfl rfl (by decide) i_Model (B.2.2.2.1 _ k_2059) rfl d_Model_trap_6 ?_
  exact mv_iret (pc := 9) B hr rfl d_Model_trap_9 (Nat.le_refl _) (Nat.le_refl _) ⟨_, rfl, L2.si Fx.rf, mv_si_o _ _ (by omega)⟩
set_option maxHeartbeats 4000000 in
set_option maxRecDepth 100000 in
theorem c_kk_Model_field_x (l : Launch) {dA : FieldType → ClassId} {D : va_G} {al : Nat → Nat} {ext : mv_Sh} {sk sv : Nat → Nat} (hi : mv_inj (mg dA D al ext)) (σ : mv_H) (hM : MI 74 108 σ) (o9 c9 : Int32) (w0 : Int64) : mv_C l y_Model_field (Cond.code y_Model_field b_Model_field 7 (Option.some Jvm.ClassFile.FieldType.long) :: ma) ({ frames := 2, cells := 0, slots := 0, locals := 51 }) (mg dA D al ext) (mK sk sv) [.ref (al 70), .int o9, .int c9, .long w0] σ (mv_Rl (fun v σ1 => L2 σ σ1)) := by
  refine mv_C.ofV (cc := b_Model_field) (nL := 7) (ret := (Option.some Jvm.ClassFile.FieldType.long)) (by decide +kernel) rfl hi (Nat.le_of_ble_eq_true rfl) ?_
  intro p e s m below meth c B hNs hr hnm hno
  have hN : 74 = 74 ∨ 74 = 108 := by decide
  refine mv_aload_n (pc := 0) B d_Model_field_0 rfl 0 rfl ?_
  refine mv_iconst (pc := 1) (v := 1) B d_Model_field_1 (by decide) ?_
  refine mv_putI (pc := 2) (ci := 11) (C := R_Model) (T := F_Model) (N := 16) B 2 rfl rfl (by decide) i_Model t_Model_ok n_Model (B.2.2.2.1 _ k_2047) rfl rfl rfl rfl d_Model_field_2 ?_
  refine mv_gen (fun S5 eS5 => ?_)
  have hL2 : L2 σ S5 := by rw [eS5]; exact L2.si Fx.rf
  have hF : QF 74 σ S5 := hL2.qf
  have hM := hM.qf hF hN
  have e11 := hF.sh hN
  have hM0 := hM
  obtain ⟨-, -, -, th, n, k, g1, g2, g3, g4, g5, g6, g7, g8⟩ := hM0
  clear g6 g7 g8
  clear eS5
  refine mv_iload_n (pc := 5) B d_Model_field_5 rfl 1 rfl ?_
  refine mv_if_lt (pc := 6) (tgt := 32) B d_Model_field_6 rfl (fun h6 => ?_) (fun h6 => ?_)
  · skip
    refine mv_lconst (pc := 32) (v := 0) B d_Model_field_32 (by decide) ?_
    exact mv_lret (pc := 33) B hr d_Model_field_33 (Nat.le_refl _) (Nat.le_refl _) ⟨_, rfl, hL2⟩
  · skip
    have ho0 : ¬ o9.toInt < 0 := fun z => h6 (Int32.lt_iff_toInt_lt.mpr z)
    refine mv_iload_n (pc := 9) B d_Model_field_9 rfl 1 rfl ?_
    refine mv_aload_n (pc := 10) B d_Model_field_10 rfl 0 rfl ?_
    refine mv_getI (pc := 11) (ci := 11) (C := R_Model) (T := F_Model) (N := 16) B 11 rfl rfl (by decide) i_Model (B.2.2.2.1 _ k_2056) rfl d_Model_field_11 ?_
    refine mv_if_eq (pc := 14) (tgt := 22) B d_Model_field_14 rfl (fun h14 => ?_) (fun h14 => ?_)
    · skip
      refine mv_aload_n (pc := 22) B d_Model_field_22 rfl 0 rfl ?_
      refine mv_getR (pc := 23) (ci := 11) (C := R_Model) (T := F_Model) (N := 16) B 9 rfl rfl (by decide) i_Model (B.2.2.2.1 _ k_2054) rfl hM.2.1 d_Model_field_23 ?_
      refine mv_getI (pc := 26) (ci := 12) (C := R_Book) (T := F_Book) (N := 65) B 29 rfl rfl (by decide) i_Book (B.2.2.2.1 _ k_1875) rfl d_Model_field_26 ?_
      refine mv_icmp_lt (pc := 29) (tgt := 34) B d_Model_field_29 rfl (fun h29 => ?_) (fun h29 => ?_)
      · skip
        rw [Int32.lt_iff_toInt_lt] at h29
        refine mv_aload_n (pc := 34) B d_Model_field_34 rfl 0 rfl ?_
        refine mv_getI (pc := 35) (ci := 11) (C := R_Model) (T := F_Model) (N := 16) B 11 rfl rfl (by decide) i_Model (B.2.2.2.1 _ k_2056) rfl d_Model_field_35 ?_
        refine mv_if_eq (pc := 38) (tgt := 51) B d_Model_field_38 rfl (fun h38 => ?_) (fun h38 => ?_)
        · skip
          refine mv_lconst (pc := 51) (v := 0) B d_Model_field_51 (by decide) ?_
          refine mv_lstore (pc := 52) B d_Model_field_52 (by decide) rfl ?_
          refine mv_aload_n (pc := 54) B d_Model_field_54 rfl 1 rfl ?_
          refine mv_getI (pc := 55) (ci := 11) (C := R_Model) (T := F_Model) (N := 16) B 11 rfl rfl (by decide) i_Model (B.2.2.2.1 _ k_2056) rfl d_Model_field_55 ?_
          refine mv_if_eq (pc := 58) (tgt := 71) B d_Model_field_58 rfl (fun h58 => ?_) (fun h58 => ?_)
          · skip
            refine mv_aload_n (pc := 71) B d_Model_field_71 rfl 1 rfl ?_
            refine mv_getR (pc := 72) (ci := 11) (C := R_Model) (T := F_Model) (N := 16) B 9 rfl rfl (by decide) i_Model (B.2.2.2.1 _ k_2054) rfl hM.2.1 d_Model_field_72 ?_
            refine mv_iload_n (pc := 75) B d_Model_field_75 rfl 2 rfl ?_
            refine mv_iload_n (pc := 76) B d_Model_field_76 rfl 3 rfl ?_
            refine mv_callVi (pc := 77) (n := 2) (ci := 12) (C := R_Book) B (mK_ok sk sv) hNs rfl rfl (c_Book_hasField_x l hi _ _ _ k hM.1 g5 (by omega) (by rw [g5.1] at h29; exact h29)) rfl (ma_goodc kc_Book_hasField) (B.2.2.2.1 _ k_2403) (B.2.2.2.1 _ k_2404) (B.2.2.2.1 _ k_2405) (B.2.2.2.1 _ k_13) ⟨by decide +kernel, by decide +kernel, by decide +kernel⟩ rfl d_Model_field_77 rfl (Nat.le_of_ble_eq_true rfl) ⟨by decide, by decide⟩ ⟨by decide, by decide⟩ ⟨by decide, by decide⟩ (mv_noH hno _) (fun v77 σ77 h77 => ?_)
            have e77 := h77.symm
            subst e77
            refine mv_if_ne (pc := 80) (tgt := 85) B d_Model_field_80 rfl (fun h80 => ?_) (fun h80 => ?_)
            · skip
              refine mv_aload_n (pc := 85) B d_Model_field_85 rfl 1 rfl ?_
              refine mv_iconst (pc := 86) (v := 0) B d_Model_field_86 (by decide) ?_
              refine mv_putI (pc := 87) (ci := 11) (C := R_Model) (T := F_Model) (N := 16) B 2 rfl rfl (by decide) i_Model t_Model_ok n_Model (B.2.2.2.1 _ k_2047) rfl rfl rfl rfl d_Model_field_87 ?_
              refine mv_gen (fun S90 eS90 => ?_)
              have hM9 := hM
              have hMs : MI 74 108 S90 := by rw [eS90]; exact hM.qf (QF.si Fx.rf (by decide)) hN
              have gs : CO 74 k S90 := by rw [eS90]; exact g5.fr (mv_si_o _ _ (by omega)) (mv_si_o _ _ (by omega)) (fun j => rfl)
              have hLs : L2 σ S90 := by rw [eS90]; exact hL2.si
              have e94 : mv_i S90 70 11 = mv_i S5 70 11 := by rw [eS90, mv_si_o _ _ (by omega)]
              have hM := hMs
              clear eS90
              refine mv_aload_n (pc := 90) B d_Model_field_90 rfl 1 rfl ?_
              refine mv_getI (pc := 91) (ci := 11) (C := R_Model) (T := F_Model) (N := 16) B 11 rfl rfl (by decide) i_Model (B.2.2.2.1 _ k_2056) rfl d_Model_field_91 ?_
              refine mv_if_eq (pc := 94) (tgt := 102) B d_Model_field_94 rfl (fun h94 => ?_) (fun h94 => ?_)
              · skip
                refine mv_aload_n (pc := 102) B d_Model_field_102 rfl 1 rfl ?_
                refine mv_getR (pc := 103) (ci := 11) (C := R_Model) (T := F_Model) (N := 16) B 9 rfl rfl (by decide) i_Model (B.2.2.2.1 _ k_2054) rfl hM.2.1 d_Model_field_103 ?_
                refine mv_iload_n (pc := 106) B d_Model_field_106 rfl 2 rfl ?_
                refine mv_iload_n (pc := 107) B d_Model_field_107 rfl 3 rfl ?_
                refine mv_lload_n (pc := 108) B d_Model_field_108 rfl 4 rfl ?_
                refine mv_callVl (pc := 109) (n := 3) (ci := 12) (C := R_Book) B (mK_ok sk sv) hNs rfl rfl (c_Book_field_x l hi _ _ _ _ k hMs.1 gs (by omega) (by rw [g5.1] at h29; exact h29)) rfl (ma_goodc kc_Book_field) (B.2.2.2.1 _ k_2407) (B.2.2.2.1 _ k_2408) (B.2.2.2.1 _ k_2409) (B.2.2.2.1 _ k_13) ⟨by decide +kernel, by decide +kernel, by decide +kernel⟩ rfl d_Model_field_109 rfl (Nat.le_of_ble_eq_true rfl) ⟨by decide, by decide⟩ ⟨by decide, by decide⟩ ⟨by decide, by decide⟩ (mv_noH hno _) (fun v109 σ109 h109 => ?_)
                have e109 := h109.symm
                subst e109
                exact mv_lret (pc := 112) B hr d_Model_field_112 (Nat.le_refl _) (Nat.le_refl _) ⟨_, rfl, hLs⟩
              · skip
                exact absurd (e94.trans h14) h94
            · skip
              refine mv_lconst (pc := 83) (v := 0) B d_Model_field_83 (by decide) ?_
              exact mv_lret (pc := 84) B hr d_Model_field_84 (Nat.le_refl _) (Nat.le_refl _) ⟨_, rfl, hL2⟩
          · skip
            exact absurd h14 h58
        · skip
          exact absurd h14 h38
      · skip
        refine mv_lconst (pc := 32) (v := 0) B d_Model_field_32 (by decide) ?_
        exact mv_lret (pc := 33) B hr d_Model_field_33 (Nat.le_refl _) (Nat.le_refl _) ⟨_, rfl, hL2⟩
    · skip
      refine mv_bipush (pc := 17) (v := 48) B d_Model_field_17 (by decide) ?_
      refine mv_goto (pc := 19) (tgt := 29) B d_Model_field_19 rfl ?_
      refine mv_icmp_lt (pc := 29) (tgt := 34) B d_Model_field_29 rfl (fun h29 => ?_) (fun h29 => ?_)
      · skip
        rw [Int32.lt_iff_toInt_lt] at h29
        refine mv_aload_n (pc := 34) B d_Model_field_34 rfl 0 rfl ?_
        refine mv_getI (pc := 35) (ci := 11) (C := R_Model) (T := F_Model) (N := 16) B 11 rfl rfl (by decide) i_Model (B.2.2.2.1 _ k_2056) rfl d_Model_field_35 ?_
        refine mv_if_eq (pc := 38) (tgt := 51) B d_Model_field_38 rfl (fun h38 => ?_) (fun h38 => ?_)
        · skip
          exact absurd h38 h14
        · skip
          refine mv_iload_n (pc := 41) B d_Model_field_41 rfl 1 rfl ?_
          refine mv_iload_n (pc := 42) B d_Model_field_42 rfl 2 rfl ?_
          refine mv_lload_n (pc := 43) B d_Model_field_43 rfl 3 rfl ?_
          refine mv_l2i (pc := 44) B d_Model_field_44 ?_
          refine mv_callSl (pc := 45) (n := 3) B (mK_ok sk sv) hNs (c_Model_shippedField l hi _ _ _ _) rfl (ma_goodc kc_Model_shippedField) (B.2.2.2.1 _ k_2386) (B.2.2.2.1 _ k_2387) (B.2.2.2.1 _ k_12) ⟨by decide +kernel, by decide +kernel, by decide +kernel⟩ rfl d_Model_field_45 rfl (Nat.le_of_ble_eq_true rfl) ⟨by decide, by decide⟩ ⟨by decide, by decide⟩ ⟨by decide, by decide⟩ (mv_noH hno _) (fun v45 σ45 h45 => ?_)
          have e45 := h45.symm
          subst e45
          refine mv_goto (pc := 48) (tgt := 52) B d_Model_field_48 rfl ?_
          refine mv_lstore (pc := 52) B d_Model_field_52 (by decide) rfl ?_
          refine mv_aload_n (pc := 54) B d_Model_field_54 rfl 1 rfl ?_
          refine mv_getI (pc := 55) (ci := 11) (C := R_Model) (T := F_Model) (N := 16) B 11 rfl rfl (by decide) i_Model (B.2.2.2.1 _ k_2056) rfl d_Model_field_55 ?_
          refine mv_if_eq (pc := 58) (tgt := 71) B d_Model_field_58 rfl (fun h58 => ?_) (fun h58 => ?_)
          · skip
            exact absurd h58 h14
          · skip
            refine mv_lload (pc := 61) B d_Model_field_61 0 rfl ?_
            refine mv_lconst (pc := 63) (v := 0) B d_Model_field_63 (by decide) ?_
            refine mv_lcmp (pc := 64) B d_Model_field_64 ?_
            refine mv_if_ge (pc := 65) (tgt := 85) B d_Model_field_65 rfl (fun h65 => ?_) (fun h65 => ?_)
            · skip
              refine mv_aload_n (pc := 85) B d_Model_field_85 rfl 1 rfl ?_
              refine mv_iconst (pc := 86) (v := 0) B d_Model_field_86 (by decide) ?_
              refine mv_putI (pc := 87) (ci := 11) (C := R_Model) (T := F_Model) (N := 16) B 2 rfl rfl (by decide) i_Model t_Model_ok n_Model (B.2.2.2.1 _ k_2047) rfl rfl rfl rfl d_Model_field_87 ?_
              refine mv_gen (fun S90 eS90 => ?_)
              have hM9 := hM
              have hMs : MI 74 108 S90 := by rw [eS90]; exact hM.qf (QF.si Fx.rf (by decide)) hN
              have gs : CO 74 k S90 := by rw [eS90]; exact g5.fr (mv_si_o _ _ (by omega)) (mv_si_o _ _ (by omega)) (fun j => rfl)
              have hLs : L2 σ S90 := by rw [eS90]; exact hL2.si
              have e94 : mv_i S90 70 11 = mv_i S5 70 11 := by rw [eS90, mv_si_o _ _ (by omega)]
              have hM := hMs
              clear eS90
              refine mv_aload_n (pc := 90) B d_Model_field_90 rfl 1 rfl ?_
              refine mv_getI (pc := 91) (ci := 11) (C := R_Model) (T := F_Model) (N := 16) B 11 rfl rfl (by decide) i_Model (B.2.2.2.1 _ k_2056) rfl d_Model_field_91 ?_
              refine mv_if_eq (pc := 94) (tgt := 102) B d_Model_field_94 rfl (fun h94 => ?_) (fun h94 => ?_)
              · skip
                exact absurd (e94.symm.trans h94) h14
              · skip
                refine mv_lload (pc := 97) B d_Model_field_97 0 rfl ?_
                refine mv_goto (pc := 99) (tgt := 112) B d_Model_field_99 rfl ?_
                exact mv_lret (pc := 112) B hr d_Model_field_112 (Nat.le_refl _) (Nat.le_refl _) ⟨_, rfl, hLs⟩
            · skip
              refine mv_goto (pc := 68) (tgt := 83) B d_Model_field_68 rfl ?_
              refine mv_lconst (pc := 83) (v := 0) B d_Model_field_83 (by decide) ?_
              exact mv_lret (pc := 84) B hr d_Model_field_84 (Nat.le_refl _) (Nat.le_refl _) ⟨_, rfl, hL2⟩
      · skip
        refine mv_lconst (pc := 32) (v := 0) B d_Model_field_32 (by decide) ?_
        exact mv_lret (pc := 33) B hr d_Model_field_33 (Nat.le_refl _) (Nat.le_refl _) ⟨_, rfl, hL2⟩
set_option maxHeartbeats 4000000 in
set_option maxRecDepth 100000 in
theorem c_kk_Model_field_y (l : Launch) {dA : FieldType → ClassId} {D : va_G} {al : Nat → Nat} {ext : mv_Sh} {sk sv : Nat → Nat} (hi : mv_inj (mg dA D al ext)) (σ : mv_H) (hM : MI 108 74 σ) (o9 c9 : Int32) (w0 : Int64) : mv_C l y_Model_field (Cond.code y_Model_field b_Model_field 7 (Option.some Jvm.ClassFile.FieldType.long) :: ma) ({ frames := 2, cells := 0, slots := 0, locals := 51 }) (mg dA D al ext) (mK sk sv) [.ref (al 70), .int o9, .int c9, .long w0] σ (mv_Rl (fun v σ1 => L2 σ σ1)) := by
  refine mv_C.ofV (cc := b_Model_field) (nL := 7) (ret := (Option.some Jvm.ClassFile.FieldType.long)) (by decide +kernel) rfl hi (Nat.le_of_ble_eq_true rfl) ?_
  intro p e s m below meth c B hNs hr hnm hno
  have hN : 108 = 74 ∨ 108 = 108 := by decide
  refine mv_aload_n (pc := 0) B d_Model_field_0 rfl 0 rfl ?_
  refine mv_iconst (pc := 1) (v := 1) B d_Model_field_1 (by decide) ?_
  refine mv_putI (pc := 2) (ci := 11) (C := R_Model) (T := F_Model) (N := 16) B 2 rfl rfl (by decide) i_Model t_Model_ok n_Model (B.2.2.2.1 _ k_2047) rfl rfl rfl rfl d_Model_field_2 ?_
  refine mv_gen (fun S5 eS5 => ?_)
  have hL2 : L2 σ S5 := by rw [eS5]; exact L2.si Fx.rf
  have hF : QF 108 σ S5 := hL2.qf
  have hM := hM.qf hF hN
  have e11 := hF.sh hN
  have hM0 := hM
  obtain ⟨-, -, -, th, n, k, g1, g2, g3, g4, g5, g6, g7, g8⟩ := hM0
  clear g6 g7 g8
  clear eS5
  refine mv_iload_n (pc := 5) B d_Model_field_5 rfl 1 rfl ?_
  refine mv_if_lt (pc := 6) (tgt := 32) B d_Model_field_6 rfl (fun h6 => ?_) (fun h6 => ?_)
  · skip
    refine mv_lconst (pc := 32) (v := 0) B d_Model_field_32 (by decide) ?_
    exact mv_lret (pc := 33) B hr d_Model_field_33 (Nat.le_refl _) (Nat.le_refl _) ⟨_, rfl, hL2⟩
  · skip
    have ho0 : ¬ o9.toInt < 0 := fun z => h6 (Int32.lt_iff_toInt_lt.mpr z)
    refine mv_iload_n (pc := 9) B d_Model_field_9 rfl 1 rfl ?_
    refine mv_aload_n (pc := 10) B d_Model_field_10 rfl 0 rfl ?_
    refine mv_getI (pc := 11) (ci := 11) (C := R_Model) (T := F_Model) (N := 16) B 11 rfl rfl (by decide) i_Model (B.2.2.2.1 _ k_2056) rfl d_Model_field_11 ?_
    refine mv_if_eq (pc := 14) (tgt := 22) B d_Model_field_14 rfl (fun h14 => ?_) (fun h14 => ?_)
    · skip
      refine mv_aload_n (pc := 22) B d_Model_field_22 rfl 0 rfl ?_
      refine mv_getR (pc := 23) (ci := 11) (C := R_Model) (T := F_Model) (N := 16) B 9 rfl rfl (by decide) i_Model (B.2.2.2.1 _ k_2054) rfl hM.2.1 d_Model_field_23 ?_
      refine mv_getI (pc := 26) (ci := 12) (C := R_Book) (T := F_Book) (N := 65) B 29 rfl rfl (by decide) i_Book (B.2.2.2.1 _ k_1875) rfl d_Model_field_26 ?_
      refine mv_icmp_lt (pc := 29) (tgt := 34) B d_Model_field_29 rfl (fun h29 => ?_) (fun h29 => ?_)
      · skip
        rw [Int32.lt_iff_toInt_lt] at h29
        refine mv_aload_n (pc := 34) B d_Model_field_34 rfl 0 rfl ?_
        refine mv_getI (pc := 35) (ci := 11) (C := R_Model) (T := F_Model) (N := 16) B 11 rfl rfl (by decide) i_Model (B.2.2.2.1 _ k_2056) rfl d_Model_field_35 ?_
        refine mv_if_eq (pc := 38) (tgt := 51) B d_Model_field_38 rfl (fun h38 => ?_) (fun h38 => ?_)
        · skip
          refine mv_lconst (pc := 51) (v := 0) B d_Model_field_51 (by decide) ?_
          refine mv_lstore (pc := 52) B d_Model_field_52 (by decide) rfl ?_
          refine mv_aload_n (pc := 54) B d_Model_field_54 rfl 1 rfl ?_
          refine mv_getI (pc := 55) (ci := 11) (C := R_Model) (T := F_Model) (N := 16) B 11 rfl rfl (by decide) i_Model (B.2.2.2.1 _ k_2056) rfl d_Model_field_55 ?_
          refine mv_if_eq (pc := 58) (tgt := 71) B d_Model_field_58 rfl (fun h58 => ?_) (fun h58 => ?_)
          · skip
            refine mv_aload_n (pc := 71) B d_Model_field_71 rfl 1 rfl ?_
            refine mv_getR (pc := 72) (ci := 11) (C := R_Model) (T := F_Model) (N := 16) B 9 rfl rfl (by decide) i_Model (B.2.2.2.1 _ k_2054) rfl hM.2.1 d_Model_field_72 ?_
            refine mv_iload_n (pc := 75) B d_Model_field_75 rfl 2 rfl ?_
            refine mv_iload_n (pc := 76) B d_Model_field_76 rfl 3 rfl ?_
            refine mv_callVi (pc := 77) (n := 2) (ci := 12) (C := R_Book) B (mK_ok sk sv) hNs rfl rfl (c_Book_hasField_y l hi _ _ _ k hM.1 g5 (by omega) (by rw [g5.1] at h29; exact h29)) rfl (ma_goodc kc_Book_hasField) (B.2.2.2.1 _ k_2403) (B.2.2.2.1 _ k_2404) (B.2.2.2.1 _ k_2405) (B.2.2.2.1 _ k_13) ⟨by decide +kernel, by decide +kernel, by decide +kernel⟩ rfl d_Model_field_77 rfl (Nat.le_of_ble_eq_true rfl) ⟨by decide, by decide⟩ ⟨by decide, by decide⟩ ⟨by decide, by decide⟩ (mv_noH hno _) (fun v77 σ77 h77 => ?_)
            have e77 := h77.symm
            subst e77
            refine mv_if_ne (pc := 80) (tgt := 85) B d_Model_field_80 rfl (fun h80 => ?_) (fun h80 => ?_)
            · skip
              refine mv_aload_n (pc := 85) B d_Model_field_85 rfl 1 rfl ?_
              refine mv_iconst (pc := 86) (v := 0) B d_Model_field_86 (by decide) ?_
              refine mv_putI (pc := 87) (ci := 11) (C := R_Model) (T := F_Model) (N := 16) B 2 rfl rfl (by decide) i_Model t_Model_ok n_Model (B.2.2.2.1 _ k_2047) rfl rfl rfl rfl d_Model_field_87 ?_
              refine mv_gen (fun S90 eS90 => ?_)
              have hM9 := hM
              have hMs : MI 108 74 S90 := by rw [eS90]; exact hM.qf (QF.si Fx.rf (by decide)) hN
              have gs : CO 108 k S90 := by rw [eS90]; exact g5.fr (mv_si_o _ _ (by omega)) (mv_si_o _ _ (by omega)) (fun j => rfl)
              have hLs : L2 σ S90 := by rw [eS90]; exact hL2.si
              have e94 : mv_i S90 70 11 = mv_i S5 70 11 := by rw [eS90, mv_si_o _ _ (by omega)]
              have hM := hMs
              clear eS90
              refine mv_aload_n (pc := 90) B d_Model_field_90 rfl 1 rfl ?_
              refine mv_getI (pc := 91) (ci := 11) (C := R_Model) (T := F_Model) (N := 16) B 11 rfl rfl (by decide) i_Model (B.2.2.2.1 _ k_2056) rfl d_Model_field_91 ?_
              refine mv_if_eq (pc := 94) (tgt := 102) B d_Model_field_94 rfl (fun h94 => ?_) (fun h94 => ?_)
              · skip
                refine mv_aload_n (pc := 102) B d_Model_field_102 rfl 1 rfl ?_
                refine mv_getR (pc := 103) (ci := 11) (C := R_Model) (T := F_Model) (N := 16) B 9 rfl rfl (by decide) i_Model (B.2.2.2.1 _ k_2054) rfl hM.2.1 d_Model_field_103 ?_
                refine mv_iload_n (pc := 106) B d_Model_field_106 rfl 2 rfl ?_
                refine mv_iload_n (pc := 107) B d_Model_field_107 rfl 3 rfl ?_
                refine mv_lload_n (pc := 108) B d_Model_field_108 rfl 4 rfl ?_
                refine mv_callVl (pc := 109) (n := 3) (ci := 12) (C := R_Book) B (mK_ok sk sv) hNs rfl rfl (c_Book_field_y l hi _ _ _ _ k hMs.1 gs (by omega) (by rw [g5.1] at h29; exact h29)) rfl (ma_goodc kc_Book_field) (B.2.2.2.1 _ k_2407) (B.2.2.2.1 _ k_2408) (B.2.2.2.1 _ k_2409) (B.2.2.2.1 _ k_13) ⟨by decide +kernel, by decide +kernel, by decide +kernel⟩ rfl d_Model_field_109 rfl (Nat.le_of_ble_eq_true rfl) ⟨by decide, by decide⟩ ⟨by decide, by decide⟩ ⟨by decide, by decide⟩ (mv_noH hno _) (fun v109 σ109 h109 => ?_)
                have e109 := h109.symm
                subst e109
                exact mv_lret (pc := 112) B hr d_Model_field_112 (Nat.le_refl _) (Nat.le_refl _) ⟨_, rfl, hLs⟩
              · skip
                exact absurd (e94.trans h14) h94
            · skip
              refine mv_lconst (pc := 83) (v := 0) B d_Model_field_83 (by decide) ?_
              exact mv_lret (pc := 84) B hr d_Model_field_84 (Nat.le_refl _) (Nat.le_refl _) ⟨_, rfl, hL2⟩
          · skip
            exact absurd h14 h58
        · skip
          exact absurd h14 h38
      · skip
        refine mv_lconst (pc := 32) (v := 0) B d_Model_field_32 (by decide) ?_
        exact mv_lret (pc := 33) B hr d_Model_field_33 (Nat.le_refl _) (Nat.le_refl _) ⟨_, rfl, hL2⟩
    · skip
      refine mv_bipush (pc := 17) (v := 48) B d_Model_field_17 (by decide) ?_
      refine mv_goto (pc := 19) (tgt := 29) B d_Model_field_19 rfl ?_
      refine mv_icmp_lt (pc := 29) (tgt := 34) B d_Model_field_29 rfl (fun h29 => ?_) (fun h29 => ?_)
      · skip
        rw [Int32.lt_iff_toInt_lt] at h29
        refine mv_aload_n (pc := 34) B d_Model_field_34 rfl 0 rfl ?_
        refine mv_getI (pc := 35) (ci := 11) (C := R_Model) (T := F_Model) (N := 16) B 11 rfl rfl (by decide) i_Model (B.2.2.2.1 _ k_2056) rfl d_Model_field_35 ?_
        refine mv_if_eq (pc := 38) (tgt := 51) B d_Model_field_38 rfl (fun h38 => ?_) (fun h38 => ?_)
        · skip
          exact absurd h38 h14
        · skip
          refine mv_iload_n (pc := 41) B d_Model_field_41 rfl 1 rfl ?_
          refine mv_iload_n (pc := 42) B d_Model_field_42 rfl 2 rfl ?_
          refine mv_lload_n (pc := 43) B d_Model_field_43 rfl 3 rfl ?_
          refine mv_l2i (pc := 44) B d_Model_field_44 ?_
          refine mv_callSl (pc := 45) (n := 3) B (mK_ok sk sv) hNs (c_Model_shippedField l hi _ _ _ _) rfl (ma_goodc kc_Model_shippedField) (B.2.2.2.1 _ k_2386) (B.2.2.2.1 _ k_2387) (B.2.2.2.1 _ k_12) ⟨by decide +kernel, by decide +kernel, by decide +kernel⟩ rfl d_Model_field_45 rfl (Nat.le_of_ble_eq_true rfl) ⟨by decide, by decide⟩ ⟨by decide, by decide⟩ ⟨by decide, by decide⟩ (mv_noH hno _) (fun v45 σ45 h45 => ?_)
          have e45 := h45.symm
          subst e45
          refine mv_goto (pc := 48) (tgt := 52) B d_Model_field_48 rfl ?_
          refine mv_lstore (pc := 52) B d_Model_field_52 (by decide) rfl ?_
          refine mv_aload_n (pc := 54) B d_Model_field_54 rfl 1 rfl ?_
          refine mv_getI (pc := 55) (ci := 11) (C := R_Model) (T := F_Model) (N := 16) B 11 rfl rfl (by decide) i_Model (B.2.2.2.1 _ k_2056) rfl d_Model_field_55 ?_
          refine mv_if_eq (pc := 58) (tgt := 71) B d_Model_field_58 rfl (fun h58 => ?_) (fun h58 => ?_)
          · skip
            exact absurd h58 h14
          · skip
            refine mv_lload (pc := 61) B d_Model_field_61 0 rfl ?_
            refine mv_lconst (pc := 63) (v := 0) B d_Model_field_63 (by decide) ?_
            refine mv_lcmp (pc := 64) B d_Model_field_64 ?_
            refine mv_if_ge (pc := 65) (tgt := 85) B d_Model_field_65 rfl (fun h65 => ?_) (fun h65 => ?_)
            · skip
              refine mv_aload_n (pc := 85) B d_Model_field_85 rfl 1 rfl ?_
              refine mv_iconst (pc := 86) (v := 0) B d_Model_field_86 (by decide) ?_
              refine mv_putI (pc := 87) (ci := 11) (C := R_Model) (T := F_Model) (N := 16) B 2 rfl rfl (by decide) i_Model t_Model_ok n_Model (B.2.2.2.1 _ k_2047) rfl rfl rfl rfl d_Model_field_87 ?_
              refine mv_gen (fun S90 eS90 => ?_)
              have hM9 := hM
              have hMs : MI 108 74 S90 := by rw [eS90]; exact hM.qf (QF.si Fx.rf (by decide)) hN
              have gs : CO 108 k S90 := by rw [eS90]; exact g5.fr (mv_si_o _ _ (by omega)) (mv_si_o _ _ (by omega)) (fun j => rfl)
              have hLs : L2 σ S90 := by rw [eS90]; exact hL2.si
              have e94 : mv_i S90 70 11 = mv_i S5 70 11 := by rw [eS90, mv_si_o _ _ (by omega)]
              have hM := hMs
              clear eS90
              refine mv_aload_n (pc := 90) B d_Model_field_90 rfl 1 rfl ?_
              refine mv_getI (pc := 91) (ci := 11) (C := R_Model) (T := F_Model) (N := 16) B 11 rfl rfl (by decide) i_Model (B.2.2.2.1 _ k_2056) rfl d_Model_field_91 ?_
              refine mv_if_eq (pc := 94) (tgt := 102) B d_Model_field_94 rfl (fun h94 => ?_) (fun h94 => ?_)
              · skip
                exact absurd (e94.symm.trans h94) h14
              · skip
                refine mv_lload (pc := 97) B d_Model_field_97 0 rfl ?_
                refine mv_goto (pc := 99) (tgt := 112) B d_Model_field_99 rfl ?_
                exact mv_lret (pc := 112) B hr d_Model_field_112 (Nat.le_refl _) (Nat.le_refl _) ⟨_, rfl, hLs⟩
            · skip
              refine mv_goto (pc := 68) (tgt := 83) B d_Model_field_68 rfl ?_
              refine mv_lconst (pc := 83) (v := 0) B d_Model_field_83 (by decide) ?_
              exact mv_lret (pc := 84) B hr d_Model_field_84 (Nat.le_refl _) (Nat.le_refl _) ⟨_, rfl, hL2⟩
      · skip
        refine mv_lconst (pc := 32) (v := 0) B d_Model_field_32 (by decide) ?_
        exact mv_lret (pc := 33) B hr d_Model_field_33 (Nat.le_refl _) (Nat.le_refl _) ⟨_, rfl, hL2⟩
set_option maxHeartbeats 4000000 in
set_option maxRecDepth 100000 in
theorem c_kk_Model_thing_x (l : Launch) {dA : FieldType → ClassId} {D : va_G} {al : Nat → Nat} {ext : mv_Sh} {sk sv : Nat → Nat} (hi : mv_inj (mg dA D al ext)) (σ : mv_H) (hM : MI 74 108 σ) (t9 i9 : Int32) : mv_C l y_Model_thing (Cond.code y_Model_thing b_Model_thing 3 (Option.some Jvm.ClassFile.FieldType.int) :: ma) ({ frames := 2, cells := 0, slots := 0, locals := 44 }) (mg dA D al ext) (mK sk sv) [.ref (al 70), .int t9, .int i9] σ (mv_Ri (fun v σ1 => L2 σ σ1)) := by
  refine mv_C.ofV (cc := b_Model_thing) (nL := 3) (ret := (Option.some Jvm.ClassFile.FieldType.int)) (by decide +kernel) rfl hi (Nat.le_of_ble_eq_true rfl) ?_
  intro p e s m below meth c B hNs hr hnm hno
  have hN : 74 = 74 ∨ 74 = 108 := by decide
  refine mv_aload_n (pc := 0) B d_Model_thing_0 rfl 0 rfl ?_
  refine mv_iload_n (pc := 1) B d_Model_thing_1 rfl 2 rfl ?_
  refine mv_if_lt (pc := 2) (tgt := 10) B d_Model_thing_2 rfl (fun h2 => ?_) (fun h2 => ?_)
  · skip
    refine mv_iconst (pc := 10) (v := 1) B d_Model_thing_10 (by decide) ?_
    refine mv_goto (pc := 11) (tgt := 28) B d_Model_thing_11 rfl ?_
    refine mv_putI (pc := 28) (ci := 11) (C := R_Model) (T := F_Model) (N := 16) B 2 rfl rfl (by decide) i_Model t_Model_ok n_Model (B.2.2.2.1 _ k_2047) rfl rfl rfl rfl d_Model_thing_28 ?_
    refine mv_gen (fun S31 eS31 => ?_)
    have hL2 : L2 σ S31 := by rw [eS31]; exact L2.si Fx.rf
    have hF : QF 74 σ S31 := hL2.qf
    have hM := hM.qf hF hN
    first | have x31 : mv_i S31 70 2 = 0 := by rw [eS31, mv_si_s] | have x31 : mv_i S31 70 2 = 1 := by rw [eS31, mv_si_s] | have x31 : mv_i S31 70 2 = 2 := by rw [eS31, mv_si_s]
    try have hTP : TP9 74 S31 t9 0 := (z17.resolve_left h20).2.th eS31 hN
    clear eS31
    refine mv_aload_n (pc := 31) B d_Model_thing_31 rfl 0 rfl ?_
    refine mv_getI (pc := 32) (ci := 11) (C := R_Model) (T := F_Model) (N := 16) B 2 rfl rfl (by decide) i_Model (B.2.2.2.1 _ k_2047) rfl d_Model_thing_32 ?_
    refine mv_if_le (pc := 35) (tgt := 40) B d_Model_thing_35 rfl (fun h35 => ?_) (fun h35 => ?_)
    · skip
      exact absurd h35 (by rw [x31]; decide)
    · skip
      refine mv_iconst (pc := 38) (v := 0) B d_Model_thing_38 (by decide) ?_
      exact mv_iret (pc := 39) B hr rfl d_Model_thing_39 (Nat.le_refl _) (Nat.le_refl _) ⟨_, rfl, hL2⟩
  · skip
    refine mv_iload_n (pc := 5) B d_Model_thing_5 rfl 2 rfl ?_
    refine mv_iconst (pc := 6) (v := 1) B d_Model_thing_6 (by decide) ?_
    refine mv_icmp_le (pc := 7) (tgt := 14) B d_Model_thing_7 rfl (fun h7 => ?_) (fun h7 => ?_)
    · skip
      refine mv_aload_n (pc := 14) B d_Model_thing_14 rfl 0 rfl ?_
      refine mv_iload_n (pc := 15) B d_Model_thing_15 rfl 1 rfl ?_
      refine mv_iconst (pc := 16) (v := 0) B d_Model_thing_16 (by decide) ?_
      refine mv_callVi (pc := 17) (n := 2) (ci := 11) (C := R_Model) B (mK_ok sk sv) hNs rfl rfl (c_Model_there_x l hi _ hM _ _) rfl (ma_goodc kc_Model_there) (B.2.2.2.1 _ k_2415) (B.2.2.2.1 _ k_2417) (B.2.2.2.1 _ ks_124) (B.2.2.2.1 _ k_12) ⟨by decide +kernel, by decide +kernel, by decide +kernel⟩ rfl d_Model_thing_17 rfl (Nat.le_of_ble_eq_true rfl) ⟨by decide, by decide⟩ ⟨by decide, by decide⟩ ⟨by decide, by decide⟩ (mv_noH hno _) (fun v17 σ17 h17 => ?_)
      obtain ⟨e17, z17⟩ := h17
      have e17 := e17.symm
      subst e17
      refine mv_if_ne (pc := 20) (tgt := 27) B d_Model_thing_20 rfl (fun h20 => ?_) (fun h20 => ?_)
      · skip
        refine mv_iconst (pc := 27) (v := 0) B d_Model_thing_27 (by decide) ?_
        refine mv_putI (pc := 28) (ci := 11) (C := R_Model) (T := F_Model) (N := 16) B 2 rfl rfl (by decide) i_Model t_Model_ok n_Model (B.2.2.2.1 _ k_2047) rfl rfl rfl rfl d_Model_thing_28 ?_
        refine mv_gen (fun S31 eS31 => ?_)
        have hL2 : L2 σ S31 := by rw [eS31]; exact L2.si Fx.rf
        have hF : QF 74 σ S31 := hL2.qf
        have hM := hM.qf hF hN
        first | have x31 : mv_i S31 70 2 = 0 := by rw [eS31, mv_si_s] | have x31 : mv_i S31 70 2 = 1 := by rw [eS31, mv_si_s] | have x31 : mv_i S31 70 2 = 2 := by rw [eS31, mv_si_s]
        try have hTP : TP9 74 S31 t9 0 := (z17.resolve_left h20).2.th eS31 hN
        clear eS31
        refine mv_aload_n (pc := 31) B d_Model_thing_31 rfl 0 rfl ?_
        refine mv_getI (pc := 32) (ci := 11) (C := R_Model) (T := F_Model) (N := 16) B 2 rfl rfl (by decide) i_Model (B.2.2.2.1 _ k_2047) rfl d_Model_thing_32 ?_
        refine mv_if_le (pc := 35) (tgt := 40) B d_Model_thing_35 rfl (fun h35 => ?_) (fun h35 => ?_)
        · skip
          refine mv_aload_n (pc := 40) B d_Model_thing_40 rfl 0 rfl ?_
          refine mv_getI (pc := 41) (ci := 11) (C := R_Model) (T := F_Model) (N := 16) B 11 rfl rfl (by decide) i_Model (B.2.2.2.1 _ k_2056) rfl d_Model_thing_41 ?_
          refine mv_if_ne (pc := 44) (tgt := 71) B d_Model_thing_44 rfl (fun h44 => ?_) (fun h44 => ?_)
          · skip
            refine mv_iload_n (pc := 71) B d_Model_thing_71 rfl 2 rfl ?_
            refine mv_if_ne (pc := 72) (tgt := 90) B d_Model_thing_72 rfl (fun h72 => ?_) (fun h72 => ?_)
            · skip
              refine mv_iload_n (pc := 90) B d_Model_thing_90 rfl 1 rfl ?_
              refine mv_if_ne (pc := 91) (tgt := 98) B d_Model_thing_91 rfl (fun h91 => ?_) (fun h91 => ?_)
              · skip
                refine mv_iload_n (pc := 98) B d_Model_thing_98 rfl 1 rfl ?_
                refine mv_iconst (pc := 99) (v := 1) B d_Model_thing_99 (by decide) ?_
                refine mv_icmp_ne (pc := 100) (tgt := 108) B d_Model_thing_100 rfl (fun h100 => ?_) (fun h100 => ?_)
                · skip
                  refine mv_ldc (pc := 108) (v := 32768) B (B.2.2.2.1 _ k_1815) d_Model_thing_108 ?_
                  exact mv_iret (pc := 110) B hr rfl d_Model_thing_110 (Nat.le_refl _) (Nat.le_refl _) ⟨_, rfl, hL2⟩
                · skip
                  refine mv_bipush (pc := 103) (v := 32) B d_Model_thing_103 (by decide) ?_
                  refine mv_goto (pc := 105) (tgt := 110) B d_Model_thing_105 rfl ?_
                  exact mv_iret (pc := 110) B hr rfl d_Model_thing_110 (Nat.le_refl _) (Nat.le_refl _) ⟨_, rfl, hL2⟩
              · skip
                refine mv_iconst (pc := 94) (v := 0) B d_Model_thing_94 (by decide) ?_
                refine mv_goto (pc := 95) (tgt := 110) B d_Model_thing_95 rfl ?_
                exact mv_iret (pc := 110) B hr rfl d_Model_thing_110 (Nat.le_refl _) (Nat.le_refl _) ⟨_, rfl, hL2⟩
            · skip
              refine mv_iload_n (pc := 75) B d_Model_thing_75 rfl 1 rfl ?_
              refine mv_iconst (pc := 76) (v := 2) B d_Model_thing_76 (by decide) ?_
              refine mv_icmp_ne (pc := 77) (tgt := 85) B d_Model_thing_77 rfl (fun h77 => ?_) (fun h77 => ?_)
              · skip
                refine mv_bipush (pc := 85) (v := 32) B d_Model_thing_85 (by decide) ?_
                refine mv_goto (pc := 87) (tgt := 110) B d_Model_thing_87 rfl ?_
                exact mv_iret (pc := 110) B hr rfl d_Model_thing_110 (Nat.le_refl _) (Nat.le_refl _) ⟨_, rfl, hL2⟩
              · skip
                refine mv_bipush (pc := 80) (v := 8) B d_Model_thing_80 (by decide) ?_
                refine mv_goto (pc := 82) (tgt := 110) B d_Model_thing_82 rfl ?_
                exact mv_iret (pc := 110) B hr rfl d_Model_thing_110 (Nat.le_refl _) (Nat.le_refl _) ⟨_, rfl, hL2⟩
          · skip
            have hin := hTP.in hM h44
            refine mv_iload_n (pc := 47) B d_Model_thing_47 rfl 2 rfl ?_
            refine mv_if_ne (pc := 48) (tgt := 62) B d_Model_thing_48 rfl (fun h48 => ?_) (fun h48 => ?_)
            · skip
              refine mv_aload_n (pc := 62) B d_Model_thing_62 rfl 0 rfl ?_
              refine mv_getR (pc := 63) (ci := 11) (C := R_Model) (T := F_Model) (N := 16) B 9 rfl rfl (by decide) i_Model (B.2.2.2.1 _ k_2054) rfl hM.2.1 d_Model_thing_63 ?_
              refine mv_iload_n (pc := 66) B d_Model_thing_66 rfl 1 rfl ?_
              refine mv_callVi (pc := 67) (n := 1) (ci := 12) (C := R_Book) B (mK_ok sk sv) hNs rfl rfl (c_Book_cellsOf_x l hi _ _ hM.1 hin.1.1 hin.1.2) rfl (ma_goodc kc_Book_cellsOf) (B.2.2.2.1 _ k_2419) (B.2.2.2.1 _ k_2420) (B.2.2.2.1 _ k_2421) (B.2.2.2.1 _ k_13) ⟨by decide +kernel, by decide +kernel, by decide +kernel⟩ rfl d_Model_thing_67 rfl (Nat.le_of_ble_eq_true rfl) ⟨by decide, by decide⟩ ⟨by decide, by decide⟩ ⟨by decide, by decide⟩ (mv_noH hno _) (fun v67 σ67 h67 => ?_)
              obtain ⟨e67, z67⟩ := h67
              have e67 := e67.symm
              subst e67
              exact mv_iret (pc := 70) B hr rfl d_Model_thing_70 (Nat.le_refl _) (Nat.le_refl _) ⟨_, rfl, hL2⟩
            · skip
              refine mv_aload_n (pc := 51) B d_Model_thing_51 rfl 0 rfl ?_
              refine mv_getR (pc := 52) (ci := 11) (C := R_Model) (T := F_Model) (N := 16) B 9 rfl rfl (by decide) i_Model (B.2.2.2.1 _ k_2054) rfl hM.2.1 d_Model_thing_52 ?_
              refine mv_iload_n (pc := 55) B d_Model_thing_55 rfl 1 rfl ?_
              refine mv_callVi (pc := 56) (n := 1) (ci := 12) (C := R_Book) B (mK_ok sk sv) hNs rfl rfl (c_Book_widthOf_x l hi _ _ hM.1 hin.1.1 hin.1.2) rfl (ma_goodc kc_Book_widthOf) (B.2.2.2.1 _ k_2582) (B.2.2.2.1 _ k_2583) (B.2.2.2.1 _ k_2584) (B.2.2.2.1 _ k_13) ⟨by decide +kernel, by decide +kernel, by decide +kernel⟩ rfl d_Model_thing_56 rfl (Nat.le_of_ble_eq_true rfl) ⟨by decide, by decide⟩ ⟨by decide, by decide⟩ ⟨by decide, by decide⟩ (mv_noH hno _) (fun v56 σ56 h56 => ?_)
              have e56 := h56.symm
              subst e56
              refine mv_goto (pc := 59) (tgt := 70) B d_Model_thing_59 rfl ?_
              exact mv_iret (pc := 70) B hr rfl d_Model_thing_70 (Nat.le_refl _) (Nat.le_refl _) ⟨_, rfl, hL2⟩
        · skip
          exact absurd (by rw [x31]; decide) h35
      · skip
        refine mv_iconst (pc := 23) (v := 2) B d_Model_thing_23 (by decide) ?_
        refine mv_goto (pc := 24) (tgt := 28) B d_Model_thing_24 rfl ?_
        refine mv_putI (pc := 28) (ci := 11) (C := R_Model) (T := F_Model) (N := 16) B 2 rfl rfl (by decide) i_Model t_Model_ok n_Model (B.2.2.2.1 _ k_2047) rfl rfl rfl rfl d_Model_thing_28 ?_
        refine mv_gen (fun S31 eS31 => ?_)
        have hL2 : L2 σ S31 := by rw [eS31]; exact L2.si Fx.rf
        have hF : QF 74 σ S31 := hL2.qf
        have hM := hM.qf hF hN
        first | have x31 : mv_i S31 70 2 = 0 := by rw [eS31, mv_si_s] | have x31 : mv_i S31 70 2 = 1 := by rw [eS31, mv_si_s] | have x31 : mv_i S31 70 2 = 2 := by rw [eS31, mv_si_s]
        try have hTP : TP9 74 S31 t9 0 := (z17.resolve_left h20).2.th eS31 hN
        clear eS31
        refine mv_aload_n (pc := 31) B d_Model_thing_31 rfl 0 rfl ?_
        refine mv_getI (pc := 32) (ci := 11) (C := R_Model) (T := F_Model) (N := 16) B 2 rfl rfl (by decide) i_Model (B.2.2.2.1 _ k_2047) rfl d_Model_thing_32 ?_
        refine mv_if_le (pc := 35) (tgt := 40) B d_Model_thing_35 rfl (fun h35 => ?_) (fun h35 => ?_)
        · skip
          exact absurd h35 (by rw [x31]; decide)
        · skip
          refine mv_iconst (pc := 38) (v := 0) B d_Model_thing_38 (by decide) ?_
          exact mv_iret (pc := 39) B hr rfl d_Model_thing_39 (Nat.le_refl _) (Nat.le_refl _) ⟨_, rfl, hL2⟩
    · skip
      refine mv_iconst (pc := 10) (v := 1) B d_Model_thing_10 (by decide) ?_
      refine mv_goto (pc := 11) (tgt := 28) B d_Model_thing_11 rfl ?_
      refine mv_putI (pc := 28) (ci := 11) (C := R_Model) (T := F_Model) (N := 16) B 2 rfl rfl (by decide) i_Model t_Model_ok n_Model (B.2.2.2.1 _ k_2047) rfl rfl rfl rfl d_Model_thing_28 ?_
      refine mv_gen (fun S31 eS31 => ?_)
      have hL2 : L2 σ S31 := by rw [eS31]; exact L2.si Fx.rf
      have hF : QF 74 σ S31 := hL2.qf
      have hM := hM.qf hF hN
      first | have x31 : mv_i S31 70 2 = 0 := by rw [eS31, mv_si_s] | have x31 : mv_i S31 70 2 = 1 := by rw [eS31, mv_si_s] | have x31 : mv_i S31 70 2 = 2 := by rw [eS31, mv_si_s]
      try have hTP : TP9 74 S31 t9 0 := (z17.resolve_left h20).2.th eS31 hN
      clear eS31
      refine mv_aload_n (pc := 31) B d_Model_thing_31 rfl 0 rfl ?_
      refine mv_getI (pc := 32) (ci := 11) (C := R_Model) (T := F_Model) (N := 16) B 2 rfl rfl (by decide) i_Model (B.2.2.2.1 _ k_2047) rfl d_Model_thing_32 ?_
      refine mv_if_le (pc := 35) (tgt := 40) B d_Model_thing_35 rfl (fun h35 => ?_) (fun h35 => ?_)
      · skip
        exact absurd h35 (by rw [x31]; decide)
      · skip
        refine mv_iconst (pc := 38) (v := 0) B d_Model_thing_38 (by decide) ?_
        exact mv_iret (pc := 39) B hr rfl d_Model_thing_39 (Nat.le_refl _) (Nat.le_refl _) ⟨_, rfl, hL2⟩
set_option maxHeartbeats 4000000 in
set_option maxRecDepth 100000 in
theorem c_kk_Model_thing_y (l : Launch) {dA : FieldType → ClassId} {D : va_G} {al : Nat → Nat} {ext : mv_Sh} {sk sv : Nat → Nat} (hi : mv_inj (mg dA D al ext)) (σ : mv_H) (hM : MI 108 74 σ) (t9 i9 : Int32) : mv_C l y_Model_thing (Cond.code y_Model_thing b_Model_thing 3 (Option.some Jvm.ClassFile.FieldType.int) :: ma) ({ frames := 2, cells := 0, slots := 0, locals := 44 }) (mg dA D al ext) (mK sk sv) [.ref (al 70), .int t9, .int i9] σ (mv_Ri (fun v σ1 => L2 σ σ1)) := by
  refine mv_C.ofV (cc := b_Model_thing) (nL := 3) (ret := (Option.some Jvm.ClassFile.FieldType.int)) (by decide +kernel) rfl hi (Nat.le_of_ble_eq_true rfl) ?_
  intro p e s m below meth c B hNs hr hnm hno
  have hN : 108 = 74 ∨ 108 = 108 := by decide
  refine mv_aload_n (pc := 0) B d_Model_thing_0 rfl 0 rfl ?_
  refine mv_iload_n (pc := 1) B d_Model_thing_1 rfl 2 rfl ?_
  refine mv_if_lt (pc := 2) (tgt := 10) B d_Model_thing_2 rfl (fun h2 => ?_) (fun h2 => ?_)
  · skip
    refine mv_iconst (pc := 10) (v := 1) B d_Model_thing_10 (by decide) ?_
    refine mv_goto (pc := 11) (tgt := 28) B d_Model_thing_11 rfl ?_
    refine mv_putI (pc := 28) (ci := 11) (C := R_Model) (T := F_Model) (N := 16) B 2 rfl rfl (by decide) i_Model t_Model_ok n_Model (B.2.2.2.1 _ k_2047) rfl rfl rfl rfl d_Model_thing_28 ?_
    refine mv_gen (fun S31 eS31 => ?_)
    have hL2 : L2 σ S31 := by rw [eS31]; exact L2.si Fx.rf
    have hF : QF 108 σ S31 := hL2.qf
    have hM := hM.qf hF hN
    first | have x31 : mv_i S31 70 2 = 0 := by rw [eS31, mv_si_s] | have x31 : mv_i S31 70 2 = 1 := by rw [eS31, mv_si_s] | have x31 : mv_i S31 70 2 = 2 := by rw [eS31, mv_si_s]
    try have hTP : TP9 108 S31 t9 0 := (z17.resolve_left h20).2.th eS31 hN
    clear eS31
    refine mv_aload_n (pc := 31) B d_Model_thing_31 rfl 0 rfl ?_
    refine mv_getI (pc := 32) (ci := 11) (C := R_Model) (T := F_Model) (N := 16) B 2 rfl rfl (by decide) i_Model (B.2.2.2.1 _ k_2047) rfl d_Model_thing_32 ?_
    refine mv_if_le (pc := 35) (tgt := 40) B d_Model_thing_35 rfl (fun h35 => ?_) (fun h35 => ?_)
    · skip
      exact absurd h35 (by rw [x31]; decide)
    · skip
      refine mv_iconst (pc := 38) (v := 0) B d_Model_thing_38 (by decide) ?_
      exact mv_iret (pc := 39) B hr rfl d_Model_thing_39 (Nat.le_refl _) (Nat.le_refl _) ⟨_, rfl, hL2⟩
  · skip
    refine mv_iload_n (pc := 5) B d_Model_thing_5 rfl 2 rfl ?_
    refine mv_iconst (pc := 6) (v := 1) B d_Model_thing_6 (by decide) ?_
    refine mv_icmp_le (pc := 7) (tgt := 14) B d_Model_thing_7 rfl (fun h7 => ?_) (fun h7 => ?_)
    · skip
      refine mv_aload_n (pc := 14) B d_Model_thing_14 rfl 0 rfl ?_
      refine mv_iload_n (pc := 15) B d_Model_thing_15 rfl 1 rfl ?_
      refine mv_iconst (pc := 16) (v := 0) B d_Model_thing_16 (by decide) ?_
      refine mv_callVi (pc := 17) (n := 2) (ci := 11) (C := R_Model) B (mK_ok sk sv) hNs rfl rfl (c_Model_there_y l hi _ hM _ _) rfl (ma_goodc kc_Model_there) (B.2.2.2.1 _ k_2415) (B.2.2.2.1 _ k_2417) (B.2.2.2.1 _ ks_124) (B.2.2.2.1 _ k_12) ⟨by decide +kernel, by decide +kernel, by decide +kernel⟩ rfl d_Model_thing_17 rfl (Nat.le_of_ble_eq_true rfl) ⟨by decide, by decide⟩ ⟨by decide, by decide⟩ ⟨by decide, by decide⟩ (mv_noH hno _) (fun v17 σ17 h17 => ?_)
      obtain ⟨e17, z17⟩ := h17
      have e17 := e17.symm
      subst e17
      refine mv_if_ne (pc := 20) (tgt := 27) B d_Model_thing_20 rfl (fun h20 => ?_) (fun h20 => ?_)
      · skip
        refine mv_iconst (pc := 27) (v := 0) B d_Model_thing_27 (by decide) ?_
        refine mv_putI (pc := 28) (ci := 11) (C := R_Model) (T := F_Model) (N := 16) B 2 rfl rfl (by decide) i_Model t_Model_ok n_Model (B.2.2.2.1 _ k_2047) rfl rfl rfl rfl d_Model_thing_28 ?_
        refine mv_gen (fun S31 eS31 => ?_)
        have hL2 : L2 σ S31 := by rw [eS31]; exact L2.si Fx.rf
        have hF : QF 108 σ S31 := hL2.qf
        have hM := hM.qf hF hN
        first | have x31 : mv_i S31 70 2 = 0 := by rw [eS31, mv_si_s] | have x31 : mv_i S31 70 2 = 1 := by rw [eS31, mv_si_s] | have x31 : mv_i S31 70 2 = 2 := by rw [eS31, mv_si_s]
        try have hTP : TP9 108 S31 t9 0 := (z17.resolve_left h20).2.th eS31 hN
        clear eS31
        refine mv_aload_n (pc := 31) B d_Model_thing_31 rfl 0 rfl ?_
        refine mv_getI (pc := 32) (ci := 11) (C := R_Model) (T := F_Model) (N := 16) B 2 rfl rfl (by decide) i_Model (B.2.2.2.1 _ k_2047) rfl d_Model_thing_32 ?_
        refine mv_if_le (pc := 35) (tgt := 40) B d_Model_thing_35 rfl (fun h35 => ?_) (fun h35 => ?_)
        · skip
          refine mv_aload_n (pc := 40) B d_Model_thing_40 rfl 0 rfl ?_
          refine mv_getI (pc := 41) (ci := 11) (C := R_Model) (T := F_Model) (N := 16) B 11 rfl rfl (by decide) i_Model (B.2.2.2.1 _ k_2056) rfl d_Model_thing_41 ?_
          refine mv_if_ne (pc := 44) (tgt := 71) B d_Model_thing_44 rfl (fun h44 => ?_) (fun h44 => ?_)
          · skip
            refine mv_iload_n (pc := 71) B d_Model_thing_71 rfl 2 rfl ?_
            refine mv_if_ne (pc := 72) (tgt := 90) B d_Model_thing_72 rfl (fun h72 => ?_) (fun h72 => ?_)
            · skip
              refine mv_iload_n (pc := 90) B d_Model_thing_90 rfl 1 rfl ?_
              refine mv_if_ne (pc := 91) (tgt := 98) B d_Model_thing_91 rfl (fun h91 => ?_) (fun h91 => ?_)
              · skip
                refine mv_iload_n (pc := 98) B d_Model_thing_98 rfl 1 rfl ?_
                refine mv_iconst (pc := 99) (v := 1) B d_Model_thing_99 (by decide) ?_
                refine mv_icmp_ne (pc := 100) (tgt := 108) B d_Model_thing_100 rfl (fun h100 => ?_) (fun h100 => ?_)
                · skip
                  refine mv_ldc (pc := 108) (v := 32768) B (B.2.2.2.1 _ k_1815) d_Model_thing_108 ?_
                  exact mv_iret (pc := 110) B hr rfl d_Model_thing_110 (Nat.le_refl _) (Nat.le_refl _) ⟨_, rfl, hL2⟩
                · skip
                  refine mv_bipush (pc := 103) (v := 32) B d_Model_thing_103 (by decide) ?_
                  refine mv_goto (pc := 105) (tgt := 110) B d_Model_thing_105 rfl ?_
                  exact mv_iret (pc := 110) B hr rfl d_Model_thing_110 (Nat.le_refl _) (Nat.le_refl _) ⟨_, rfl, hL2⟩
              · skip
                refine mv_iconst (pc := 94) (v := 0) B d_Model_thing_94 (by decide) ?_
                refine mv_goto (pc := 95) (tgt := 110) B d_Model_thing_95 rfl ?_
                exact mv_iret (pc := 110) B hr rfl d_Model_thing_110 (Nat.le_refl _) (Nat.le_refl _) ⟨_, rfl, hL2⟩
            · skip
              refine mv_iload_n (pc := 75) B d_Model_thing_75 rfl 1 rfl ?_
              refine mv_iconst (pc := 76) (v := 2) B d_Model_thing_76 (by decide) ?_
              refine mv_icmp_ne (pc := 77) (tgt := 85) B d_Model_thing_77 rfl (fun h77 => ?_) (fun h77 => ?_)
              · skip
                refine mv_bipush (pc := 85) (v := 32) B d_Model_thing_85 (by decide) ?_
                refine mv_goto (pc := 87) (tgt := 110) B d_Model_thing_87 rfl ?_
                exact mv_iret (pc := 110) B hr rfl d_Model_thing_110 (Nat.le_refl _) (Nat.le_refl _) ⟨_, rfl, hL2⟩
              · skip
                refine mv_bipush (pc := 80) (v := 8) B d_Model_thing_80 (by decide) ?_
                refine mv_goto (pc := 82) (tgt := 110) B d_Model_thing_82 rfl ?_
                exact mv_iret (pc := 110) B hr rfl d_Model_thing_110 (Nat.le_refl _) (Nat.le_refl _) ⟨_, rfl, hL2⟩
          · skip
            have hin := hTP.in hM h44
            refine mv_iload_n (pc := 47) B d_Model_thing_47 rfl 2 rfl ?_
            refine mv_if_ne (pc := 48) (tgt := 62) B d_Model_thing_48 rfl (fun h48 => ?_) (fun h48 => ?_)
            · skip
              refine mv_aload_n (pc := 62) B d_Model_thing_62 rfl 0 rfl ?_
              refine mv_getR (pc := 63) (ci := 11) (C := R_Model) (T := F_Model) (N := 16) B 9 rfl rfl (by decide) i_Model (B.2.2.2.1 _ k_2054) rfl hM.2.1 d_Model_thing_63 ?_
              refine mv_iload_n (pc := 66) B d_Model_thing_66 rfl 1 rfl ?_
              refine mv_callVi (pc := 67) (n := 1) (ci := 12) (C := R_Book) B (mK_ok sk sv) hNs rfl rfl (c_Book_cellsOf_y l hi _ _ hM.1 hin.1.1 hin.1.2) rfl (ma_goodc kc_Book_cellsOf) (B.2.2.2.1 _ k_2419) (B.2.2.2.1 _ k_2420) (B.2.2.2.1 _ k_2421) (B.2.2.2.1 _ k_13) ⟨by decide +kernel, by decide +kernel, by decide +kernel⟩ rfl d_Model_thing_67 rfl (Nat.le_of_ble_eq_true rfl) ⟨by decide, by decide⟩ ⟨by decide, by decide⟩ ⟨by decide, by decide⟩ (mv_noH hno _) (fun v67 σ67 h67 => ?_)
              obtain ⟨e67, z67⟩ := h67
              have e67 := e67.symm
              subst e67
              exact mv_iret (pc := 70) B hr rfl d_Model_thing_70 (Nat.le_refl _) (Nat.le_refl _) ⟨_, rfl, hL2⟩
            · skip
              refine mv_aload_n (pc := 51) B d_Model_thing_51 rfl 0 rfl ?_
              refine mv_getR (pc := 52) (ci := 11) (C := R_Model) (T := F_Model) (N := 16) B 9 rfl rfl (by decide) i_Model (B.2.2.2.1 _ k_2054) rfl hM.2.1 d_Model_thing_52 ?_
              refine mv_iload_n (pc := 55) B d_Model_thing_55 rfl 1 rfl ?_
              refine mv_callVi (pc := 56) (n := 1) (ci := 12) (C := R_Book) B (mK_ok sk sv) hNs rfl rfl (c_Book_widthOf_y l hi _ _ hM.1 hin.1.1 hin.1.2) rfl (ma_goodc kc_Book_widthOf) (B.2.2.2.1 _ k_2582) (B.2.2.2.1 _ k_2583) (B.2.2.2.1 _ k_2584) (B.2.2.2.1 _ k_13) ⟨by decide +kernel, by decide +kernel, by decide +kernel⟩ rfl d_Model_thing_56 rfl (Nat.le_of_ble_eq_true rfl) ⟨by decide, by decide⟩ ⟨by decide, by decide⟩ ⟨by decide, by decide⟩ (mv_noH hno _) (fun v56 σ56 h56 => ?_)
              have e56 := h56.symm
              subst e56
              refine mv_goto (pc := 59) (tgt := 70) B d_Model_thing_59 rfl ?_
              exact mv_iret (pc := 70) B hr rfl d_Model_thing_70 (Nat.le_refl _) (Nat.le_refl _) ⟨_, rfl, hL2⟩
        · skip
          exact absurd (by rw [x31]; decide) h35
      · skip
        refine mv_iconst (pc := 23) (v := 2) B d_Model_thing_23 (by decide) ?_
        refine mv_goto (pc := 24) (tgt := 28) B d_Model_thing_24 rfl ?_
        refine mv_putI (pc := 28) (ci := 11) (C := R_Model) (T := F_Model) (N := 16) B 2 rfl rfl (by decide) i_Model t_Model_ok n_Model (B.2.2.2.1 _ k_2047) rfl rfl rfl rfl d_Model_thing_28 ?_
        refine mv_gen (fun S31 eS31 => ?_)
        have hL2 : L2 σ S31 := by rw [eS31]; exact L2.si Fx.rf
        have hF : QF 108 σ S31 := hL2.qf
        have hM := hM.qf hF hN
        first | have x31 : mv_i S31 70 2 = 0 := by rw [eS31, mv_si_s] | have x31 : mv_i S31 70 2 = 1 := by rw [eS31, mv_si_s] | have x31 : mv_i S31 70 2 = 2 := by rw [eS31, mv_si_s]
        try have hTP : TP9 108 S31 t9 0 := (z17.resolve_left h20).2.th eS31 hN
        clear eS31
        refine mv_aload_n (pc := 31) B d_Model_thing_31 rfl 0 rfl ?_
        refine mv_getI (pc := 32) (ci := 11) (C := R_Model) (T := F_Model) (N := 16) B 2 rfl rfl (by decide) i_Model (B.2.2.2.1 _ k_2047) rfl d_Model_thing_32 ?_
        refine mv_if_le (pc := 35) (tgt := 40) B d_Model_thing_35 rfl (fun h35 => ?_) (fun h35 => ?_)
        · skip
          exact absurd h35 (by rw [x31]; decide)
        · skip
          refine mv_iconst (pc := 38) (v := 0) B d_Model_thing_38 (by decide) ?_
          exact mv_iret (pc := 39) B hr rfl d_Model_thing_39 (Nat.le_refl _) (Nat.le_refl _) ⟨_, rfl, hL2⟩
    · skip
      refine mv_iconst (pc := 10) (v := 1) B d_Model_thing_10 (by decide) ?_
      refine mv_goto (pc := 11) (tgt := 28) B d_Model_thing_11 rfl ?_
      refine mv_putI (pc := 28) (ci := 11) (C := R_Model) (T := F_Model) (N := 16) B 2 rfl rfl (by decide) i_Model t_Model_ok n_Model (B.2.2.2.1 _ k_2047) rfl rfl rfl rfl d_Model_thing_28 ?_
      refine mv_gen (fun S31 eS31 => ?_)
      have hL2 : L2 σ S31 := by rw [eS31]; exact L2.si Fx.rf
      have hF : QF 108 σ S31 := hL2.qf
      have hM := hM.qf hF hN
      first | have x31 : mv_i S31 70 2 = 0 := by rw [eS31, mv_si_s] | have x31 : mv_i S31 70 2 = 1 := by rw [eS31, mv_si_s] | have x31 : mv_i S31 70 2 = 2 := by rw [eS31, mv_si_s]
      try have hTP : TP9 108 S31 t9 0 := (z17.resolve_left h20).2.th eS31 hN
      clear eS31
      refine mv_aload_n (pc := 31) B d_Model_thing_31 rfl 0 rfl ?_
      refine mv_getI (pc := 32) (ci := 11) (C := R_Model) (T := F_Model) (N := 16) B 2 rfl rfl (by decide) i_Model (B.2.2.2.1 _ k_2047) rfl d_Model_thing_32 ?_
      refine mv_if_le (pc := 35) (tgt := 40) B d_Model_thing_35 rfl (fun h35 => ?_) (fun h35 => ?_)
      · skip
        exact absurd h35 (by rw [x31]; decide)
      · skip
        refine mv_iconst (pc := 38) (v := 0) B d_Model_thing_38 (by decide) ?_
        exact mv_iret (pc := 39) B hr rfl d_Model_thing_39 (Nat.le_refl _) (Nat.le_refl _) ⟨_, rfl, hL2⟩
set_option maxHeartbeats 4000000 in
set_option maxRecDepth 100000 in
theorem c_kk_Model_free_x (l : Launch) {dA : FieldType → ClassId} {D : va_G} {al : Nat → Nat} {ext : mv_Sh} {sk sv : Nat → Nat} (hi : mv_inj (mg dA D al ext)) (σ : mv_H) (hM : MI 74 108 σ)  : mv_C l y_Model_free (Cond.code y_Model_free b_Model_free 4 (Option.some Jvm.ClassFile.FieldType.long) :: ma) ({ frames := 1, cells := 0, slots := 0, locals := 25 }) (mg dA D al ext) (mK sk sv) [.ref (al 70)] σ (mv_Rl (fun v σ1 => L2 σ σ1)) := by
  refine mv_C.ofV (cc := b_Model_free) (nL := 4) (ret := (Option.some Jvm.ClassFile.FieldType.long)) (by decide +kernel) rfl hi (Nat.le_of_ble_eq_true rfl) ?_
  intro p e s m below meth c B hNs hr hnm hno
  have hN : 74 = 74 ∨ 74 = 108 := by decide
  refine mv_aload_n (pc := 0) B d_Model_free_0 rfl 0 rfl ?_
  refine mv_iconst (pc := 1) (v := 0) B d_Model_free_1 (by decide) ?_
  refine mv_putI (pc := 2) (ci := 11) (C := R_Model) (T := F_Model) (N := 16) B 2 rfl rfl (by decide) i_Model t_Model_ok n_Model (B.2.2.2.1 _ k_2047) rfl rfl rfl rfl d_Model_free_2 ?_
  refine mv_gen (fun S5 eS5 => ?_)
  have hL2 : L2 σ S5 := by rw [eS5]; exact L2.si Fx.rf
  have hF : QF 74 σ S5 := hL2.qf
  have hM := hM.qf hF hN
  have e11 := hF.sh hN
  have hM0 := hM
  obtain ⟨-, -, -, th, n, k, g1, g2, g3, g4, g5, g6, g7, g8⟩ := hM0
  clear g6 g7 g8
  clear eS5
  refine mv_aload_n (pc := 5) B d_Model_free_5 rfl 0 rfl ?_
  refine mv_getI (pc := 6) (ci := 11) (C := R_Model) (T := F_Model) (N := 16) B 11 rfl rfl (by decide) i_Model (B.2.2.2.1 _ k_2056) rfl d_Model_free_6 ?_
  refine mv_if_ne (pc := 9) (tgt := 20) B d_Model_free_9 rfl (fun h9 => ?_) (fun h9 => ?_)
  · skip
    have lp : ∀ (nn : Nat) (i9 : Int32) (u9 : Int64) (q0 : 0 ≤ i9.toInt), (100 - i9.toInt).toNat < nn → mv_V p l e ({ frames := 1, cells := 0, slots := 0, locals := 25 }) s m ([.ref (al 70)] : List Value).toArray below meth c (mg dA D al ext) 4 0 0 (mv_Q (mg dA D al ext) below s 0 0 (mv_Rl (fun v σ1 => L2 σ σ1))) S5 24 [(3, .int i9), (1, .long u9), (0, .ref (al 70))] [] := by
      intro nn
      induction nn with
      | zero => intro i9 u9 q0 hm; exact absurd hm (Nat.not_lt_zero _)
      | succ nn ih =>
        intro i9 u9 q0 hm
        refine mv_iload_n (pc := 24) B d_Model_free_24 rfl 0 rfl ?_
        refine mv_bipush (pc := 25) (v := 48) B d_Model_free_25 (by decide) ?_
        refine mv_icmp_ge (pc := 27) (tgt := 45) B d_Model_free_27 rfl (fun h27 => ?_) (fun h27 => ?_)
        · skip
          refine mv_ldc2 (pc := 45) (v := 4294967296) B (B.2.2.2.1 _ k_2597) d_Model_free_45 ?_
          refine mv_lload_n (pc := 48) B d_Model_free_48 rfl 1 rfl ?_
          refine mv_lsub (pc := 49) B d_Model_free_49 ?_
          exact mv_lret (pc := 50) B hr d_Model_free_50 (Nat.le_refl _) (Nat.le_refl _) ⟨_, rfl, hL2⟩
        · skip
          rw [Int32.le_iff_toInt_le] at h27
          have h27 : ¬ 48 ≤ i9.toInt := h27
          have w2 : (i9 + 1).toInt = i9.toInt + 1 := i32_inc (by omega)
          refine mv_lload_n (pc := 30) B d_Model_free_30 rfl 1 rfl ?_
          refine mv_lconst (pc := 31) (v := 1) B d_Model_free_31 (by decide) ?_
          refine mv_iload_n (pc := 32) B d_Model_free_32 rfl 0 rfl ?_
          refine mv_callSi (pc := 33) (n := 1) B (mK_ok sk sv) hNs (c_Model_shippedOpen l hi _ _) rfl (ma_goodc kc_Model_shippedOpen) (B.2.2.2.1 _ k_2594) (B.2.2.2.1 _ k_2595) (B.2.2.2.1 _ k_12) ⟨by decide +kernel, by decide +kernel, by decide +kernel⟩ rfl d_Model_free_33 rfl (Nat.le_of_ble_eq_true rfl) ⟨by decide, by decide⟩ ⟨by decide, by decide⟩ ⟨by decide, by decide⟩ (mv_noH hno _) (fun v33 σ33 h33 => ?_)
          have e33 := h33.symm
          subst e33
          refine mv_lshl (pc := 36) B d_Model_free_36 ?_
          refine mv_ladd (pc := 37) B d_Model_free_37 ?_
          refine mv_lstore_n (pc := 38) B d_Model_free_38 rfl (by decide) rfl ?_
          refine mv_iinc (pc := 39) (j := 1) (v := 1) B d_Model_free_39 rfl (by decide) (by decide) rfl ?_
          refine mv_goto (pc := 42) (tgt := 24) B d_Model_free_42 rfl ?_
          refine mv_lpick [0, 1, 2] rfl ?_
          exact ih _ _ (by omega) (by omega)
    refine mv_lconst (pc := 20) (v := 0) B d_Model_free_20 (by decide) ?_
    refine mv_lstore_n (pc := 21) B d_Model_free_21 rfl (by decide) rfl ?_
    refine mv_iconst (pc := 22) (v := 0) B d_Model_free_22 (by decide) ?_
    refine mv_istore_n (pc := 23) B d_Model_free_23 rfl (by decide) rfl ?_
    refine mv_lpick [0, 1, 2] rfl ?_
    exact lp _ _ _ (by decide) (Nat.lt_succ_self _)
  · skip
    refine mv_aload_n (pc := 12) B d_Model_free_12 rfl 0 rfl ?_
    refine mv_getR (pc := 13) (ci := 11) (C := R_Model) (T := F_Model) (N := 16) B 9 rfl rfl (by decide) i_Model (B.2.2.2.1 _ k_2054) rfl hM.2.1 d_Model_free_13 ?_
    refine mv_callVl (pc := 16) (n := 0) (ci := 12) (C := R_Book) B (mK_ok sk sv) hNs rfl rfl (c_Book_free_x l hi _ k hM.1 g5) rfl (ma_goodc kc_Book_free) (B.2.2.2.1 _ k_2590) (B.2.2.2.1 _ k_2591) (B.2.2.2.1 _ k_2592) (B.2.2.2.1 _ k_13) ⟨by decide +kernel, by decide +kernel, by decide +kernel⟩ rfl d_Model_free_16 rfl (Nat.le_of_ble_eq_true rfl) ⟨by decide, by decide⟩ ⟨by decide, by decide⟩ ⟨by decide, by decide⟩ (mv_noH hno _) (fun v16 σ16 h16 => ?_)
    have e16 := h16.symm
    subst e16
    exact mv_lret (pc := 19) B hr d_Model_free_19 (Nat.le_refl _) (Nat.le_refl _) ⟨_, rfl, hL2⟩
set_option maxHeartbeats 4000000 in
set_option maxRecDepth 100000 in
theorem c_kk_Model_free_y (l : Launch) {dA : FieldType → ClassId} {D : va_G} {al : Nat → Nat} {ext : mv_Sh} {sk sv : Nat → Nat} (hi : mv_inj (mg dA D al ext)) (σ : mv_H) (hM : MI 108 74 σ)  : mv_C l y_Model_free (Cond.code y_Model_free b_Model_free 4 (Option.some Jvm.ClassFile.FieldType.long) :: ma) ({ frames := 1, cells := 0, slots := 0, locals := 25 }) (mg dA D al ext) (mK sk sv) [.ref (al 70)] σ (mv_Rl (fun v σ1 => L2 σ σ1)) := by
  refine mv_C.ofV (cc := b_Model_free) (nL := 4) (ret := (Option.some Jvm.ClassFile.FieldType.long)) (by decide +kernel) rfl hi (Nat.le_of_ble_eq_true rfl) ?_
  intro p e s m below meth c B hNs hr hnm hno
  have hN : 108 = 74 ∨ 108 = 108 := by decide
  refine mv_aload_n (pc := 0) B d_Model_free_0 rfl 0 rfl ?_
  refine mv_iconst (pc := 1) (v := 0) B d_Model_free_1 (by decide) ?_
  refine mv_putI (pc := 2) (ci := 11) (C := R_Model) (T := F_Model) (N := 16) B 2 rfl rfl (by decide) i_Model t_Model_ok n_Model (B.2.2.2.1 _ k_2047) rfl rfl rfl rfl d_Model_free_2 ?_
  refine mv_gen (fun S5 eS5 => ?_)
  have hL2 : L2 σ S5 := by rw [eS5]; exact L2.si Fx.rf
  have hF : QF 108 σ S5 := hL2.qf
  have hM := hM.qf hF hN
  have e11 := hF.sh hN
  have hM0 := hM
  obtain ⟨-, -, -, th, n, k, g1, g2, g3, g4, g5, g6, g7, g8⟩ := hM0
  clear g6 g7 g8
  clear eS5
  refine mv_aload_n (pc := 5) B d_Model_free_5 rfl 0 rfl ?_
  refine mv_getI (pc := 6) (ci := 11) (C := R_Model) (T := F_Model) (N := 16) B 11 rfl rfl (by decide) i_Model (B.2.2.2.1 _ k_2056) rfl d_Model_free_6 ?_
  refine mv_if_ne (pc := 9) (tgt := 20) B d_Model_free_9 rfl (fun h9 => ?_) (fun h9 => ?_)
  · skip
    have lp : ∀ (nn : Nat) (i9 : Int32) (u9 : Int64) (q0 : 0 ≤ i9.toInt), (100 - i9.toInt).toNat < nn → mv_V p l e ({ frames := 1, cells := 0, slots := 0, locals := 25 }) s m ([.ref (al 70)] : List Value).toArray below meth c (mg dA D al ext) 4 0 0 (mv_Q (mg dA D al ext) below s 0 0 (mv_Rl (fun v σ1 => L2 σ σ1))) S5 24 [(3, .int i9), (1, .long u9), (0, .ref (al 70))] [] := by
      intro nn
      induction nn with
      | zero => intro i9 u9 q0 hm; exact absurd hm (Nat.not_lt_zero _)
      | succ nn ih =>
        intro i9 u9 q0 hm
        refine mv_iload_n (pc := 24) B d_Model_free_24 rfl 0 rfl ?_
        refine mv_bipush (pc := 25) (v := 48) B d_Model_free_25 (by decide) ?_
        refine mv_icmp_ge (pc := 27) (tgt := 45) B d_Model_free_27 rfl (fun h27 => ?_) (fun h27 => ?_)
        · skip
          refine mv_ldc2 (pc := 45) (v := 4294967296) B (B.2.2.2.1 _ k_2597) d_Model_free_45 ?_
          refine mv_lload_n (pc := 48) B d_Model_free_48 rfl 1 rfl ?_
          refine mv_lsub (pc := 49) B d_Model_free_49 ?_
          exact mv_lret (pc := 50) B hr d_Model_free_50 (Nat.le_refl _) (Nat.le_refl _) ⟨_, rfl, hL2⟩
        · skip
          rw [Int32.le_iff_toInt_le] at h27
          have h27 : ¬ 48 ≤ i9.toInt := h27
          have w2 : (i9 + 1).toInt = i9.toInt + 1 := i32_inc (by omega)
          refine mv_lload_n (pc := 30) B d_Model_free_30 rfl 1 rfl ?_
          refine mv_lconst (pc := 31) (v := 1) B d_Model_free_31 (by decide) ?_
          refine mv_iload_n (pc := 32) B d_Model_free_32 rfl 0 rfl ?_
          refine mv_callSi (pc := 33) (n := 1) B (mK_ok sk sv) hNs (c_Model_shippedOpen l hi _ _) rfl (ma_goodc kc_Model_shippedOpen) (B.2.2.2.1 _ k_2594) (B.2.2.2.1 _ k_2595) (B.2.2.2.1 _ k_12) ⟨by decide +kernel, by decide +kernel, by decide +kernel⟩ rfl d_Model_free_33 rfl (Nat.le_of_ble_eq_true rfl) ⟨by decide, by decide⟩ ⟨by decide, by decide⟩ ⟨by decide, by decide⟩ (mv_noH hno _) (fun v33 σ33 h33 => ?_)
          have e33 := h33.symm
          subst e33
          refine mv_lshl (pc := 36) B d_Model_free_36 ?_
          refine mv_ladd (pc := 37) B d_Model_free_37 ?_
          refine mv_lstore_n (pc := 38) B d_Model_free_38 rfl (by decide) rfl ?_
          refine mv_iinc (pc := 39) (j := 1) (v := 1) B d_Model_free_39 rfl (by decide) (by decide) rfl ?_
          refine mv_goto (pc := 42) (tgt := 24) B d_Model_free_42 rfl ?_
          refine mv_lpick [0, 1, 2] rfl ?_
          exact ih _ _ (by omega) (by omega)
    refine mv_lconst (pc := 20) (v := 0) B d_Model_free_20 (by decide) ?_
    refine mv_lstore_n (pc := 21) B d_Model_free_21 rfl (by decide) rfl ?_
    refine mv_iconst (pc := 22) (v := 0) B d_Model_free_22 (by decide) ?_
    refine mv_istore_n (pc := 23) B d_Model_free_23 rfl (by decide) rfl ?_
    refine mv_lpick [0, 1, 2] rfl ?_
    exact lp _ _ _ (by decide) (Nat.lt_succ_self _)
  · skip
    refine mv_aload_n (pc := 12) B d_Model_free_12 rfl 0 rfl ?_
    refine mv_getR (pc := 13) (ci := 11) (C := R_Model) (T := F_Model) (N := 16) B 9 rfl rfl (by decide) i_Model (B.2.2.2.1 _ k_2054) rfl hM.2.1 d_Model_free_13 ?_
    refine mv_callVl (pc := 16) (n := 0) (ci := 12) (C := R_Book) B (mK_ok sk sv) hNs rfl rfl (c_Book_free_y l hi _ k hM.1 g5) rfl (ma_goodc kc_Book_free) (B.2.2.2.1 _ k_2590) (B.2.2.2.1 _ k_2591) (B.2.2.2.1 _ k_2592) (B.2.2.2.1 _ k_13) ⟨by decide +kernel, by decide +kernel, by decide +kernel⟩ rfl d_Model_free_16 rfl (Nat.le_of_ble_eq_true rfl) ⟨by decide, by decide⟩ ⟨by decide, by decide⟩ ⟨by decide, by decide⟩ (mv_noH hno _) (fun v16 σ16 h16 => ?_)
    have e16 := h16.symm
    subst e16
    exact mv_lret (pc := 19) B hr d_Model_free_19 (Nat.le_refl _) (Nat.le_refl _) ⟨_, rfl, hL2⟩
set_option maxHeartbeats 4000000 in
set_option maxRecDepth 100000 in
theorem c_kk_Model_count_x (l : Launch) {dA : FieldType → ClassId} {D : va_G} {al : Nat → Nat} {ext : mv_Sh} {sk sv : Nat → Nat} (hi : mv_inj (mg dA D al ext)) (σ : mv_H) (hM : MI 74 108 σ) (n9 : Int32) : mv_C l y_Model_count (Cond.code y_Model_count b_Model_count 2 (Option.some Jvm.ClassFile.FieldType.int) :: ma) ({ frames := 1, cells := 0, slots := 0, locals := 20 }) (mg dA D al ext) (mK sk sv) [.ref (al 70), .int n9] σ (mv_Ri (fun v σ1 => L2 σ σ1)) := by
  refine mv_C.ofV (cc := b_Model_count) (nL := 2) (ret := (Option.some Jvm.ClassFile.FieldType.int)) (by decide +kernel) rfl hi (Nat.le_of_ble_eq_true rfl) ?_
  intro p e s m below meth c B hNs hr hnm hno
  have hN : 74 = 74 ∨ 74 = 108 := by decide
  refine mv_aload_n (pc := 0) B d_Model_count_0 rfl 0 rfl ?_
  refine mv_iconst (pc := 1) (v := 0) B d_Model_count_1 (by decide) ?_
  refine mv_putI (pc := 2) (ci := 11) (C := R_Model) (T := F_Model) (N := 16) B 2 rfl rfl (by decide) i_Model t_Model_ok n_Model (B.2.2.2.1 _ k_2047) rfl rfl rfl rfl d_Model_count_2 ?_
  refine mv_gen (fun S5 eS5 => ?_)
  have hL2 : L2 σ S5 := by rw [eS5]; exact L2.si Fx.rf
  have hF : QF 74 σ S5 := hL2.qf
  have hM := hM.qf hF hN
  have e11 := hF.sh hN
  clear eS5
  refine mv_iload_n (pc := 5) B d_Model_count_5 rfl 1 rfl ?_
  refine mv_tsw (pc := 6) B d_Model_count_6 (by decide) (by decide) ?_
  refine ⟨fun h6 => ?_, fun h6n0 => ?_⟩
  · skip
    refine mv_aload_n (pc := 52) B d_Model_count_52 rfl 0 rfl ?_
    refine mv_getI (pc := 53) (ci := 11) (C := R_Model) (T := F_Model) (N := 16) B 1 rfl rfl (by decide) i_Model (B.2.2.2.1 _ k_2046) rfl d_Model_count_53 ?_
    exact mv_iret (pc := 56) B hr rfl d_Model_count_56 (Nat.le_refl _) (Nat.le_refl _) ⟨_, rfl, hL2⟩
  refine ⟨fun h6 => ?_, fun h6n1 => ?_⟩
  · skip
    refine mv_aload_n (pc := 57) B d_Model_count_57 rfl 0 rfl ?_
    refine mv_getI (pc := 58) (ci := 11) (C := R_Model) (T := F_Model) (N := 16) B 11 rfl rfl (by decide) i_Model (B.2.2.2.1 _ k_2056) rfl d_Model_count_58 ?_
    refine mv_if_eq (pc := 61) (tgt := 69) B d_Model_count_61 rfl (fun h61 => ?_) (fun h61 => ?_)
    · skip
      refine mv_aload_n (pc := 69) B d_Model_count_69 rfl 0 rfl ?_
      refine mv_getR (pc := 70) (ci := 11) (C := R_Model) (T := F_Model) (N := 16) B 9 rfl rfl (by decide) i_Model (B.2.2.2.1 _ k_2054) rfl hM.2.1 d_Model_count_70 ?_
      refine mv_callVi (pc := 73) (n := 0) (ci := 12) (C := R_Book) B (mK_ok sk sv) hNs rfl rfl (c_Book_lengthOf_x l hi _) rfl (ma_goodc kc_Book_lengthOf) (B.2.2.2.1 _ k_2602) (B.2.2.2.1 _ k_2603) (B.2.2.2.1 _ k_2604) (B.2.2.2.1 _ k_13) ⟨by decide +kernel, by decide +kernel, by decide +kernel⟩ rfl d_Model_count_73 rfl (Nat.le_of_ble_eq_true rfl) ⟨by decide, by decide⟩ ⟨by decide, by decide⟩ ⟨by decide, by decide⟩ (mv_noH hno _) (fun v73 σ73 h73 => ?_)
      have e73 := h73.symm
      subst e73
      exact mv_iret (pc := 76) B hr rfl d_Model_count_76 (Nat.le_refl _) (Nat.le_refl _) ⟨_, rfl, hL2⟩
    · skip
      refine mv_bipush (pc := 64) (v := 32) B d_Model_count_64 (by decide) ?_
      refine mv_goto (pc := 66) (tgt := 76) B d_Model_count_66 rfl ?_
      exact mv_iret (pc := 76) B hr rfl d_Model_count_76 (Nat.le_refl _) (Nat.le_refl _) ⟨_, rfl, hL2⟩
  refine ⟨fun h6 => ?_, fun h6n2 => ?_⟩
  · skip
    refine mv_aload_n (pc := 77) B d_Model_count_77 rfl 0 rfl ?_
    refine mv_getI (pc := 78) (ci := 11) (C := R_Model) (T := F_Model) (N := 16) B 11 rfl rfl (by decide) i_Model (B.2.2.2.1 _ k_2056) rfl d_Model_count_78 ?_
    refine mv_if_eq (pc := 81) (tgt := 88) B d_Model_count_81 rfl (fun h81 => ?_) (fun h81 => ?_)
    · skip
      refine mv_aload_n (pc := 88) B d_Model_count_88 rfl 0 rfl ?_
      refine mv_getR (pc := 89) (ci := 11) (C := R_Model) (T := F_Model) (N := 16) B 9 rfl rfl (by decide) i_Model (B.2.2.2.1 _ k_2054) rfl hM.2.1 d_Model_count_89 ?_
      refine mv_getI (pc := 92) (ci := 12) (C := R_Book) (T := F_Book) (N := 65) B 17 rfl rfl (by decide) i_Book (B.2.2.2.1 _ k_1861) rfl d_Model_count_92 ?_
      exact mv_iret (pc := 95) B hr rfl d_Model_count_95 (Nat.le_refl _) (Nat.le_refl _) ⟨_, rfl, hL2⟩
    · skip
      refine mv_iconst (pc := 84) (v := 3) B d_Model_count_84 (by decide) ?_
      refine mv_goto (pc := 85) (tgt := 95) B d_Model_count_85 rfl ?_
      exact mv_iret (pc := 95) B hr rfl d_Model_count_95 (Nat.le_refl _) (Nat.le_refl _) ⟨_, rfl, hL2⟩
  refine ⟨fun h6 => ?_, fun h6n3 => ?_⟩
  · skip
    refine mv_aload_n (pc := 96) B d_Model_count_96 rfl 0 rfl ?_
    refine mv_getI (pc := 97) (ci := 11) (C := R_Model) (T := F_Model) (N := 16) B 11 rfl rfl (by decide) i_Model (B.2.2.2.1 _ k_2056) rfl d_Model_count_97 ?_
    refine mv_if_eq (pc := 100) (tgt := 108) B d_Model_count_100 rfl (fun h100 => ?_) (fun h100 => ?_)
    · skip
      refine mv_aload_n (pc := 108) B d_Model_count_108 rfl 0 rfl ?_
      refine mv_getR (pc := 109) (ci := 11) (C := R_Model) (T := F_Model) (N := 16) B 9 rfl rfl (by decide) i_Model (B.2.2.2.1 _ k_2054) rfl hM.2.1 d_Model_count_109 ?_
      refine mv_callVi (pc := 112) (n := 0) (ci := 12) (C := R_Book) B (mK_ok sk sv) hNs rfl rfl (c_Book_cellsOfAll_x l hi _) rfl (ma_goodc kc_Book_cellsOfAll) (B.2.2.2.1 _ k_2607) (B.2.2.2.1 _ k_2608) (B.2.2.2.1 _ k_2609) (B.2.2.2.1 _ k_13) ⟨by decide +kernel, by decide +kernel, by decide +kernel⟩ rfl d_Model_count_112 rfl (Nat.le_of_ble_eq_true rfl) ⟨by decide, by decide⟩ ⟨by decide, by decide⟩ ⟨by decide, by decide⟩ (mv_noH hno _) (fun v112 σ112 h112 => ?_)
      have e112 := h112.symm
      subst e112
      exact mv_iret (pc := 115) B hr rfl d_Model_count_115 (Nat.le_refl _) (Nat.le_refl _) ⟨_, rfl, hL2⟩
    · skip
      refine mv_ldc (pc := 103) (v := 32800) B (B.2.2.2.1 _ k_2606) d_Model_count_103 ?_
      refine mv_goto (pc := 105) (tgt := 115) B d_Model_count_105 rfl ?_
      exact mv_iret (pc := 115) B hr rfl d_Model_count_115 (Nat.le_refl _) (Nat.le_refl _) ⟨_, rfl, hL2⟩
  refine ⟨fun h6 => ?_, fun h6n4 => ?_⟩
  · skip
    refine mv_aload_n (pc := 116) B d_Model_count_116 rfl 0 rfl ?_
    refine mv_getI (pc := 117) (ci := 11) (C := R_Model) (T := F_Model) (N := 16) B 11 rfl rfl (by decide) i_Model (B.2.2.2.1 _ k_2056) rfl d_Model_count_117 ?_
    refine mv_if_eq (pc := 120) (tgt := 128) B d_Model_count_120 rfl (fun h120 => ?_) (fun h120 => ?_)
    · skip
      refine mv_aload_n (pc := 128) B d_Model_count_128 rfl 0 rfl ?_
      refine mv_getR (pc := 129) (ci := 11) (C := R_Model) (T := F_Model) (N := 16) B 9 rfl rfl (by decide) i_Model (B.2.2.2.1 _ k_2054) rfl hM.2.1 d_Model_count_129 ?_
      refine mv_getI (pc := 132) (ci := 12) (C := R_Book) (T := F_Book) (N := 65) B 29 rfl rfl (by decide) i_Book (B.2.2.2.1 _ k_1875) rfl d_Model_count_132 ?_
      exact mv_iret (pc := 135) B hr rfl d_Model_count_135 (Nat.le_refl _) (Nat.le_refl _) ⟨_, rfl, hL2⟩
    · skip
      refine mv_bipush (pc := 123) (v := 48) B d_Model_count_123 (by decide) ?_
      refine mv_goto (pc := 125) (tgt := 135) B d_Model_count_125 rfl ?_
      exact mv_iret (pc := 135) B hr rfl d_Model_count_135 (Nat.le_refl _) (Nat.le_refl _) ⟨_, rfl, hL2⟩
  refine ⟨fun h6 => ?_, fun h6n5 => ?_⟩
  · skip
    refine mv_aload_n (pc := 136) B d_Model_count_136 rfl 0 rfl ?_
    refine mv_getI (pc := 137) (ci := 11) (C := R_Model) (T := F_Model) (N := 16) B 12 rfl rfl (by decide) i_Model (B.2.2.2.1 _ k_2057) rfl d_Model_count_137 ?_
    exact mv_iret (pc := 140) B hr rfl d_Model_count_140 (Nat.le_refl _) (Nat.le_refl _) ⟨_, rfl, hL2⟩
  refine ⟨fun h6 => ?_, fun h6n6 => ?_⟩
  · skip
    refine mv_aload_n (pc := 141) B d_Model_count_141 rfl 0 rfl ?_
    refine mv_getI (pc := 142) (ci := 11) (C := R_Model) (T := F_Model) (N := 16) B 13 rfl rfl (by decide) i_Model (B.2.2.2.1 _ k_2058) rfl d_Model_count_142 ?_
    exact mv_iret (pc := 145) B hr rfl d_Model_count_145 (Nat.le_refl _) (Nat.le_refl _) ⟨_, rfl, hL2⟩
  refine ⟨fun h6 => ?_, fun h6n7 => ?_⟩
  · skip
    refine mv_aload_n (pc := 146) B d_Model_count_146 rfl 0 rfl ?_
    refine mv_getI (pc := 147) (ci := 11) (C := R_Model) (T := F_Model) (N := 16) B 15 rfl rfl (by decide) i_Model (B.2.2.2.1 _ k_2060) rfl d_Model_count_147 ?_
    exact mv_iret (pc := 150) B hr rfl d_Model_count_150 (Nat.le_refl _) (Nat.le_refl _) ⟨_, rfl, hL2⟩
  show mv_V _ _ _ _ _ _ _ _ _ _ _ _ _ _ _ _ 151 _ _
  refine mv_iconst (pc := 151) (v := -1) B d_Model_count_151 (by decide) ?_
  exact mv_iret (pc := 152) B hr rfl d_Model_count_152 (Nat.le_refl _) (Nat.le_refl _) ⟨_, rfl, hL2⟩
set_option maxHeartbeats 4000000 in
set_option maxRecDepth 100000 in
theorem c_kk_Model_count_y (l : Launch) {dA : FieldType → ClassId} {D : va_G} {al : Nat → Nat} {ext : mv_Sh} {sk sv : Nat → Nat} (hi : mv_inj (mg dA D al ext)) (σ : mv_H) (hM : MI 108 74 σ) (n9 : Int32) : mv_C l y_Model_count (Cond.code y_Model_count b_Model_count 2 (Option.some Jvm.ClassFile.FieldType.int) :: ma) ({ frames := 1, cells := 0, slots := 0, locals := 20 }) (mg dA D al ext) (mK sk sv) [.ref (al 70), .int n9] σ (mv_Ri (fun v σ1 => L2 σ σ1)) := by
  refine mv_C.ofV (cc := b_Model_count) (nL := 2) (ret := (Option.some Jvm.ClassFile.FieldType.int)) (by decide +kernel) rfl hi (Nat.le_of_ble_eq_true rfl) ?_
  intro p e s m below meth c B hNs hr hnm hno
  have hN : 108 = 74 ∨ 108 = 108 := by decide
  refine mv_aload_n (pc := 0) B d_Model_count_0 rfl 0 rfl ?_
  refine mv_iconst (pc := 1) (v := 0) B d_Model_count_1 (by decide) ?_
  refine mv_putI (pc := 2) (ci := 11) (C := R_Model) (T := F_Model) (N := 16) B 2 rfl rfl (by decide) i_Model t_Model_ok n_Model (B.2.2.2.1 _ k_2047) rfl rfl rfl rfl d_Model_count_2 ?_
  refine mv_gen (fun S5 eS5 => ?_)
  have hL2 : L2 σ S5 := by rw [eS5]; exact L2.si Fx.rf
  have hF : QF 108 σ S5 := hL2.qf
  have hM := hM.qf hF hN
  have e11 := hF.sh hN
  clear eS5
  refine mv_iload_n (pc := 5) B d_Model_count_5 rfl 1 rfl ?_
  refine mv_tsw (pc := 6) B d_Model_count_6 (by decide) (by decide) ?_
  refine ⟨fun h6 => ?_, fun h6n0 => ?_⟩
  · skip
    refine mv_aload_n (pc := 52) B d_Model_count_52 rfl 0 rfl ?_
    refine mv_getI (pc := 53) (ci := 11) (C := R_Model) (T := F_Model) (N := 16) B 1 rfl rfl (by decide) i_Model (B.2.2.2.1 _ k_2046) rfl d_Model_count_53 ?_
    exact mv_iret (pc := 56) B hr rfl d_Model_count_56 (Nat.le_refl _) (Nat.le_refl _) ⟨_, rfl, hL2⟩
  refine ⟨fun h6 => ?_, fun h6n1 => ?_⟩
  · skip
    refine mv_aload_n (pc := 57) B d_Model_count_57 rfl 0 rfl ?_
    refine mv_getI (pc := 58) (ci := 11) (C := R_Model) (T := F_Model) (N := 16) B 11 rfl rfl (by decide) i_Model (B.2.2.2.1 _ k_2056) rfl d_Model_count_58 ?_
    refine mv_if_eq (pc := 61) (tgt := 69) B d_Model_count_61 rfl (fun h61 => ?_) (fun h61 => ?_)
    · skip
      refine mv_aload_n (pc := 69) B d_Model_count_69 rfl 0 rfl ?_
      refine mv_getR (pc := 70) (ci := 11) (C := R_Model) (T := F_Model) (N := 16) B 9 rfl rfl (by decide) i_Model (B.2.2.2.1 _ k_2054) rfl hM.2.1 d_Model_count_70 ?_
      refine mv_callVi (pc := 73) (n := 0) (ci := 12) (C := R_Book) B (mK_ok sk sv) hNs rfl rfl (c_Book_lengthOf_y l hi _) rfl (ma_goodc kc_Book_lengthOf) (B.2.2.2.1 _ k_2602) (B.2.2.2.1 _ k_2603) (B.2.2.2.1 _ k_2604) (B.2.2.2.1 _ k_13) ⟨by decide +kernel, by decide +kernel, by decide +kernel⟩ rfl d_Model_count_73 rfl (Nat.le_of_ble_eq_true rfl) ⟨by decide, by decide⟩ ⟨by decide, by decide⟩ ⟨by decide, by decide⟩ (mv_noH hno _) (fun v73 σ73 h73 => ?_)
      have e73 := h73.symm
      subst e73
      exact mv_iret (pc := 76) B hr rfl d_Model_count_76 (Nat.le_refl _) (Nat.le_refl _) ⟨_, rfl, hL2⟩
    · skip
      refine mv_bipush (pc := 64) (v := 32) B d_Model_count_64 (by decide) ?_
      refine mv_goto (pc := 66) (tgt := 76) B d_Model_count_66 rfl ?_
      exact mv_iret (pc := 76) B hr rfl d_Model_count_76 (Nat.le_refl _) (Nat.le_refl _) ⟨_, rfl, hL2⟩
  refine ⟨fun h6 => ?_, fun h6n2 => ?_⟩
  · skip
    refine mv_aload_n (pc := 77) B d_Model_count_77 rfl 0 rfl ?_
    refine mv_getI (pc := 78) (ci := 11) (C := R_Model) (T := F_Model) (N := 16) B 11 rfl rfl (by decide) i_Model (B.2.2.2.1 _ k_2056) rfl d_Model_count_78 ?_
    refine mv_if_eq (pc := 81) (tgt := 88) B d_Model_count_81 rfl (fun h81 => ?_) (fun h81 => ?_)
    · skip
      refine mv_aload_n (pc := 88) B d_Model_count_88 rfl 0 rfl ?_
      refine mv_getR (pc := 89) (ci := 11) (C := R_Model) (T := F_Model) (N := 16) B 9 rfl rfl (by decide) i_Model (B.2.2.2.1 _ k_2054) rfl hM.2.1 d_Model_count_89 ?_
      refine mv_getI (pc := 92) (ci := 12) (C := R_Book) (T := F_Book) (N := 65) B 17 rfl rfl (by decide) i_Book (B.2.2.2.1 _ k_1861) rfl d_Model_count_92 ?_
      exact mv_iret (pc := 95) B hr rfl d_Model_count_95 (Nat.le_refl _) (Nat.le_refl _) ⟨_, rfl, hL2⟩
    · skip
      refine mv_iconst (pc := 84) (v := 3) B d_Model_count_84 (by decide) ?_
      refine mv_goto (pc := 85) (tgt := 95) B d_Model_count_85 rfl ?_
      exact mv_iret (pc := 95) B hr rfl d_Model_count_95 (Nat.le_refl _) (Nat.le_refl _) ⟨_, rfl, hL2⟩
  refine ⟨fun h6 => ?_, fun h6n3 => ?_⟩
  · skip
    refine mv_aload_n (pc := 96) B d_Model_count_96 rfl 0 rfl ?_
    refine mv_getI (pc := 97) (ci := 11) (C := R_Model) (T := F_Model) (N := 16) B 11 rfl rfl (by decide) i_Model (B.2.2.2.1 _ k_2056) rfl d_Model_count_97 ?_
    refine mv_if_eq (pc := 100) (tgt := 108) B d_Model_count_100 rfl (fun h100 => ?_) (fun h100 => ?_)
    · skip
      refine mv_aload_n (pc := 108) B d_Model_count_108 rfl 0 rfl ?_
      refine mv_getR (pc := 109) (ci := 11) (C := R_Model) (T := F_Model) (N := 16) B 9 rfl rfl (by decide) i_Model (B.2.2.2.1 _ k_2054) rfl hM.2.1 d_Model_count_109 ?_
      refine mv_callVi (pc := 112) (n := 0) (ci := 12) (C := R_Book) B (mK_ok sk sv) hNs rfl rfl (c_Book_cellsOfAll_y l hi _) rfl (ma_goodc kc_Book_cellsOfAll) (B.2.2.2.1 _ k_2607) (B.2.2.2.1 _ k_2608) (B.2.2.2.1 _ k_2609) (B.2.2.2.1 _ k_13) ⟨by decide +kernel, by decide +kernel, by decide +kernel⟩ rfl d_Model_count_112 rfl (Nat.le_of_ble_eq_true rfl) ⟨by decide, by decide⟩ ⟨by decide, by decide⟩ ⟨by decide, by decide⟩ (mv_noH hno _) (fun v112 σ112 h112 => ?_)
      have e112 := h112.symm
      subst e112
      exact mv_iret (pc := 115) B hr rfl d_Model_count_115 (Nat.le_refl _) (Nat.le_refl _) ⟨_, rfl, hL2⟩
    · skip
      refine mv_ldc (pc := 103) (v := 32800) B (B.2.2.2.1 _ k_2606) d_Model_count_103 ?_
      refine mv_goto (pc := 105) (tgt := 115) B d_Model_count_105 rfl ?_
      exact mv_iret (pc := 115) B hr rfl d_Model_count_115 (Nat.le_refl _) (Nat.le_refl _) ⟨_, rfl, hL2⟩
  refine ⟨fun h6 => ?_, fun h6n4 => ?_⟩
  · skip
    refine mv_aload_n (pc := 116) B d_Model_count_116 rfl 0 rfl ?_
    refine mv_getI (pc := 117) (ci := 11) (C := R_Model) (T := F_Model) (N := 16) B 11 rfl rfl (by decide) i_Model (B.2.2.2.1 _ k_2056) rfl d_Model_count_117 ?_
    refine mv_if_eq (pc := 120) (tgt := 128) B d_Model_count_120 rfl (fun h120 => ?_) (fun h120 => ?_)
    · skip
      refine mv_aload_n (pc := 128) B d_Model_count_128 rfl 0 rfl ?_
      refine mv_getR (pc := 129) (ci := 11) (C := R_Model) (T := F_Model) (N := 16) B 9 rfl rfl (by decide) i_Model (B.2.2.2.1 _ k_2054) rfl hM.2.1 d_Model_count_129 ?_
      refine mv_getI (pc := 132) (ci := 12) (C := R_Book) (T := F_Book) (N := 65) B 29 rfl rfl (by decide) i_Book (B.2.2.2.1 _ k_1875) rfl d_Model_count_132 ?_
      exact mv_iret (pc := 135) B hr rfl d_Model_count_135 (Nat.le_refl _) (Nat.le_refl _) ⟨_, rfl, hL2⟩
    · skip
      refine mv_bipush (pc := 123) (v := 48) B d_Model_count_123 (by decide) ?_
      refine mv_goto (pc := 125) (tgt := 135) B d_Model_count_125 rfl ?_
      exact mv_iret (pc := 135) B hr rfl d_Model_count_135 (Nat.le_refl _) (Nat.le_refl _) ⟨_, rfl, hL2⟩
  refine ⟨fun h6 => ?_, fun h6n5 => ?_⟩
  · skip
    refine mv_aload_n (pc := 136) B d_Model_count_136 rfl 0 rfl ?_
    refine mv_getI (pc := 137) (ci := 11) (C := R_Model) (T := F_Model) (N := 16) B 12 rfl rfl (by decide) i_Model (B.2.2.2.1 _ k_2057) rfl d_Model_count_137 ?_
    exact mv_iret (pc := 140) B hr rfl d_Model_count_140 (Nat.le_refl _) (Nat.le_refl _) ⟨_, rfl, hL2⟩
  refine ⟨fun h6 => ?_, fun h6n6 => ?_⟩
  · skip
    refine mv_aload_n (pc := 141) B d_Model_count_141 rfl 0 rfl ?_
    refine mv_getI (pc := 142) (ci := 11) (C := R_Model) (T := F_Model) (N := 16) B 13 rfl rfl (by decide) i_Model (B.2.2.2.1 _ k_2058) rfl d_Model_count_142 ?_
    exact mv_iret (pc := 145) B hr rfl d_Model_count_145 (Nat.le_refl _) (Nat.le_refl _) ⟨_, rfl, hL2⟩
  refine ⟨fun h6 => ?_, fun h6n7 => ?_⟩
  · skip
    refine mv_aload_n (pc := 146) B d_Model_count_146 rfl 0 rfl ?_
    refine mv_getI (pc := 147) (ci := 11) (C := R_Model) (T := F_Model) (N := 16) B 15 rfl rfl (by decide) i_Model (B.2.2.2.1 _ k_2060) rfl d_Model_count_147 ?_
    exact mv_iret (pc := 150) B hr rfl d_Model_count_150 (Nat.le_refl _) (Nat.le_refl _) ⟨_, rfl, hL2⟩
  show mv_V _ _ _ _ _ _ _ _ _ _ _ _ _ _ _ _ 151 _ _
  refine mv_iconst (pc := 151) (v := -1) B d_Model_count_151 (by decide) ?_
  exact mv_iret (pc := 152) B hr rfl d_Model_count_152 (Nat.le_refl _) (Nat.le_refl _) ⟨_, rfl, hL2⟩
set_option maxHeartbeats 4000000 in
set_option maxRecDepth 100000 in
theorem c_kk_Model_ship (l : Launch) {dA : FieldType → ClassId} {D : va_G} {al : Nat → Nat} {ext : mv_Sh} {sk sv : Nat → Nat} (hi : mv_inj (mg dA D al ext)) (σ : mv_H) (hmr : mh (mv_r σ)) : mv_C l y_Model_ship (Cond.code y_Model_ship b_Model_ship 2 (Option.some Jvm.ClassFile.FieldType.int) :: ma) ({ frames := 1, cells := 0, slots := 0, locals := 20 }) (mg dA D al ext) (mK sk sv) [.ref (al 70)] σ (mv_Ri (fun v σ1 => (HFm σ σ1 ∧ v = 48 ∧ mv_i σ1 70 11 = 1) ∧ SZq σ σ1)) := by
  refine mv_C.ofV (cc := b_Model_ship) (nL := 2) (ret := (Option.some Jvm.ClassFile.FieldType.int)) (by decide +kernel) rfl hi (Nat.le_of_ble_eq_true rfl) ?_
  intro p e s m below meth c B hNs hr hnm hno
  have lp2 : ∀ (nn : Nat) (τ : mv_H) (i9 : Int32) (hFt : HFm σ τ) (h11 : mv_i τ 70 11 = 1) (q0 : 0 ≤ i9.toInt) (hZ : ZX 32 i9.toNatClampNeg σ τ), (40000 - i9.toInt).toNat < nn → mv_V p l e ({ frames := 1, cells := 0, slots := 0, locals := 20 }) s m ([.ref (al 70)] : List Value).toArray below meth c (mg dA D al ext) 2 0 0 (mv_Q (mg dA D al ext) below s 0 0 (mv_Ri (fun v σ1 => (HFm σ σ1 ∧ v = 48 ∧ mv_i σ1 70 11 = 1) ∧ SZq σ σ1))) τ 38 [(1, .int i9), (0, .ref (al 70))] [] := by
    intro nn
    induction nn with
    | zero => intro τ i9 hFt h11 q0 hZ hm; exact absurd hm (Nat.not_lt_zero _)
    | succ nn ih =>
      intro τ i9 hFt h11 q0 hZ hm
      have hmt : mh (mv_r τ) := by rw [hFt.2.2.1]; exact hmr
      refine mv_iload_n (pc := 38) B d_Model_ship_38 rfl 0 rfl ?_
      refine mv_ldc (pc := 39) (v := 32768) B (B.2.2.2.1 _ k_1815) d_Model_ship_39 ?_
      refine mv_icmp_ge (pc := 41) (tgt := 57) B d_Model_ship_41 rfl (fun h41 => ?_) (fun h41 => ?_)
      · skip
        rw [Int32.le_iff_toInt_le] at h41
        have h41 : 32768 ≤ i9.toInt := h41
        refine mv_aload_n (pc := 57) B d_Model_ship_57 rfl 1 rfl ?_
        refine mv_callVv (pc := 58) (n := 0) (ci := 11) (C := R_Model) B (mK_ok sk sv) hNs rfl rfl (c_kz_Model_fresh l hi _) rfl (ma_goodc kc_Model_fresh) (B.2.2.2.1 _ k_2341) (B.2.2.2.1 _ k_2343) (B.2.2.2.1 _ ks_123) (B.2.2.2.1 _ k_12) ⟨by decide +kernel, by decide +kernel, by decide +kernel⟩ rfl d_Model_ship_58 rfl (Nat.le_of_ble_eq_true rfl) ⟨by decide, by decide⟩ ⟨by decide, by decide⟩ ⟨by decide, by decide⟩ (mv_noH hno _) (fun σ58 h58 => ?_)
        obtain ⟨⟨h58, -⟩, x58⟩ := h58
        refine mv_bipush (pc := 61) (v := 48) B d_Model_ship_61 (by decide) ?_
        exact mv_iret (pc := 63) B hr rfl d_Model_ship_63 (Nat.le_refl _) (Nat.le_refl _) ⟨_, rfl, ⟨Fx.tr hFt (Fx.up h58 (fun o k z => ⟨z.1, z.2.1⟩) (fun o k z => z) (fun o k z => z) (fun o z => z)), rfl, (h58.1 70 11 (by omega)).trans h11⟩, SZq.of (hZ.le (Nat.le_refl _) (by have := i32_cl q0; omega)) x58⟩
      · skip
        rw [Int32.le_iff_toInt_le] at h41
        have h41 : ¬ 32768 ≤ i9.toInt := h41
        have w2 : (i9 + 1).toInt = i9.toInt + 1 := i32_inc (by omega)
        have w3 := cl_inc q0 (by omega)
        refine mv_aload_n (pc := 44) B d_Model_ship_44 rfl 1 rfl ?_
        refine mv_getR (pc := 45) (ci := 11) (C := R_Model) (T := F_Model) (N := 16) B 8 rfl rfl (by decide) i_Model (B.2.2.2.1 _ k_2053) rfl (hmt _ 8 _ rfl) d_Model_ship_45 ?_
        refine mv_iload_n (pc := 48) B d_Model_ship_48 rfl 0 rfl ?_
        refine mv_iconst (pc := 49) (v := 0) B d_Model_ship_49 (by decide) ?_
        refine mv_bast (pc := 50) B rfl (i32_in q0 (show i9.toInt < 32768 by omega)) d_Model_ship_50 ?_
        refine mv_iinc (pc := 51) (j := 0) (v := 1) B d_Model_ship_51 rfl (by decide) (by decide) rfl ?_
        refine mv_goto (pc := 54) (tgt := 38) B d_Model_ship_54 rfl ?_
        refine mv_lpick [0, 1] rfl ?_
        exact ih _ _ hFt.m h11 (by omega) (by rw [w3]; exact hZ.m bz_0) (by omega)
  have lp1 : ∀ (nn : Nat) (τ : mv_H) (i9 : Int32) (hFt : HFm σ τ) (h11 : mv_i τ 70 11 = 1) (q0 : 0 ≤ i9.toInt) (hZ : ZX i9.toNatClampNeg 0 σ τ), (40000 - i9.toInt).toNat < nn → mv_V p l e ({ frames := 1, cells := 0, slots := 0, locals := 20 }) s m ([.ref (al 70)] : List Value).toArray below meth c (mg dA D al ext) 2 0 0 (mv_Q (mg dA D al ext) below s 0 0 (mv_Ri (fun v σ1 => (HFm σ σ1 ∧ v = 48 ∧ mv_i σ1 70 11 = 1) ∧ SZq σ σ1))) τ 17 [(1, .int i9), (0, .ref (al 70))] [] := by
    intro nn
    induction nn with
    | zero => intro τ i9 hFt h11 q0 hZ hm; exact absurd hm (Nat.not_lt_zero _)
    | succ nn ih =>
      intro τ i9 hFt h11 q0 hZ hm
      have hmt : mh (mv_r τ) := by rw [hFt.2.2.1]; exact hmr
      refine mv_iload_n (pc := 17) B d_Model_ship_17 rfl 0 rfl ?_
      refine mv_bipush (pc := 18) (v := 32) B d_Model_ship_18 (by decide) ?_
      refine mv_icmp_ge (pc := 20) (tgt := 36) B d_Model_ship_20 rfl (fun h20 => ?_) (fun h20 => ?_)
      · skip
        rw [Int32.le_iff_toInt_le] at h20
        have h20 : 32 ≤ i9.toInt := h20
        refine mv_iconst (pc := 36) (v := 0) B d_Model_ship_36 (by decide) ?_
        refine mv_istore_n (pc := 37) B d_Model_ship_37 rfl (by decide) rfl ?_
        refine mv_lpick [0, 1] rfl ?_
        exact lp2 _ _ _ hFt h11 (by decide) (hZ.le (by have := i32_cl q0; omega) (by decide)) (Nat.lt_succ_self _)
      · skip
        rw [Int32.le_iff_toInt_le] at h20
        have h20 : ¬ 32 ≤ i9.toInt := h20
        have w2 : (i9 + 1).toInt = i9.toInt + 1 := i32_inc (by omega)
        have w3 := cl_inc q0 (by omega)
        refine mv_aload_n (pc := 23) B d_Model_ship_23 rfl 1 rfl ?_
        refine mv_getR (pc := 24) (ci := 11) (C := R_Model) (T := F_Model) (N := 16) B 7 rfl rfl (by decide) i_Model (B.2.2.2.1 _ k_2052) rfl (hmt _ 7 _ rfl) d_Model_ship_24 ?_
        refine mv_iload_n (pc := 27) B d_Model_ship_27 rfl 0 rfl ?_
        refine mv_iconst (pc := 28) (v := 0) B d_Model_ship_28 (by decide) ?_
        refine mv_iast (pc := 29) B rfl (i32_in q0 (show i9.toInt < 32 by omega)) d_Model_ship_29 ?_
        refine mv_iinc (pc := 30) (j := 0) (v := 1) B d_Model_ship_30 rfl (by decide) (by decide) rfl ?_
        refine mv_goto (pc := 33) (tgt := 17) B d_Model_ship_33 rfl ?_
        refine mv_lpick [0, 1] rfl ?_
        exact ih _ _ hFt.x h11 (by omega) (by rw [w3]; exact hZ.x rfl) (by omega)
  refine mv_aload_n (pc := 0) B d_Model_ship_0 rfl 0 rfl ?_
  refine mv_iconst (pc := 1) (v := 0) B d_Model_ship_1 (by decide) ?_
  refine mv_putI (pc := 2) (ci := 11) (C := R_Model) (T := F_Model) (N := 16) B 2 rfl rfl (by decide) i_Model t_Model_ok n_Model (B.2.2.2.1 _ k_2047) rfl rfl rfl rfl d_Model_ship_2 ?_
  refine mv_aload_n (pc := 5) B d_Model_ship_5 rfl 0 rfl ?_
  refine mv_iconst (pc := 6) (v := 1) B d_Model_ship_6 (by decide) ?_
  refine mv_putI (pc := 7) (ci := 11) (C := R_Model) (T := F_Model) (N := 16) B 11 rfl rfl (by decide) i_Model t_Model_ok n_Model (B.2.2.2.1 _ k_2056) rfl rfl rfl rfl d_Model_ship_7 ?_
  refine mv_aload_n (pc := 10) B d_Model_ship_10 rfl 0 rfl ?_
  refine mv_iconst (pc := 11) (v := 0) B d_Model_ship_11 (by decide) ?_
  refine mv_putI (pc := 12) (ci := 11) (C := R_Model) (T := F_Model) (N := 16) B 6 rfl rfl (by decide) i_Model t_Model_ok n_Model (B.2.2.2.1 _ k_2051) rfl rfl rfl rfl d_Model_ship_12 ?_
  refine mv_iconst (pc := 15) (v := 0) B d_Model_ship_15 (by decide) ?_
  refine mv_istore_n (pc := 16) B d_Model_ship_16 rfl (by decide) rfl ?_
  refine mv_lpick [0, 1] rfl ?_
  exact lp1 _ _ _ (HFm.si (HFm.si (HFm.si Fx.rf (by decide)) (by decide)) (by decide)) rfl (by decide) zx_0 (Nat.lt_succ_self _)
