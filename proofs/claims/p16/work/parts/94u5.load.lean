/-! Machine: load, exactly -/
def ldF (P : Nat) (σ : mv_H) : mv_H := mv_si (mv_si (mv_fl (mv_sr σ 64 0 (some P)) 65 0 (mv_i σ P 6).toNatClampNeg 0) 64 10 0) 64 11 0
theorem ldF_i {P : Nat} {σ : mv_H} : mv_i (ldF P σ) 64 10 = 0 ∧ mv_i (ldF P σ) 64 11 = 0 ∧ mv_i (ldF P σ) 64 9 = mv_i σ 64 9 ∧ mv_i (ldF P σ) 64 12 = mv_i σ 64 12 := by
  unfold ldF
  refine ⟨(mv_si_o _ _ (by omega)).trans (mv_si_s _ _ _ _), mv_si_s _ _ _ _, ?_, ?_⟩
  · exact (mv_si_o _ _ (by omega)).trans (mv_si_o _ _ (by omega))
  · exact (mv_si_o _ _ (by omega)).trans (mv_si_o _ _ (by omega))
theorem ldF_b {P : Nat} {σ : mv_H} {i : Nat} (h : i < (mv_i σ P 6).toNatClampNeg) : mv_b (ldF P σ) 65 i = 0 := by
  show mv_b (mv_fl (mv_sr σ 64 0 (some P)) 65 0 (mv_i σ P 6).toNatClampNeg 0) 65 i = 0
  show (if (65 : Nat) = 65 then (fun j => if 0 ≤ j ∧ j < (mv_i σ P 6).toNatClampNeg then (0 : Int64) else mv_b (mv_sr σ 64 0 (some P)) 65 j) else mv_b (mv_sr σ 64 0 (some P)) 65) i = 0
  rw [if_pos rfl]
  exact if_pos ⟨Nat.zero_le _, h⟩

set_option maxHeartbeats 4000000 in
set_option maxRecDepth 100000 in
theorem c_kl_Machine_load_a (l : Launch) {dA : FieldType → ClassId} {D : va_G} {al : Nat → Nat} {ext : mv_Sh} {sk sv : Nat → Nat} (hi : mv_inj (mg dA D al ext)) (σ : mv_H) (hm : mh (mv_r σ)) (hq : Ph 32 (mv_r σ)) (th sl : Nat) (hT : Th 32 σ th sl) : mv_C l y_Machine_load (Cond.code y_Machine_load b_Machine_load 2 (Option.none : Option Jvm.ClassFile.FieldType) :: ma) ({ frames := 2, cells := 0, slots := 0, locals := 47 }) (mg dA D al ext) (mK sk sv) [.ref (al 64), .ref (al 32)] σ (mv_Rv (fun σ1 => (FM (mv_sr σ 64 0 (some 32)) σ1 ∧ Rf 32 (mv_r σ1)) ∧ σ1 = ldF 32 σ)) := by
  refine mv_C.ofV (cc := b_Machine_load) (nL := 2) (ret := (Option.none : Option Jvm.ClassFile.FieldType)) (by decide +kernel) rfl hi (Nat.le_of_ble_eq_true rfl) ?_
  intro p e s m below meth c B hNs hr hnm hno
  have hsl := hT.2.2.2.1
  have hs9 := hT.2.2.1
  refine mv_aload_n (pc := 0) B d_Machine_load_0 rfl 0 rfl ?_
  refine mv_aload_n (pc := 1) B d_Machine_load_1 rfl 1 rfl ?_
  refine mv_putR (pc := 2) (ci := 9) (C := R_Machine) (T := F_Machine) (N := 13) B 0 rfl rfl (by decide) i_Machine t_Machine_ok n_Machine (B.2.2.2.1 _ k_440) rfl rfl d_Machine_load_2 ?_
  have hR : Rf 32 (mv_r (mv_sr σ 64 0 (some 32))) := ⟨mh_sr hm rfl, fun o k v e => by show mv_u (mv_r σ) 64 0 (some 32) o k = some v; rw [mv_u_ne _ _ (fun z => by rw [z.1] at e; cases e)]; exact hq o k v e, mv_u_same (mv_r σ) 64 0 (some 32)⟩
  refine mv_aload_n (pc := 5) B d_Machine_load_5 rfl 0 rfl ?_
  refine mv_getR (pc := 6) (ci := 9) (C := R_Machine) (T := F_Machine) (N := 13) B 1 rfl rfl (by decide) i_Machine (B.2.2.2.1 _ k_442) rfl (hR.1 _ 1 _ rfl) d_Machine_load_6 ?_
  refine mv_iconst (pc := 9) (v := 0) B d_Machine_load_9 (by decide) ?_
  refine mv_aload_n (pc := 10) B d_Machine_load_10 rfl 0 rfl ?_
  refine mv_getR (pc := 11) (ci := 9) (C := R_Machine) (T := F_Machine) (N := 13) B 0 rfl rfl (by decide) i_Machine (B.2.2.2.1 _ k_440) rfl hR.2.2 d_Machine_load_11 ?_
  refine mv_getI (pc := 14) (ci := 7) (C := R_Program) (T := F_Program) (N := 19) B 6 rfl rfl (by decide) i_Program (B.2.2.2.1 _ k_333) rfl d_Machine_load_14 ?_
  refine mv_lconst (pc := 17) (v := 0) B d_Machine_load_17 (by decide) ?_
  refine mv_callSv (pc := 18) (n := 4) B (mK_ok sk sv) hNs (c_Arrays_fill_4 l hi _ 65 65600 rfl (by decide) 0 (mv_i σ 32 6) 0 (by decide) (show (0 : Int) ≤ (mv_i σ 32 6).toInt by omega) (show (mv_i σ 32 6).toInt ≤ (65600 : Int) by omega)) rfl (ma_goodc kc_Arrays_fill_4) (B.2.2.2.1 _ k_1553) (B.2.2.2.1 _ k_1554) (B.2.2.2.1 _ k_20) ⟨by decide +kernel, by decide +kernel, by decide +kernel⟩ rfl d_Machine_load_18 rfl (Nat.le_of_ble_eq_true rfl) ⟨by decide, by decide⟩ ⟨by decide, by decide⟩ ⟨by decide, by decide⟩ (mv_noH hno _) (fun σ18 h18 => ?_)
  subst h18
  refine mv_aload_n (pc := 21) B d_Machine_load_21 rfl 0 rfl ?_
  refine mv_iconst (pc := 22) (v := 0) B d_Machine_load_22 (by decide) ?_
  refine mv_putI (pc := 23) (ci := 9) (C := R_Machine) (T := F_Machine) (N := 13) B 10 rfl rfl (by decide) i_Machine t_Machine_ok n_Machine (B.2.2.2.1 _ k_453) rfl rfl rfl rfl d_Machine_load_23 ?_
  refine mv_aload_n (pc := 26) B d_Machine_load_26 rfl 0 rfl ?_
  refine mv_iconst (pc := 27) (v := 0) B d_Machine_load_27 (by decide) ?_
  refine mv_putI (pc := 28) (ci := 9) (C := R_Machine) (T := F_Machine) (N := 13) B 11 rfl rfl (by decide) i_Machine t_Machine_ok n_Machine (B.2.2.2.1 _ k_455) rfl rfl rfl rfl d_Machine_load_28 ?_
  exact mv_vret (pc := 31) B hr d_Machine_load_31 (Nat.le_refl _) (Nat.le_refl _) ⟨rfl, ⟨((Fr.cb FM0 (Or.inl rfl)).si rfl).si rfl, hR⟩, rfl⟩
set_option maxHeartbeats 4000000 in
set_option maxRecDepth 100000 in
theorem c_kl_Machine_load_b (l : Launch) {dA : FieldType → ClassId} {D : va_G} {al : Nat → Nat} {ext : mv_Sh} {sk sv : Nat → Nat} (hi : mv_inj (mg dA D al ext)) (σ : mv_H) (hm : mh (mv_r σ)) (hq : Ph 48 (mv_r σ)) (th sl : Nat) (hT : Th 48 σ th sl) : mv_C l y_Machine_load (Cond.code y_Machine_load b_Machine_load 2 (Option.none : Option Jvm.ClassFile.FieldType) :: ma) ({ frames := 2, cells := 0, slots := 0, locals := 47 }) (mg dA D al ext) (mK sk sv) [.ref (al 64), .ref (al 48)] σ (mv_Rv (fun σ1 => (FM (mv_sr σ 64 0 (some 48)) σ1 ∧ Rf 48 (mv_r σ1)) ∧ σ1 = ldF 48 σ)) := by
  refine mv_C.ofV (cc := b_Machine_load) (nL := 2) (ret := (Option.none : Option Jvm.ClassFile.FieldType)) (by decide +kernel) rfl hi (Nat.le_of_ble_eq_true rfl) ?_
  intro p e s m below meth c B hNs hr hnm hno
  have hsl := hT.2.2.2.1
  have hs9 := hT.2.2.1
  refine mv_aload_n (pc := 0) B d_Machine_load_0 rfl 0 rfl ?_
  refine mv_aload_n (pc := 1) B d_Machine_load_1 rfl 1 rfl ?_
  refine mv_putR (pc := 2) (ci := 9) (C := R_Machine) (T := F_Machine) (N := 13) B 0 rfl rfl (by decide) i_Machine t_Machine_ok n_Machine (B.2.2.2.1 _ k_440) rfl rfl d_Machine_load_2 ?_
  have hR : Rf 48 (mv_r (mv_sr σ 64 0 (some 48))) := ⟨mh_sr hm rfl, fun o k v e => by show mv_u (mv_r σ) 64 0 (some 48) o k = some v; rw [mv_u_ne _ _ (fun z => by rw [z.1] at e; cases e)]; exact hq o k v e, mv_u_same (mv_r σ) 64 0 (some 48)⟩
  refine mv_aload_n (pc := 5) B d_Machine_load_5 rfl 0 rfl ?_
  refine mv_getR (pc := 6) (ci := 9) (C := R_Machine) (T := F_Machine) (N := 13) B 1 rfl rfl (by decide) i_Machine (B.2.2.2.1 _ k_442) rfl (hR.1 _ 1 _ rfl) d_Machine_load_6 ?_
  refine mv_iconst (pc := 9) (v := 0) B d_Machine_load_9 (by decide) ?_
  refine mv_aload_n (pc := 10) B d_Machine_load_10 rfl 0 rfl ?_
  refine mv_getR (pc := 11) (ci := 9) (C := R_Machine) (T := F_Machine) (N := 13) B 0 rfl rfl (by decide) i_Machine (B.2.2.2.1 _ k_440) rfl hR.2.2 d_Machine_load_11 ?_
  refine mv_getI (pc := 14) (ci := 7) (C := R_Program) (T := F_Program) (N := 19) B 6 rfl rfl (by decide) i_Program (B.2.2.2.1 _ k_333) rfl d_Machine_load_14 ?_
  refine mv_lconst (pc := 17) (v := 0) B d_Machine_load_17 (by decide) ?_
  refine mv_callSv (pc := 18) (n := 4) B (mK_ok sk sv) hNs (c_Arrays_fill_4 l hi _ 65 65600 rfl (by decide) 0 (mv_i σ 48 6) 0 (by decide) (show (0 : Int) ≤ (mv_i σ 48 6).toInt by omega) (show (mv_i σ 48 6).toInt ≤ (65600 : Int) by omega)) rfl (ma_goodc kc_Arrays_fill_4) (B.2.2.2.1 _ k_1553) (B.2.2.2.1 _ k_1554) (B.2.2.2.1 _ k_20) ⟨by decide +kernel, by decide +kernel, by decide +kernel⟩ rfl d_Machine_load_18 rfl (Nat.le_of_ble_eq_true rfl) ⟨by decide, by decide⟩ ⟨by decide, by decide⟩ ⟨by decide, by decide⟩ (mv_noH hno _) (fun σ18 h18 => ?_)
  subst h18
  refine mv_aload_n (pc := 21) B d_Machine_load_21 rfl 0 rfl ?_
  refine mv_iconst (pc := 22) (v := 0) B d_Machine_load_22 (by decide) ?_
  refine mv_putI (pc := 23) (ci := 9) (C := R_Machine) (T := F_Machine) (N := 13) B 10 rfl rfl (by decide) i_Machine t_Machine_ok n_Machine (B.2.2.2.1 _ k_453) rfl rfl rfl rfl d_Machine_load_23 ?_
  refine mv_aload_n (pc := 26) B d_Machine_load_26 rfl 0 rfl ?_
  refine mv_iconst (pc := 27) (v := 0) B d_Machine_load_27 (by decide) ?_
  refine mv_putI (pc := 28) (ci := 9) (C := R_Machine) (T := F_Machine) (N := 13) B 11 rfl rfl (by decide) i_Machine t_Machine_ok n_Machine (B.2.2.2.1 _ k_455) rfl rfl rfl rfl d_Machine_load_28 ?_
  exact mv_vret (pc := 31) B hr d_Machine_load_31 (Nat.le_refl _) (Nat.le_refl _) ⟨rfl, ⟨((Fr.cb FM0 (Or.inl rfl)).si rfl).si rfl, hR⟩, rfl⟩
set_option maxHeartbeats 4000000 in
set_option maxRecDepth 100000 in
theorem c_kl_Machine_load_c (l : Launch) {dA : FieldType → ClassId} {D : va_G} {al : Nat → Nat} {sk sv : Nat → Nat} (hi : mv_inj (mg dA D al me)) (σ : mv_H) (hm : mh (mv_r σ)) (hq : Ph 145 (mv_r σ)) (th sl : Nat) (hT : Th 145 σ th sl) : mv_C l y_Machine_load (Cond.code y_Machine_load b_Machine_load 2 (Option.none : Option Jvm.ClassFile.FieldType) :: ma) ({ frames := 2, cells := 0, slots := 0, locals := 47 }) (mg dA D al me) (mK sk sv) [.ref (al 64), .ref (al 145)] σ (mv_Rv (fun σ1 => (FM (mv_sr σ 64 0 (some 145)) σ1 ∧ Rf 145 (mv_r σ1)) ∧ σ1 = ldF 145 σ)) := by
  refine mv_C.ofV (cc := b_Machine_load) (nL := 2) (ret := (Option.none : Option Jvm.ClassFile.FieldType)) (by decide +kernel) rfl hi (Nat.le_of_ble_eq_true rfl) ?_
  intro p e s m below meth c B hNs hr hnm hno
  have hsl := hT.2.2.2.1
  have hs9 := hT.2.2.1
  refine mv_aload_n (pc := 0) B d_Machine_load_0 rfl 0 rfl ?_
  refine mv_aload_n (pc := 1) B d_Machine_load_1 rfl 1 rfl ?_
  refine mv_putR (pc := 2) (ci := 9) (C := R_Machine) (T := F_Machine) (N := 13) B 0 rfl rfl (by decide) i_Machine t_Machine_ok n_Machine (B.2.2.2.1 _ k_440) rfl rfl d_Machine_load_2 ?_
  have hR : Rf 145 (mv_r (mv_sr σ 64 0 (some 145))) := ⟨mh_sr hm rfl, fun o k v e => by show mv_u (mv_r σ) 64 0 (some 145) o k = some v; rw [mv_u_ne _ _ (fun z => by rw [z.1] at e; cases e)]; exact hq o k v e, mv_u_same (mv_r σ) 64 0 (some 145)⟩
  refine mv_aload_n (pc := 5) B d_Machine_load_5 rfl 0 rfl ?_
  refine mv_getR (pc := 6) (ci := 9) (C := R_Machine) (T := F_Machine) (N := 13) B 1 rfl rfl (by decide) i_Machine (B.2.2.2.1 _ k_442) rfl (hR.1 _ 1 _ rfl) d_Machine_load_6 ?_
  refine mv_iconst (pc := 9) (v := 0) B d_Machine_load_9 (by decide) ?_
  refine mv_aload_n (pc := 10) B d_Machine_load_10 rfl 0 rfl ?_
  refine mv_getR (pc := 11) (ci := 9) (C := R_Machine) (T := F_Machine) (N := 13) B 0 rfl rfl (by decide) i_Machine (B.2.2.2.1 _ k_440) rfl hR.2.2 d_Machine_load_11 ?_
  refine mv_getI (pc := 14) (ci := 7) (C := R_Program) (T := F_Program) (N := 19) B 6 rfl rfl (by decide) i_Program (B.2.2.2.1 _ k_333) rfl d_Machine_load_14 ?_
  refine mv_lconst (pc := 17) (v := 0) B d_Machine_load_17 (by decide) ?_
  refine mv_callSv (pc := 18) (n := 4) B (mK_ok sk sv) hNs (c_Arrays_fill_4 l hi _ 65 65600 rfl (by decide) 0 (mv_i σ 145 6) 0 (by decide) (show (0 : Int) ≤ (mv_i σ 145 6).toInt by omega) (show (mv_i σ 145 6).toInt ≤ (65600 : Int) by omega)) rfl (ma_goodc kc_Arrays_fill_4) (B.2.2.2.1 _ k_1553) (B.2.2.2.1 _ k_1554) (B.2.2.2.1 _ k_20) ⟨by decide +kernel, by decide +kernel, by decide +kernel⟩ rfl d_Machine_load_18 rfl (Nat.le_of_ble_eq_true rfl) ⟨by decide, by decide⟩ ⟨by decide, by decide⟩ ⟨by decide, by decide⟩ (mv_noH hno _) (fun σ18 h18 => ?_)
  subst h18
  refine mv_aload_n (pc := 21) B d_Machine_load_21 rfl 0 rfl ?_
  refine mv_iconst (pc := 22) (v := 0) B d_Machine_load_22 (by decide) ?_
  refine mv_putI (pc := 23) (ci := 9) (C := R_Machine) (T := F_Machine) (N := 13) B 10 rfl rfl (by decide) i_Machine t_Machine_ok n_Machine (B.2.2.2.1 _ k_453) rfl rfl rfl rfl d_Machine_load_23 ?_
  refine mv_aload_n (pc := 26) B d_Machine_load_26 rfl 0 rfl ?_
  refine mv_iconst (pc := 27) (v := 0) B d_Machine_load_27 (by decide) ?_
  refine mv_putI (pc := 28) (ci := 9) (C := R_Machine) (T := F_Machine) (N := 13) B 11 rfl rfl (by decide) i_Machine t_Machine_ok n_Machine (B.2.2.2.1 _ k_455) rfl rfl rfl rfl d_Machine_load_28 ?_
  exact mv_vret (pc := 31) B hr d_Machine_load_31 (Nat.le_refl _) (Nat.le_refl _) ⟨rfl, ⟨((Fr.cb FM0 (Or.inl rfl)).si rfl).si rfl, hR⟩, rfl⟩
