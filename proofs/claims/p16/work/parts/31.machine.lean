/-! Machine: stack, cells, doings -/
/-- the machine's references, with the program at P -/
def Rf (P : Nat) (r : Nat → Nat → Option Nat) : Prop := mh r ∧ Ph P r ∧ r 64 0 = some P
/-- THINGS: th of them, sl slots -/
def Th (P : Nat) (σ : mv_H) (th sl : Nat) : Prop := (mv_i σ P 1).toInt = th ∧ th ≤ 64 ∧ (mv_i σ P 6).toInt = sl ∧ sl ≤ 65600 ∧ 0 ≤ (mv_i σ P 0).toInt ∧ (mv_i σ P 0).toInt ≤ 64 ∧ (∀ t, t < th → ∃ c f : Nat, (mv_a σ (P + 2) t).toInt = c ∧ (mv_a σ (P + 3) t).toInt = f ∧ f + 1 ≤ sl ∧ f + c ≤ sl) ∧ (((mv_i σ P 8).toInt < 0 ∧ (mv_i σ P 9).toInt < 0) ∨ (0 ≤ (mv_i σ P 8).toInt ∧ (mv_i σ P 8).toInt < th ∧ 0 ≤ (mv_i σ P 9).toInt ∧ (mv_i σ P 9).toInt < th))
theorem Th.fr {P th sl : Nat} {σ τ : mv_H} (h : Th P σ th sl) (e1 : mv_i τ P = mv_i σ P) (e2 : mv_a τ (P + 2) = mv_a σ (P + 2)) (e3 : mv_a τ (P + 3) = mv_a σ (P + 3)) : Th P τ th sl := by
  unfold Th
  rw [e1, e2, e3]
  exact h
/-- the row of what is to be undone -/
def Un (σ : mv_H) (u : Nat) : Prop := (mv_i σ 64 7).toInt = u ∧ u ≤ 8193 ∧ ∀ j, j < u → 0 ≤ (mv_a σ 68 j).toInt ∧ (mv_a σ 68 j).toInt < 65600
abbrev MF : mv_H → mv_H → Prop := Fr (fun o k => o = 64 ∧ (k = 4 ∨ k = 7 ∨ k = 8)) (fun o => o = 68) (fun o => o = 65 ∨ o = 66 ∨ o = 67 ∨ o = 69)
theorem MF0 {σ : mv_H} : MF σ σ := Fr.rf
theorem Un.fr {σ τ : mv_H} {u : Nat} (h : Un σ u) (e1 : mv_i τ 64 7 = mv_i σ 64 7) (e2 : mv_a τ 68 = mv_a σ 68) : Un τ u := by
  unfold Un
  rw [e1, e2]
  exact h
def mc_push (σ : mv_H) (v : Int64) : mv_H := mv_si (mv_sb σ 67 (mv_i σ 64 4).toNatClampNeg v) 64 4 (mv_i σ 64 4 + 1)
def mc_pop (σ : mv_H) : mv_H := mv_si σ 64 4 (mv_i σ 64 4 - 1)
/-- what a doing takes off the stack and puts there -/
def opd (d : Int32) : Nat × Nat := if d = 300 ∨ d = 301 ∨ d = 302 ∨ d = 303 then (0, 1) else if d = 304 ∨ d = 305 ∨ d = 306 ∨ d = 307 ∨ d = 308 ∨ d = 310 then (1, 1) else if d = 313 ∨ d = 314 then (1, 0) else if d = 315 then (2, 0) else (2, 1)
def vok (th : Nat) (d : Int32) (w : Int64) : Prop := (d = 302 ∨ d = 313 → 0 ≤ w.toInt ∧ w.toInt < 64) ∧ (d = 303 → 0 ≤ w.toInt ∧ w.toInt < 65600) ∧ (d = 304 ∨ d = 314 ∨ d = 315 → 0 ≤ w.toInt ∧ w.toInt < th)
def Op1 (th : Nat) (d : Int32) (w : Int64) (h h' : Nat) : Prop := (opd d).1 ≤ h ∧ h' + (opd d).1 = h + (opd d).2 ∧ vok th d w
theorem sub_one {x : Int32} (h : 1 ≤ x.toInt) : (x - 1).toInt = x.toInt - 1 := i32_sub (x := x) (y := 1) (by have := i32_rng x; show -2147483648 ≤ x.toInt - 1; omega) (by have := i32_rng x; show x.toInt - 1 < 2147483648; omega)
theorem l2i_nn {x : Int64} (h1 : 0 ≤ x.toInt) (h2 : x.toInt < 2147483648) : x.toInt32.toInt = x.toInt := l2i_toInt (by omega) h2
def y_Machine_push : MethodName := ⟨"MachineLoom$Machine", "push", "(J)V"⟩
abbrev b_Machine_push : ByteArray := prog_5_method_11_code
theorem kc_Machine_push : Cond.code y_Machine_push b_Machine_push 3 (Option.none : Option Jvm.ClassFile.FieldType) ∈ ma := ma_of (tb_7 _ (List.mem_of_getElem? (i := 147) rfl)) rfl
theorem k_445 : (Jvm.Cond.fieldLink "MachineLoom$Machine" (19 : Nat) "MachineLoom$Machine" "stack" "[J") ∈ ma := ma_of (tb_2 _ (List.mem_of_getElem? (i := 205) rfl)) rfl
theorem k_446 : (Jvm.Cond.fieldLink "MachineLoom$Machine" (143 : Nat) "MachineLoom$Machine" "top" "I") ∈ ma := ma_of (tb_2 _ (List.mem_of_getElem? (i := 206) rfl)) rfl
theorem d_Machine_push_0 : decode b_Machine_push 0 = .ok (.aload_n 0, 1) := by decide +kernel
theorem d_Machine_push_1 : decode b_Machine_push 1 = .ok (.getfield 19, 3) := by decide +kernel
theorem d_Machine_push_4 : decode b_Machine_push 4 = .ok (.aload_n 0, 1) := by decide +kernel
theorem d_Machine_push_5 : decode b_Machine_push 5 = .ok (.getfield 143, 3) := by decide +kernel
theorem d_Machine_push_8 : decode b_Machine_push 8 = .ok (.lload_n 1, 1) := by decide +kernel
theorem d_Machine_push_9 : decode b_Machine_push 9 = .ok (.lastore, 1) := by decide +kernel
theorem d_Machine_push_10 : decode b_Machine_push 10 = .ok (.aload_n 0, 1) := by decide +kernel
theorem d_Machine_push_11 : decode b_Machine_push 11 = .ok (.dup, 1) := by decide +kernel
theorem d_Machine_push_12 : decode b_Machine_push 12 = .ok (.getfield 143, 3) := by decide +kernel
theorem d_Machine_push_15 : decode b_Machine_push 15 = .ok (.iconst 1, 1) := by decide +kernel
theorem d_Machine_push_16 : decode b_Machine_push 16 = .ok (.iadd, 1) := by decide +kernel
theorem d_Machine_push_17 : decode b_Machine_push 17 = .ok (.putfield 143, 3) := by decide +kernel
theorem d_Machine_push_20 : decode b_Machine_push 20 = .ok (.return_, 1) := by decide +kernel
set_option maxHeartbeats 4000000 in
set_option maxRecDepth 100000 in
theorem c_Machine_push_a (l : Launch) {dA : FieldType → ClassId} {D : va_G} {al : Nat → Nat} {ext : mv_Sh} {sk sv : Nat → Nat} (hi : mv_inj (mg dA D al ext)) (σ : mv_H) (v : Int64) (hR : Rf 32 (mv_r σ)) (g0 : 0 ≤ (mv_i σ 64 4).toInt) (g1 : (mv_i σ 64 4).toInt < 1024) : mv_C l y_Machine_push (Cond.code y_Machine_push b_Machine_push 3 (Option.none : Option Jvm.ClassFile.FieldType) :: ma) ({ frames := 0, cells := 0, slots := 0, locals := 0 }) (mg dA D al ext) (mK sk sv) [.ref (al 64), .long v] σ (mv_Rv (fun σ1 => σ1 = mc_push σ v)) := by
  refine mv_C.ofV (cc := b_Machine_push) (nL := 3) (ret := (Option.none : Option Jvm.ClassFile.FieldType)) (by decide +kernel) rfl hi (Nat.le_of_ble_eq_true rfl) ?_
  intro p e s m below meth c B hNs hr hnm hno
  refine mv_aload_n (pc := 0) B d_Machine_push_0 rfl 0 rfl ?_
  refine mv_getR (pc := 1) (ci := 9) (C := R_Machine) (T := F_Machine) (N := 13) B 3 rfl rfl (by decide) i_Machine (B.2.2.2.1 _ k_445) rfl (hR.1 _ 3 _ rfl) d_Machine_push_1 ?_
  refine mv_aload_n (pc := 4) B d_Machine_push_4 rfl 0 rfl ?_
  refine mv_getI (pc := 5) (ci := 9) (C := R_Machine) (T := F_Machine) (N := 13) B 4 rfl rfl (by decide) i_Machine (B.2.2.2.1 _ k_446) rfl d_Machine_push_5 ?_
  refine mv_lload_n (pc := 8) B d_Machine_push_8 rfl 1 rfl ?_
  refine mv_last (pc := 9) B rfl (i32_in g0 g1) d_Machine_push_9 ?_
  refine mv_aload_n (pc := 10) B d_Machine_push_10 rfl 0 rfl ?_
  refine mv_dup (pc := 11) B d_Machine_push_11 rfl ?_
  refine mv_getI (pc := 12) (ci := 9) (C := R_Machine) (T := F_Machine) (N := 13) B 4 rfl rfl (by decide) i_Machine (B.2.2.2.1 _ k_446) rfl d_Machine_push_12 ?_
  refine mv_iconst (pc := 15) (v := 1) B d_Machine_push_15 (by decide) ?_
  refine mv_iadd (pc := 16) B d_Machine_push_16 ?_
  refine mv_putI (pc := 17) (ci := 9) (C := R_Machine) (T := F_Machine) (N := 13) B 4 rfl rfl (by decide) i_Machine t_Machine_ok n_Machine (B.2.2.2.1 _ k_446) rfl rfl rfl rfl d_Machine_push_17 ?_
  exact mv_vret (pc := 20) B hr d_Machine_push_20 (Nat.le_refl _) (Nat.le_refl _) ⟨rfl, rfl⟩
set_option maxHeartbeats 4000000 in
set_option maxRecDepth 100000 in
theorem c_Machine_push_b (l : Launch) {dA : FieldType → ClassId} {D : va_G} {al : Nat → Nat} {ext : mv_Sh} {sk sv : Nat → Nat} (hi : mv_inj (mg dA D al ext)) (σ : mv_H) (v : Int64) (hR : Rf 48 (mv_r σ)) (g0 : 0 ≤ (mv_i σ 64 4).toInt) (g1 : (mv_i σ 64 4).toInt < 1024) : mv_C l y_Machine_push (Cond.code y_Machine_push b_Machine_push 3 (Option.none : Option Jvm.ClassFile.FieldType) :: ma) ({ frames := 0, cells := 0, slots := 0, locals := 0 }) (mg dA D al ext) (mK sk sv) [.ref (al 64), .long v] σ (mv_Rv (fun σ1 => σ1 = mc_push σ v)) := by
  refine mv_C.ofV (cc := b_Machine_push) (nL := 3) (ret := (Option.none : Option Jvm.ClassFile.FieldType)) (by decide +kernel) rfl hi (Nat.le_of_ble_eq_true rfl) ?_
  intro p e s m below meth c B hNs hr hnm hno
  refine mv_aload_n (pc := 0) B d_Machine_push_0 rfl 0 rfl ?_
  refine mv_getR (pc := 1) (ci := 9) (C := R_Machine) (T := F_Machine) (N := 13) B 3 rfl rfl (by decide) i_Machine (B.2.2.2.1 _ k_445) rfl (hR.1 _ 3 _ rfl) d_Machine_push_1 ?_
  refine mv_aload_n (pc := 4) B d_Machine_push_4 rfl 0 rfl ?_
  refine mv_getI (pc := 5) (ci := 9) (C := R_Machine) (T := F_Machine) (N := 13) B 4 rfl rfl (by decide) i_Machine (B.2.2.2.1 _ k_446) rfl d_Machine_push_5 ?_
  refine mv_lload_n (pc := 8) B d_Machine_push_8 rfl 1 rfl ?_
  refine mv_last (pc := 9) B rfl (i32_in g0 g1) d_Machine_push_9 ?_
  refine mv_aload_n (pc := 10) B d_Machine_push_10 rfl 0 rfl ?_
  refine mv_dup (pc := 11) B d_Machine_push_11 rfl ?_
  refine mv_getI (pc := 12) (ci := 9) (C := R_Machine) (T := F_Machine) (N := 13) B 4 rfl rfl (by decide) i_Machine (B.2.2.2.1 _ k_446) rfl d_Machine_push_12 ?_
  refine mv_iconst (pc := 15) (v := 1) B d_Machine_push_15 (by decide) ?_
  refine mv_iadd (pc := 16) B d_Machine_push_16 ?_
  refine mv_putI (pc := 17) (ci := 9) (C := R_Machine) (T := F_Machine) (N := 13) B 4 rfl rfl (by decide) i_Machine t_Machine_ok n_Machine (B.2.2.2.1 _ k_446) rfl rfl rfl rfl d_Machine_push_17 ?_
  exact mv_vret (pc := 20) B hr d_Machine_push_20 (Nat.le_refl _) (Nat.le_refl _) ⟨rfl, rfl⟩
set_option maxHeartbeats 4000000 in
set_option maxRecDepth 100000 in
theorem c_Machine_push_c (l : Launch) {dA : FieldType → ClassId} {D : va_G} {al : Nat → Nat} {sk sv : Nat → Nat} (hi : mv_inj (mg dA D al me)) (σ : mv_H) (v : Int64) (hR : Rf 145 (mv_r σ)) (g0 : 0 ≤ (mv_i σ 64 4).toInt) (g1 : (mv_i σ 64 4).toInt < 1024) : mv_C l y_Machine_push (Cond.code y_Machine_push b_Machine_push 3 (Option.none : Option Jvm.ClassFile.FieldType) :: ma) ({ frames := 0, cells := 0, slots := 0, locals := 0 }) (mg dA D al me) (mK sk sv) [.ref (al 64), .long v] σ (mv_Rv (fun σ1 => σ1 = mc_push σ v)) := by
  refine mv_C.ofV (cc := b_Machine_push) (nL := 3) (ret := (Option.none : Option Jvm.ClassFile.FieldType)) (by decide +kernel) rfl hi (Nat.le_of_ble_eq_true rfl) ?_
  intro p e s m below meth c B hNs hr hnm hno
  refine mv_aload_n (pc := 0) B d_Machine_push_0 rfl 0 rfl ?_
  refine mv_getR (pc := 1) (ci := 9) (C := R_Machine) (T := F_Machine) (N := 13) B 3 rfl rfl (by decide) i_Machine (B.2.2.2.1 _ k_445) rfl (hR.1 _ 3 _ rfl) d_Machine_push_1 ?_
  refine mv_aload_n (pc := 4) B d_Machine_push_4 rfl 0 rfl ?_
  refine mv_getI (pc := 5) (ci := 9) (C := R_Machine) (T := F_Machine) (N := 13) B 4 rfl rfl (by decide) i_Machine (B.2.2.2.1 _ k_446) rfl d_Machine_push_5 ?_
  refine mv_lload_n (pc := 8) B d_Machine_push_8 rfl 1 rfl ?_
  refine mv_last (pc := 9) B rfl (i32_in g0 g1) d_Machine_push_9 ?_
  refine mv_aload_n (pc := 10) B d_Machine_push_10 rfl 0 rfl ?_
  refine mv_dup (pc := 11) B d_Machine_push_11 rfl ?_
  refine mv_getI (pc := 12) (ci := 9) (C := R_Machine) (T := F_Machine) (N := 13) B 4 rfl rfl (by decide) i_Machine (B.2.2.2.1 _ k_446) rfl d_Machine_push_12 ?_
  refine mv_iconst (pc := 15) (v := 1) B d_Machine_push_15 (by decide) ?_
  refine mv_iadd (pc := 16) B d_Machine_push_16 ?_
  refine mv_putI (pc := 17) (ci := 9) (C := R_Machine) (T := F_Machine) (N := 13) B 4 rfl rfl (by decide) i_Machine t_Machine_ok n_Machine (B.2.2.2.1 _ k_446) rfl rfl rfl rfl d_Machine_push_17 ?_
  exact mv_vret (pc := 20) B hr d_Machine_push_20 (Nat.le_refl _) (Nat.le_refl _) ⟨rfl, rfl⟩
def y_Machine_pop : MethodName := ⟨"MachineLoom$Machine", "pop", "()J"⟩
abbrev b_Machine_pop : ByteArray := prog_5_method_12_code
theorem kc_Machine_pop : Cond.code y_Machine_pop b_Machine_pop 1 (Option.some Jvm.ClassFile.FieldType.long) ∈ ma := ma_of (tb_7 _ (List.mem_of_getElem? (i := 155) rfl)) rfl
theorem d_Machine_pop_0 : decode b_Machine_pop 0 = .ok (.aload_n 0, 1) := by decide +kernel
theorem d_Machine_pop_1 : decode b_Machine_pop 1 = .ok (.dup, 1) := by decide +kernel
theorem d_Machine_pop_2 : decode b_Machine_pop 2 = .ok (.getfield 143, 3) := by decide +kernel
theorem d_Machine_pop_5 : decode b_Machine_pop 5 = .ok (.iconst 1, 1) := by decide +kernel
theorem d_Machine_pop_6 : decode b_Machine_pop 6 = .ok (.isub, 1) := by decide +kernel
theorem d_Machine_pop_7 : decode b_Machine_pop 7 = .ok (.putfield 143, 3) := by decide +kernel
theorem d_Machine_pop_10 : decode b_Machine_pop 10 = .ok (.aload_n 0, 1) := by decide +kernel
theorem d_Machine_pop_11 : decode b_Machine_pop 11 = .ok (.getfield 19, 3) := by decide +kernel
theorem d_Machine_pop_14 : decode b_Machine_pop 14 = .ok (.aload_n 0, 1) := by decide +kernel
theorem d_Machine_pop_15 : decode b_Machine_pop 15 = .ok (.getfield 143, 3) := by decide +kernel
theorem d_Machine_pop_18 : decode b_Machine_pop 18 = .ok (.laload, 1) := by decide +kernel
theorem d_Machine_pop_19 : decode b_Machine_pop 19 = .ok (.lreturn, 1) := by decide +kernel
set_option maxHeartbeats 4000000 in
set_option maxRecDepth 100000 in
theorem c_Machine_pop_a (l : Launch) {dA : FieldType → ClassId} {D : va_G} {al : Nat → Nat} {ext : mv_Sh} {sk sv : Nat → Nat} (hi : mv_inj (mg dA D al ext)) (σ : mv_H) (hR : Rf 32 (mv_r σ)) (g0 : 1 ≤ (mv_i σ 64 4).toInt) (g1 : (mv_i σ 64 4).toInt ≤ 1024) : mv_C l y_Machine_pop (Cond.code y_Machine_pop b_Machine_pop 1 (Option.some Jvm.ClassFile.FieldType.long) :: ma) ({ frames := 0, cells := 0, slots := 0, locals := 0 }) (mg dA D al ext) (mK sk sv) [.ref (al 64)] σ (mv_Rl (fun v σ1 => σ1 = mc_pop σ)) := by
  refine mv_C.ofV (cc := b_Machine_pop) (nL := 1) (ret := (Option.some Jvm.ClassFile.FieldType.long)) (by decide +kernel) rfl hi (Nat.le_of_ble_eq_true rfl) ?_
  intro p e s m below meth c B hNs hr hnm hno
  have g2 := sub_one g0
  refine mv_aload_n (pc := 0) B d_Machine_pop_0 rfl 0 rfl ?_
  refine mv_dup (pc := 1) B d_Machine_pop_1 rfl ?_
  refine mv_getI (pc := 2) (ci := 9) (C := R_Machine) (T := F_Machine) (N := 13) B 4 rfl rfl (by decide) i_Machine (B.2.2.2.1 _ k_446) rfl d_Machine_pop_2 ?_
  refine mv_iconst (pc := 5) (v := 1) B d_Machine_pop_5 (by decide) ?_
  refine mv_isub (pc := 6) B d_Machine_pop_6 ?_
  refine mv_putI (pc := 7) (ci := 9) (C := R_Machine) (T := F_Machine) (N := 13) B 4 rfl rfl (by decide) i_Machine t_Machine_ok n_Machine (B.2.2.2.1 _ k_446) rfl rfl rfl rfl d_Machine_pop_7 ?_
  refine mv_aload_n (pc := 10) B d_Machine_pop_10 rfl 0 rfl ?_
  refine mv_getR (pc := 11) (ci := 9) (C := R_Machine) (T := F_Machine) (N := 13) B 3 rfl rfl (by decide) i_Machine (B.2.2.2.1 _ k_445) rfl (hR.1 _ 3 _ rfl) d_Machine_pop_11 ?_
  refine mv_aload_n (pc := 14) B d_Machine_pop_14 rfl 0 rfl ?_
  refine mv_getI (pc := 15) (ci := 9) (C := R_Machine) (T := F_Machine) (N := 13) B 4 rfl rfl (by decide) i_Machine (B.2.2.2.1 _ k_446) rfl d_Machine_pop_15 ?_
  refine mv_lald (pc := 18) B rfl (i32_in (show 0 ≤ (mv_i σ 64 4 - 1).toInt by omega) (show (mv_i σ 64 4 - 1).toInt < 1024 by omega)) d_Machine_pop_18 ?_
  exact mv_lret (pc := 19) B hr d_Machine_pop_19 (Nat.le_refl _) (Nat.le_refl _) ⟨_, rfl, rfl⟩
set_option maxHeartbeats 4000000 in
set_option maxRecDepth 100000 in
theorem c_Machine_pop_b (l : Launch) {dA : FieldType → ClassId} {D : va_G} {al : Nat → Nat} {ext : mv_Sh} {sk sv : Nat → Nat} (hi : mv_inj (mg dA D al ext)) (σ : mv_H) (hR : Rf 48 (mv_r σ)) (g0 : 1 ≤ (mv_i σ 64 4).toInt) (g1 : (mv_i σ 64 4).toInt ≤ 1024) : mv_C l y_Machine_pop (Cond.code y_Machine_pop b_Machine_pop 1 (Option.some Jvm.ClassFile.FieldType.long) :: ma) ({ frames := 0, cells := 0, slots := 0, locals := 0 }) (mg dA D al ext) (mK sk sv) [.ref (al 64)] σ (mv_Rl (fun v σ1 => σ1 = mc_pop σ)) := by
  refine mv_C.ofV (cc := b_Machine_pop) (nL := 1) (ret := (Option.some Jvm.ClassFile.FieldType.long)) (by decide +kernel) rfl hi (Nat.le_of_ble_eq_true rfl) ?_
  intro p e s m below meth c B hNs hr hnm hno
  have g2 := sub_one g0
  refine mv_aload_n (pc := 0) B d_Machine_pop_0 rfl 0 rfl ?_
  refine mv_dup (pc := 1) B d_Machine_pop_1 rfl ?_
  refine mv_getI (pc := 2) (ci := 9) (C := R_Machine) (T := F_Machine) (N := 13) B 4 rfl rfl (by decide) i_Machine (B.2.2.2.1 _ k_446) rfl d_Machine_pop_2 ?_
  refine mv_iconst (pc := 5) (v := 1) B d_Machine_pop_5 (by decide) ?_
  refine mv_isub (pc := 6) B d_Machine_pop_6 ?_
  refine mv_putI (pc := 7) (ci := 9) (C := R_Machine) (T := F_Machine) (N := 13) B 4 rfl rfl (by decide) i_Machine t_Machine_ok n_Machine (B.2.2.2.1 _ k_446) rfl rfl rfl rfl d_Machine_pop_7 ?_
  refine mv_aload_n (pc := 10) B d_Machine_pop_10 rfl 0 rfl ?_
  refine mv_getR (pc := 11) (ci := 9) (C := R_Machine) (T := F_Machine) (N := 13) B 3 rfl rfl (by decide) i_Machine (B.2.2.2.1 _ k_445) rfl (hR.1 _ 3 _ rfl) d_Machine_pop_11 ?_
  refine mv_aload_n (pc := 14) B d_Machine_pop_14 rfl 0 rfl ?_
  refine mv_getI (pc := 15) (ci := 9) (C := R_Machine) (T := F_Machine) (N := 13) B 4 rfl rfl (by decide) i_Machine (B.2.2.2.1 _ k_446) rfl d_Machine_pop_15 ?_
  refine mv_lald (pc := 18) B rfl (i32_in (show 0 ≤ (mv_i σ 64 4 - 1).toInt by omega) (show (mv_i σ 64 4 - 1).toInt < 1024 by omega)) d_Machine_pop_18 ?_
  exact mv_lret (pc := 19) B hr d_Machine_pop_19 (Nat.le_refl _) (Nat.le_refl _) ⟨_, rfl, rfl⟩
set_option maxHeartbeats 4000000 in
set_option maxRecDepth 100000 in
theorem c_Machine_pop_c (l : Launch) {dA : FieldType → ClassId} {D : va_G} {al : Nat → Nat} {sk sv : Nat → Nat} (hi : mv_inj (mg dA D al me)) (σ : mv_H) (hR : Rf 145 (mv_r σ)) (g0 : 1 ≤ (mv_i σ 64 4).toInt) (g1 : (mv_i σ 64 4).toInt ≤ 1024) : mv_C l y_Machine_pop (Cond.code y_Machine_pop b_Machine_pop 1 (Option.some Jvm.ClassFile.FieldType.long) :: ma) ({ frames := 0, cells := 0, slots := 0, locals := 0 }) (mg dA D al me) (mK sk sv) [.ref (al 64)] σ (mv_Rl (fun v σ1 => σ1 = mc_pop σ)) := by
  refine mv_C.ofV (cc := b_Machine_pop) (nL := 1) (ret := (Option.some Jvm.ClassFile.FieldType.long)) (by decide +kernel) rfl hi (Nat.le_of_ble_eq_true rfl) ?_
  intro p e s m below meth c B hNs hr hnm hno
  have g2 := sub_one g0
  refine mv_aload_n (pc := 0) B d_Machine_pop_0 rfl 0 rfl ?_
  refine mv_dup (pc := 1) B d_Machine_pop_1 rfl ?_
  refine mv_getI (pc := 2) (ci := 9) (C := R_Machine) (T := F_Machine) (N := 13) B 4 rfl rfl (by decide) i_Machine (B.2.2.2.1 _ k_446) rfl d_Machine_pop_2 ?_
  refine mv_iconst (pc := 5) (v := 1) B d_Machine_pop_5 (by decide) ?_
  refine mv_isub (pc := 6) B d_Machine_pop_6 ?_
  refine mv_putI (pc := 7) (ci := 9) (C := R_Machine) (T := F_Machine) (N := 13) B 4 rfl rfl (by decide) i_Machine t_Machine_ok n_Machine (B.2.2.2.1 _ k_446) rfl rfl rfl rfl d_Machine_pop_7 ?_
  refine mv_aload_n (pc := 10) B d_Machine_pop_10 rfl 0 rfl ?_
  refine mv_getR (pc := 11) (ci := 9) (C := R_Machine) (T := F_Machine) (N := 13) B 3 rfl rfl (by decide) i_Machine (B.2.2.2.1 _ k_445) rfl (hR.1 _ 3 _ rfl) d_Machine_pop_11 ?_
  refine mv_aload_n (pc := 14) B d_Machine_pop_14 rfl 0 rfl ?_
  refine mv_getI (pc := 15) (ci := 9) (C := R_Machine) (T := F_Machine) (N := 13) B 4 rfl rfl (by decide) i_Machine (B.2.2.2.1 _ k_446) rfl d_Machine_pop_15 ?_
  refine mv_lald (pc := 18) B rfl (i32_in (show 0 ≤ (mv_i σ 64 4 - 1).toInt by omega) (show (mv_i σ 64 4 - 1).toInt < 1024 by omega)) d_Machine_pop_18 ?_
  exact mv_lret (pc := 19) B hr d_Machine_pop_19 (Nat.le_refl _) (Nat.le_refl _) ⟨_, rfl, rfl⟩
def y_Machine_put : MethodName := ⟨"MachineLoom$Machine", "put", "(IIJ)V"⟩
abbrev b_Machine_put : ByteArray := prog_5_method_3_code
theorem kc_Machine_put : Cond.code y_Machine_put b_Machine_put 5 (Option.none : Option Jvm.ClassFile.FieldType) ∈ ma := ma_of (tb_7 _ (List.mem_of_getElem? (i := 163) rfl)) rfl
theorem k_442 : (Jvm.Cond.fieldLink "MachineLoom$Machine" (10 : Nat) "MachineLoom$Machine" "values" "[J") ∈ ma := ma_of (tb_2 _ (List.mem_of_getElem? (i := 202) rfl)) rfl
theorem k_440 : (Jvm.Cond.fieldLink "MachineLoom$Machine" (29 : Nat) "MachineLoom$Machine" "program" "LMachineLoom$Program;") ∈ ma := ma_of (tb_2 _ (List.mem_of_getElem? (i := 200) rfl)) rfl
theorem k_327 : (Jvm.Cond.fieldLink "MachineLoom$Machine" (55 : Nat) "MachineLoom$Program" "firsts" "[I") ∈ ma := ma_of (tb_2 _ (List.mem_of_getElem? (i := 87) rfl)) rfl
theorem k_319 : (Jvm.Cond.fieldLink "MachineLoom$Machine" (58 : Nat) "MachineLoom$Program" "widths" "[I") ∈ ma := ma_of (tb_2 _ (List.mem_of_getElem? (i := 79) rfl)) rfl
theorem k_1604 : (Jvm.Cond.methodLink "MachineLoom$Machine" (61 : Nat) ({ cls := "MachineLoom$Bits", name := "mask", desc := "(I)J" } : Jvm.MethodName)) ∈ ma := ma_of (tb_7 _ (List.mem_of_getElem? (i := 164) rfl)) rfl
theorem k_331 : (Jvm.Cond.fieldLink "MachineLoom$Machine" (51 : Nat) "MachineLoom$Program" "zeros" "[Z") ∈ ma := ma_of (tb_2 _ (List.mem_of_getElem? (i := 91) rfl)) rfl
theorem d_Machine_put_0 : decode b_Machine_put 0 = .ok (.iload_n 2, 1) := by decide +kernel
theorem d_Machine_put_1 : decode b_Machine_put 1 = .ok (.ifCond .gt (15), 3) := by decide +kernel
theorem d_Machine_put_4 : decode b_Machine_put 4 = .ok (.aload_n 0, 1) := by decide +kernel
theorem d_Machine_put_5 : decode b_Machine_put 5 = .ok (.getfield 29, 3) := by decide +kernel
theorem d_Machine_put_8 : decode b_Machine_put 8 = .ok (.getfield 51, 3) := by decide +kernel
theorem d_Machine_put_11 : decode b_Machine_put 11 = .ok (.iload_n 1, 1) := by decide +kernel
theorem d_Machine_put_12 : decode b_Machine_put 12 = .ok (.baload, 1) := by decide +kernel
theorem d_Machine_put_13 : decode b_Machine_put 13 = .ok (.ifCond .ne (33), 3) := by decide +kernel
theorem d_Machine_put_16 : decode b_Machine_put 16 = .ok (.aload_n 0, 1) := by decide +kernel
theorem d_Machine_put_17 : decode b_Machine_put 17 = .ok (.getfield 10, 3) := by decide +kernel
theorem d_Machine_put_20 : decode b_Machine_put 20 = .ok (.aload_n 0, 1) := by decide +kernel
theorem d_Machine_put_21 : decode b_Machine_put 21 = .ok (.getfield 29, 3) := by decide +kernel
theorem d_Machine_put_24 : decode b_Machine_put 24 = .ok (.getfield 55, 3) := by decide +kernel
theorem d_Machine_put_27 : decode b_Machine_put 27 = .ok (.iload_n 1, 1) := by decide +kernel
theorem d_Machine_put_28 : decode b_Machine_put 28 = .ok (.iaload, 1) := by decide +kernel
theorem d_Machine_put_29 : decode b_Machine_put 29 = .ok (.iload_n 2, 1) := by decide +kernel
theorem d_Machine_put_30 : decode b_Machine_put 30 = .ok (.iadd, 1) := by decide +kernel
theorem d_Machine_put_31 : decode b_Machine_put 31 = .ok (.lload_n 3, 1) := by decide +kernel
theorem d_Machine_put_32 : decode b_Machine_put 32 = .ok (.aload_n 0, 1) := by decide +kernel
theorem d_Machine_put_33 : decode b_Machine_put 33 = .ok (.getfield 29, 3) := by decide +kernel
theorem d_Machine_put_36 : decode b_Machine_put 36 = .ok (.getfield 58, 3) := by decide +kernel
theorem d_Machine_put_39 : decode b_Machine_put 39 = .ok (.iload_n 1, 1) := by decide +kernel
theorem d_Machine_put_40 : decode b_Machine_put 40 = .ok (.iaload, 1) := by decide +kernel
theorem d_Machine_put_41 : decode b_Machine_put 41 = .ok (.invokestatic 61, 3) := by decide +kernel
theorem d_Machine_put_44 : decode b_Machine_put 44 = .ok (.land, 1) := by decide +kernel
theorem d_Machine_put_45 : decode b_Machine_put 45 = .ok (.lastore, 1) := by decide +kernel
theorem d_Machine_put_46 : decode b_Machine_put 46 = .ok (.return_, 1) := by decide +kernel
set_option maxHeartbeats 4000000 in
set_option maxRecDepth 100000 in
theorem c_Machine_put_a (l : Launch) {dA : FieldType → ClassId} {D : va_G} {al : Nat → Nat} {ext : mv_Sh} {sk sv : Nat → Nat} (hi : mv_inj (mg dA D al ext)) (σ : mv_H) (t i : Int32) (v : Int64) (hR : Rf 32 (mv_r σ)) (th sl : Nat) (hT : Th 32 σ th sl) (tn : Nat) (ht : t.toInt = tn) (htt : tn < th) (hi0 : 0 ≤ i.toInt) (hi1 : 0 ≤ (mv_a σ 35 tn).toInt) (hi2 : (mv_a σ 35 tn).toInt + i.toInt < 65600) : mv_C l y_Machine_put (Cond.code y_Machine_put b_Machine_put 5 (Option.none : Option Jvm.ClassFile.FieldType) :: ma) ({ frames := 1, cells := 0, slots := 0, locals := 20 }) (mg dA D al ext) (mK sk sv) [.ref (al 64), .int t, .int i, .long v] σ (mv_Rv (fun σ1 => Fr (fun _ _ => False) (fun _ => False) (fun o => o = 65) σ σ1)) := by
  refine mv_C.ofV (cc := b_Machine_put) (nL := 5) (ret := (Option.none : Option Jvm.ClassFile.FieldType)) (by decide +kernel) rfl hi (Nat.le_of_ble_eq_true rfl) ?_
  intro p e s m below meth c B hNs hr hnm hno
  have htz : t.toNatClampNeg = tn := by have := i32_cl (x := t) (by omega); omega
  have ht64 := hT.2.1
  have hf9 : (mv_a σ 35 t.toNatClampNeg).toInt = (mv_a σ 35 tn).toInt := by rw [htz]
  refine mv_iload_n (pc := 0) B d_Machine_put_0 rfl 2 rfl ?_
  refine mv_if_gt (pc := 1) (tgt := 16) B d_Machine_put_1 rfl (fun h1 => ?_) (fun h1 => ?_)
  · skip
    refine mv_aload_n (pc := 16) B d_Machine_put_16 rfl 0 rfl ?_
    refine mv_getR (pc := 17) (ci := 9) (C := R_Machine) (T := F_Machine) (N := 13) B 1 rfl rfl (by decide) i_Machine (B.2.2.2.1 _ k_442) rfl (hR.1 _ 1 _ rfl) d_Machine_put_17 ?_
    refine mv_aload_n (pc := 20) B d_Machine_put_20 rfl 0 rfl ?_
    refine mv_getR (pc := 21) (ci := 9) (C := R_Machine) (T := F_Machine) (N := 13) B 0 rfl rfl (by decide) i_Machine (B.2.2.2.1 _ k_440) rfl hR.2.2 d_Machine_put_21 ?_
    refine mv_getR (pc := 24) (ci := 7) (C := R_Program) (T := F_Program) (N := 19) B 4 rfl rfl (by decide) i_Program (B.2.2.2.1 _ k_327) rfl (hR.2.1 _ 4 35 rfl) d_Machine_put_24 ?_
    refine mv_iload_n (pc := 27) B d_Machine_put_27 rfl 1 rfl ?_
    refine mv_iald (pc := 28) B rfl (i32_in (by omega) (by omega)) d_Machine_put_28 ?_
    refine mv_iload_n (pc := 29) B d_Machine_put_29 rfl 2 rfl ?_
    refine mv_iadd (pc := 30) B d_Machine_put_30 ?_
    refine mv_topi (fun y30 ey30 => ?_)
    have fy30 := i32_addE ey30 (by (try simp only [Int32.reduceToInt]); omega) (by (try simp only [Int32.reduceToInt]); omega)
    try simp only [Int32.reduceToInt] at fy30
    refine mv_lload_n (pc := 31) B d_Machine_put_31 rfl 3 rfl ?_
    refine mv_aload_n (pc := 32) B d_Machine_put_32 rfl 0 rfl ?_
    refine mv_getR (pc := 33) (ci := 9) (C := R_Machine) (T := F_Machine) (N := 13) B 0 rfl rfl (by decide) i_Machine (B.2.2.2.1 _ k_440) rfl hR.2.2 d_Machine_put_33 ?_
    refine mv_getR (pc := 36) (ci := 7) (C := R_Program) (T := F_Program) (N := 19) B 2 rfl rfl (by decide) i_Program (B.2.2.2.1 _ k_319) rfl (hR.2.1 _ 2 33 rfl) d_Machine_put_36 ?_
    refine mv_iload_n (pc := 39) B d_Machine_put_39 rfl 1 rfl ?_
    refine mv_iald (pc := 40) B rfl (i32_in (by omega) (by omega)) d_Machine_put_40 ?_
    refine mv_callSl (pc := 41) (n := 1) B (mK_ok sk sv) hNs (c_Bits_mask l hi _ _) rfl (ma_goodc kc_Bits_mask) (B.2.2.2.1 _ k_1604) (B.2.2.2.1 _ k_1437) (B.2.2.2.1 _ k_33) ⟨by decide +kernel, by decide +kernel, by decide +kernel⟩ rfl d_Machine_put_41 rfl (Nat.le_of_ble_eq_true rfl) ⟨by decide, by decide⟩ ⟨by decide, by decide⟩ ⟨by decide, by decide⟩ (mv_noH hno _) (fun v41 σ41 h41 => ?_)
    subst h41
    refine mv_land (pc := 44) B d_Machine_put_44 ?_
    refine mv_last (pc := 45) B rfl (i32_in (by omega) (by omega)) d_Machine_put_45 ?_
    exact mv_vret (pc := 46) B hr d_Machine_put_46 (Nat.le_refl _) (Nat.le_refl _) ⟨rfl, by first | exact Fr.rf | exact Fr.rf.sb rfl⟩
  · skip
    refine mv_aload_n (pc := 4) B d_Machine_put_4 rfl 0 rfl ?_
    refine mv_getR (pc := 5) (ci := 9) (C := R_Machine) (T := F_Machine) (N := 13) B 0 rfl rfl (by decide) i_Machine (B.2.2.2.1 _ k_440) rfl hR.2.2 d_Machine_put_5 ?_
    refine mv_getR (pc := 8) (ci := 7) (C := R_Program) (T := F_Program) (N := 19) B 5 rfl rfl (by decide) i_Program (B.2.2.2.1 _ k_331) rfl (hR.2.1 _ 5 36 rfl) d_Machine_put_8 ?_
    refine mv_iload_n (pc := 11) B d_Machine_put_11 rfl 1 rfl ?_
    refine mv_zald (pc := 12) B rfl (i32_in (by omega) (by omega)) d_Machine_put_12 ?_
    refine mv_if_ne (pc := 13) (tgt := 46) B d_Machine_put_13 rfl (fun h13 => ?_) (fun h13 => ?_)
    · skip
      exact mv_vret (pc := 46) B hr d_Machine_put_46 (Nat.le_refl _) (Nat.le_refl _) ⟨rfl, by first | exact Fr.rf | exact Fr.rf.sb rfl⟩
    · skip
      refine mv_aload_n (pc := 16) B d_Machine_put_16 rfl 0 rfl ?_
      refine mv_getR (pc := 17) (ci := 9) (C := R_Machine) (T := F_Machine) (N := 13) B 1 rfl rfl (by decide) i_Machine (B.2.2.2.1 _ k_442) rfl (hR.1 _ 1 _ rfl) d_Machine_put_17 ?_
      refine mv_aload_n (pc := 20) B d_Machine_put_20 rfl 0 rfl ?_
      refine mv_getR (pc := 21) (ci := 9) (C := R_Machine) (T := F_Machine) (N := 13) B 0 rfl rfl (by decide) i_Machine (B.2.2.2.1 _ k_440) rfl hR.2.2 d_Machine_put_21 ?_
      refine mv_getR (pc := 24) (ci := 7) (C := R_Program) (T := F_Program) (N := 19) B 4 rfl rfl (by decide) i_Program (B.2.2.2.1 _ k_327) rfl (hR.2.1 _ 4 35 rfl) d_Machine_put_24 ?_
      refine mv_iload_n (pc := 27) B d_Machine_put_27 rfl 1 rfl ?_
      refine mv_iald (pc := 28) B rfl (i32_in (by omega) (by omega)) d_Machine_put_28 ?_
      refine mv_iload_n (pc := 29) B d_Machine_put_29 rfl 2 rfl ?_
      refine mv_iadd (pc := 30) B d_Machine_put_30 ?_
      refine mv_topi (fun y30 ey30 => ?_)
      have fy30 := i32_addE ey30 (by (try simp only [Int32.reduceToInt]); omega) (by (try simp only [Int32.reduceToInt]); omega)
      try simp only [Int32.reduceToInt] at fy30
      refine mv_lload_n (pc := 31) B d_Machine_put_31 rfl 3 rfl ?_
      refine mv_aload_n (pc := 32) B d_Machine_put_32 rfl 0 rfl ?_
      refine mv_getR (pc := 33) (ci := 9) (C := R_Machine) (T := F_Machine) (N := 13) B 0 rfl rfl (by decide) i_Machine (B.2.2.2.1 _ k_440) rfl hR.2.2 d_Machine_put_33 ?_
      refine mv_getR (pc := 36) (ci := 7) (C := R_Program) (T := F_Program) (N := 19) B 2 rfl rfl (by decide) i_Program (B.2.2.2.1 _ k_319) rfl (hR.2.1 _ 2 33 rfl) d_Machine_put_36 ?_
      refine mv_iload_n (pc := 39) B d_Machine_put_39 rfl 1 rfl ?_
      refine mv_iald (pc := 40) B rfl (i32_in (by omega) (by omega)) d_Machine_put_40 ?_
      refine mv_callSl (pc := 41) (n := 1) B (mK_ok sk sv) hNs (c_Bits_mask l hi _ _) rfl (ma_goodc kc_Bits_mask) (B.2.2.2.1 _ k_1604) (B.2.2.2.1 _ k_1437) (B.2.2.2.1 _ k_33) ⟨by decide +kernel, by decide +kernel, by decide +kernel⟩ rfl d_Machine_put_41 rfl (Nat.le_of_ble_eq_true rfl) ⟨by decide, by decide⟩ ⟨by decide, by decide⟩ ⟨by decide, by decide⟩ (mv_noH hno _) (fun v41 σ41 h41 => ?_)
      subst h41
      refine mv_land (pc := 44) B d_Machine_put_44 ?_
      refine mv_last (pc := 45) B rfl (i32_in (by omega) (by omega)) d_Machine_put_45 ?_
      exact mv_vret (pc := 46) B hr d_Machine_put_46 (Nat.le_refl _) (Nat.le_refl _) ⟨rfl, by first | exact Fr.rf | exact Fr.rf.sb rfl⟩
set_option maxHeartbeats 4000000 in
set_option maxRecDepth 100000 in
theorem c_Machine_put_b (l : Launch) {dA : FieldType → ClassId} {D : va_G} {al : Nat → Nat} {ext : mv_Sh} {sk sv : Nat → Nat} (hi : mv_inj (mg dA D al ext)) (σ : mv_H) (t i : Int32) (v : Int64) (hR : Rf 48 (mv_r σ)) (th sl : Nat) (hT : Th 48 σ th sl) (tn : Nat) (ht : t.toInt = tn) (htt : tn < th) (hi0 : 0 ≤ i.toInt) (hi1 : 0 ≤ (mv_a σ 51 tn).toInt) (hi2 : (mv_a σ 51 tn).toInt + i.toInt < 65600) : mv_C l y_Machine_put (Cond.code y_Machine_put b_Machine_put 5 (Option.none : Option Jvm.ClassFile.FieldType) :: ma) ({ frames := 1, cells := 0, slots := 0, locals := 20 }) (mg dA D al ext) (mK sk sv) [.ref (al 64), .int t, .int i, .long v] σ (mv_Rv (fun σ1 => Fr (fun _ _ => False) (fun _ => False) (fun o => o = 65) σ σ1)) := by
  refine mv_C.ofV (cc := b_Machine_put) (nL := 5) (ret := (Option.none : Option Jvm.ClassFile.FieldType)) (by decide +kernel) rfl hi (Nat.le_of_ble_eq_true rfl) ?_
  intro p e s m below meth c B hNs hr hnm hno
  have htz : t.toNatClampNeg = tn := by have := i32_cl (x := t) (by omega); omega
  have ht64 := hT.2.1
  have hf9 : (mv_a σ 51 t.toNatClampNeg).toInt = (mv_a σ 51 tn).toInt := by rw [htz]
  refine mv_iload_n (pc := 0) B d_Machine_put_0 rfl 2 rfl ?_
  refine mv_if_gt (pc := 1) (tgt := 16) B d_Machine_put_1 rfl (fun h1 => ?_) (fun h1 => ?_)
  · skip
    refine mv_aload_n (pc := 16) B d_Machine_put_16 rfl 0 rfl ?_
    refine mv_getR (pc := 17) (ci := 9) (C := R_Machine) (T := F_Machine) (N := 13) B 1 rfl rfl (by decide) i_Machine (B.2.2.2.1 _ k_442) rfl (hR.1 _ 1 _ rfl) d_Machine_put_17 ?_
    refine mv_aload_n (pc := 20) B d_Machine_put_20 rfl 0 rfl ?_
    refine mv_getR (pc := 21) (ci := 9) (C := R_Machine) (T := F_Machine) (N := 13) B 0 rfl rfl (by decide) i_Machine (B.2.2.2.1 _ k_440) rfl hR.2.2 d_Machine_put_21 ?_
    refine mv_getR (pc := 24) (ci := 7) (C := R_Program) (T := F_Program) (N := 19) B 4 rfl rfl (by decide) i_Program (B.2.2.2.1 _ k_327) rfl (hR.2.1 _ 4 51 rfl) d_Machine_put_24 ?_
    refine mv_iload_n (pc := 27) B d_Machine_put_27 rfl 1 rfl ?_
    refine mv_iald (pc := 28) B rfl (i32_in (by omega) (by omega)) d_Machine_put_28 ?_
    refine mv_iload_n (pc := 29) B d_Machine_put_29 rfl 2 rfl ?_
    refine mv_iadd (pc := 30) B d_Machine_put_30 ?_
    refine mv_topi (fun y30 ey30 => ?_)
    have fy30 := i32_addE ey30 (by (try simp only [Int32.reduceToInt]); omega) (by (try simp only [Int32.reduceToInt]); omega)
    try simp only [Int32.reduceToInt] at fy30
    refine mv_lload_n (pc := 31) B d_Machine_put_31 rfl 3 rfl ?_
    refine mv_aload_n (pc := 32) B d_Machine_put_32 rfl 0 rfl ?_
    refine mv_getR (pc := 33) (ci := 9) (C := R_Machine) (T := F_Machine) (N := 13) B 0 rfl rfl (by decide) i_Machine (B.2.2.2.1 _ k_440) rfl hR.2.2 d_Machine_put_33 ?_
    refine mv_getR (pc := 36) (ci := 7) (C := R_Program) (T := F_Program) (N := 19) B 2 rfl rfl (by decide) i_Program (B.2.2.2.1 _ k_319) rfl (hR.2.1 _ 2 49 rfl) d_Machine_put_36 ?_
    refine mv_iload_n (pc := 39) B d_Machine_put_39 rfl 1 rfl ?_
    refine mv_iald (pc := 40) B rfl (i32_in (by omega) (by omega)) d_Machine_put_40 ?_
    refine mv_callSl (pc := 41) (n := 1) B (mK_ok sk sv) hNs (c_Bits_mask l hi _ _) rfl (ma_goodc kc_Bits_mask) (B.2.2.2.1 _ k_1604) (B.2.2.2.1 _ k_1437) (B.2.2.2.1 _ k_33) ⟨by decide +kernel, by decide +kernel, by decide +kernel⟩ rfl d_Machine_put_41 rfl (Nat.le_of_ble_eq_true rfl) ⟨by decide, by decide⟩ ⟨by decide, by decide⟩ ⟨by decide, by decide⟩ (mv_noH hno _) (fun v41 σ41 h41 => ?_)
    subst h41
    refine mv_land (pc := 44) B d_Machine_put_44 ?_
    refine mv_last (pc := 45) B rfl (i32_in (by omega) (by omega)) d_Machine_put_45 ?_
    exact mv_vret (pc := 46) B hr d_Machine_put_46 (Nat.le_refl _) (Nat.le_refl _) ⟨rfl, by first | exact Fr.rf | exact Fr.rf.sb rfl⟩
  · skip
    refine mv_aload_n (pc := 4) B d_Machine_put_4 rfl 0 rfl ?_
    refine mv_getR (pc := 5) (ci := 9) (C := R_Machine) (T := F_Machine) (N := 13) B 0 rfl rfl (by decide) i_Machine (B.2.2.2.1 _ k_440) rfl hR.2.2 d_Machine_put_5 ?_
    refine mv_getR (pc := 8) (ci := 7) (C := R_Program) (T := F_Program) (N := 19) B 5 rfl rfl (by decide) i_Program (B.2.2.2.1 _ k_331) rfl (hR.2.1 _ 5 52 rfl) d_Machine_put_8 ?_
    refine mv_iload_n (pc := 11) B d_Machine_put_11 rfl 1 rfl ?_
    refine mv_zald (pc := 12) B rfl (i32_in (by omega) (by omega)) d_Machine_put_12 ?_
    refine mv_if_ne (pc := 13) (tgt := 46) B d_Machine_put_13 rfl (fun h13 => ?_) (fun h13 => ?_)
    · skip
      exact mv_vret (pc := 46) B hr d_Machine_put_46 (Nat.le_refl _) (Nat.le_refl _) ⟨rfl, by first | exact Fr.rf | exact Fr.rf.sb rfl⟩
    · skip
      refine mv_aload_n (pc := 16) B d_Machine_put_16 rfl 0 rfl ?_
      refine mv_getR (pc := 17) (ci := 9) (C := R_Machine) (T := F_Machine) (N := 13) B 1 rfl rfl (by decide) i_Machine (B.2.2.2.1 _ k_442) rfl (hR.1 _ 1 _ rfl) d_Machine_put_17 ?_
      refine mv_aload_n (pc := 20) B d_Machine_put_20 rfl 0 rfl ?_
      refine mv_getR (pc := 21) (ci := 9) (C := R_Machine) (T := F_Machine) (N := 13) B 0 rfl rfl (by decide) i_Machine (B.2.2.2.1 _ k_440) rfl hR.2.2 d_Machine_put_21 ?_
      refine mv_getR (pc := 24) (ci := 7) (C := R_Program) (T := F_Program) (N := 19) B 4 rfl rfl (by decide) i_Program (B.2.2.2.1 _ k_327) rfl (hR.2.1 _ 4 51 rfl) d_Machine_put_24 ?_
      refine mv_iload_n (pc := 27) B d_Machine_put_27 rfl 1 rfl ?_
      refine mv_iald (pc := 28) B rfl (i32_in (by omega) (by omega)) d_Machine_put_28 ?_
      refine mv_iload_n (pc := 29) B d_Machine_put_29 rfl 2 rfl ?_
      refine mv_iadd (pc := 30) B d_Machine_put_30 ?_
      refine mv_topi (fun y30 ey30 => ?_)
      have fy30 := i32_addE ey30 (by (try simp only [Int32.reduceToInt]); omega) (by (try simp only [Int32.reduceToInt]); omega)
      try simp only [Int32.reduceToInt] at fy30
      refine mv_lload_n (pc := 31) B d_Machine_put_31 rfl 3 rfl ?_
      refine mv_aload_n (pc := 32) B d_Machine_put_32 rfl 0 rfl ?_
      refine mv_getR (pc := 33) (ci := 9) (C := R_Machine) (T := F_Machine) (N := 13) B 0 rfl rfl (by decide) i_Machine (B.2.2.2.1 _ k_440) rfl hR.2.2 d_Machine_put_33 ?_
      refine mv_getR (pc := 36) (ci := 7) (C := R_Program) (T := F_Program) (N := 19) B 2 rfl rfl (by decide) i_Program (B.2.2.2.1 _ k_319) rfl (hR.2.1 _ 2 49 rfl) d_Machine_put_36 ?_
      refine mv_iload_n (pc := 39) B d_Machine_put_39 rfl 1 rfl ?_
      refine mv_iald (pc := 40) B rfl (i32_in (by omega) (by omega)) d_Machine_put_40 ?_
      refine mv_callSl (pc := 41) (n := 1) B (mK_ok sk sv) hNs (c_Bits_mask l hi _ _) rfl (ma_goodc kc_Bits_mask) (B.2.2.2.1 _ k_1604) (B.2.2.2.1 _ k_1437) (B.2.2.2.1 _ k_33) ⟨by decide +kernel, by decide +kernel, by decide +kernel⟩ rfl d_Machine_put_41 rfl (Nat.le_of_ble_eq_true rfl) ⟨by decide, by decide⟩ ⟨by decide, by decide⟩ ⟨by decide, by decide⟩ (mv_noH hno _) (fun v41 σ41 h41 => ?_)
      subst h41
      refine mv_land (pc := 44) B d_Machine_put_44 ?_
      refine mv_last (pc := 45) B rfl (i32_in (by omega) (by omega)) d_Machine_put_45 ?_
      exact mv_vret (pc := 46) B hr d_Machine_put_46 (Nat.le_refl _) (Nat.le_refl _) ⟨rfl, by first | exact Fr.rf | exact Fr.rf.sb rfl⟩
set_option maxHeartbeats 4000000 in
set_option maxRecDepth 100000 in
theorem c_Machine_put_c (l : Launch) {dA : FieldType → ClassId} {D : va_G} {al : Nat → Nat} {sk sv : Nat → Nat} (hi : mv_inj (mg dA D al me)) (σ : mv_H) (t i : Int32) (v : Int64) (hR : Rf 145 (mv_r σ)) (th sl : Nat) (hT : Th 145 σ th sl) (tn : Nat) (ht : t.toInt = tn) (htt : tn < th) (hi0 : 0 ≤ i.toInt) (hi1 : 0 ≤ (mv_a σ 148 tn).toInt) (hi2 : (mv_a σ 148 tn).toInt + i.toInt < 65600) : mv_C l y_Machine_put (Cond.code y_Machine_put b_Machine_put 5 (Option.none : Option Jvm.ClassFile.FieldType) :: ma) ({ frames := 1, cells := 0, slots := 0, locals := 20 }) (mg dA D al me) (mK sk sv) [.ref (al 64), .int t, .int i, .long v] σ (mv_Rv (fun σ1 => Fr (fun _ _ => False) (fun _ => False) (fun o => o = 65) σ σ1)) := by
  refine mv_C.ofV (cc := b_Machine_put) (nL := 5) (ret := (Option.none : Option Jvm.ClassFile.FieldType)) (by decide +kernel) rfl hi (Nat.le_of_ble_eq_true rfl) ?_
  intro p e s m below meth c B hNs hr hnm hno
  have htz : t.toNatClampNeg = tn := by have := i32_cl (x := t) (by omega); omega
  have ht64 := hT.2.1
  have hf9 : (mv_a σ 148 t.toNatClampNeg).toInt = (mv_a σ 148 tn).toInt := by rw [htz]
  refine mv_iload_n (pc := 0) B d_Machine_put_0 rfl 2 rfl ?_
  refine mv_if_gt (pc := 1) (tgt := 16) B d_Machine_put_1 rfl (fun h1 => ?_) (fun h1 => ?_)
  · skip
    refine mv_aload_n (pc := 16) B d_Machine_put_16 rfl 0 rfl ?_
    refine mv_getR (pc := 17) (ci := 9) (C := R_Machine) (T := F_Machine) (N := 13) B 1 rfl rfl (by decide) i_Machine (B.2.2.2.1 _ k_442) rfl (hR.1 _ 1 _ rfl) d_Machine_put_17 ?_
    refine mv_aload_n (pc := 20) B d_Machine_put_20 rfl 0 rfl ?_
    refine mv_getR (pc := 21) (ci := 9) (C := R_Machine) (T := F_Machine) (N := 13) B 0 rfl rfl (by decide) i_Machine (B.2.2.2.1 _ k_440) rfl hR.2.2 d_Machine_put_21 ?_
    refine mv_getR (pc := 24) (ci := 7) (C := R_Program) (T := F_Program) (N := 19) B 4 rfl rfl (by decide) i_Program (B.2.2.2.1 _ k_327) rfl (hR.2.1 _ 4 148 rfl) d_Machine_put_24 ?_
    refine mv_iload_n (pc := 27) B d_Machine_put_27 rfl 1 rfl ?_
    refine mv_iald (pc := 28) B rfl (i32_in (by omega) (by omega)) d_Machine_put_28 ?_
    refine mv_iload_n (pc := 29) B d_Machine_put_29 rfl 2 rfl ?_
    refine mv_iadd (pc := 30) B d_Machine_put_30 ?_
    refine mv_topi (fun y30 ey30 => ?_)
    have fy30 := i32_addE ey30 (by (try simp only [Int32.reduceToInt]); omega) (by (try simp only [Int32.reduceToInt]); omega)
    try simp only [Int32.reduceToInt] at fy30
    refine mv_lload_n (pc := 31) B d_Machine_put_31 rfl 3 rfl ?_
    refine mv_aload_n (pc := 32) B d_Machine_put_32 rfl 0 rfl ?_
    refine mv_getR (pc := 33) (ci := 9) (C := R_Machine) (T := F_Machine) (N := 13) B 0 rfl rfl (by decide) i_Machine (B.2.2.2.1 _ k_440) rfl hR.2.2 d_Machine_put_33 ?_
    refine mv_getR (pc := 36) (ci := 7) (C := R_Program) (T := F_Program) (N := 19) B 2 rfl rfl (by decide) i_Program (B.2.2.2.1 _ k_319) rfl (hR.2.1 _ 2 146 rfl) d_Machine_put_36 ?_
    refine mv_iload_n (pc := 39) B d_Machine_put_39 rfl 1 rfl ?_
    refine mv_iald (pc := 40) B rfl (i32_in (by omega) (by omega)) d_Machine_put_40 ?_
    refine mv_callSl (pc := 41) (n := 1) B (mK_ok sk sv) hNs (c_Bits_mask l hi _ _) rfl (ma_goodc kc_Bits_mask) (B.2.2.2.1 _ k_1604) (B.2.2.2.1 _ k_1437) (B.2.2.2.1 _ k_33) ⟨by decide +kernel, by decide +kernel, by decide +kernel⟩ rfl d_Machine_put_41 rfl (Nat.le_of_ble_eq_true rfl) ⟨by decide, by decide⟩ ⟨by decide, by decide⟩ ⟨by decide, by decide⟩ (mv_noH hno _) (fun v41 σ41 h41 => ?_)
    subst h41
    refine mv_land (pc := 44) B d_Machine_put_44 ?_
    refine mv_last (pc := 45) B rfl (i32_in (by omega) (by omega)) d_Machine_put_45 ?_
    exact mv_vret (pc := 46) B hr d_Machine_put_46 (Nat.le_refl _) (Nat.le_refl _) ⟨rfl, by first | exact Fr.rf | exact Fr.rf.sb rfl⟩
  · skip
    refine mv_aload_n (pc := 4) B d_Machine_put_4 rfl 0 rfl ?_
    refine mv_getR (pc := 5) (ci := 9) (C := R_Machine) (T := F_Machine) (N := 13) B 0 rfl rfl (by decide) i_Machine (B.2.2.2.1 _ k_440) rfl hR.2.2 d_Machine_put_5 ?_
    refine mv_getR (pc := 8) (ci := 7) (C := R_Program) (T := F_Program) (N := 19) B 5 rfl rfl (by decide) i_Program (B.2.2.2.1 _ k_331) rfl (hR.2.1 _ 5 149 rfl) d_Machine_put_8 ?_
    refine mv_iload_n (pc := 11) B d_Machine_put_11 rfl 1 rfl ?_
    refine mv_zald (pc := 12) B rfl (i32_in (by omega) (by omega)) d_Machine_put_12 ?_
    refine mv_if_ne (pc := 13) (tgt := 46) B d_Machine_put_13 rfl (fun h13 => ?_) (fun h13 => ?_)
    · skip
      exact mv_vret (pc := 46) B hr d_Machine_put_46 (Nat.le_refl _) (Nat.le_refl _) ⟨rfl, by first | exact Fr.rf | exact Fr.rf.sb rfl⟩
    · skip
      refine mv_aload_n (pc := 16) B d_Machine_put_16 rfl 0 rfl ?_
      refine mv_getR (pc := 17) (ci := 9) (C := R_Machine) (T := F_Machine) (N := 13) B 1 rfl rfl (by decide) i_Machine (B.2.2.2.1 _ k_442) rfl (hR.1 _ 1 _ rfl) d_Machine_put_17 ?_
      refine mv_aload_n (pc := 20) B d_Machine_put_20 rfl 0 rfl ?_
      refine mv_getR (pc := 21) (ci := 9) (C := R_Machine) (T := F_Machine) (N := 13) B 0 rfl rfl (by decide) i_Machine (B.2.2.2.1 _ k_440) rfl hR.2.2 d_Machine_put_21 ?_
      refine mv_getR (pc := 24) (ci := 7) (C := R_Program) (T := F_Program) (N := 19) B 4 rfl rfl (by decide) i_Program (B.2.2.2.1 _ k_327) rfl (hR.2.1 _ 4 148 rfl) d_Machine_put_24 ?_
      refine mv_iload_n (pc := 27) B d_Machine_put_27 rfl 1 rfl ?_
      refine mv_iald (pc := 28) B rfl (i32_in (by omega) (by omega)) d_Machine_put_28 ?_
      refine mv_iload_n (pc := 29) B d_Machine_put_29 rfl 2 rfl ?_
      refine mv_iadd (pc := 30) B d_Machine_put_30 ?_
      refine mv_topi (fun y30 ey30 => ?_)
      have fy30 := i32_addE ey30 (by (try simp only [Int32.reduceToInt]); omega) (by (try simp only [Int32.reduceToInt]); omega)
      try simp only [Int32.reduceToInt] at fy30
      refine mv_lload_n (pc := 31) B d_Machine_put_31 rfl 3 rfl ?_
      refine mv_aload_n (pc := 32) B d_Machine_put_32 rfl 0 rfl ?_
      refine mv_getR (pc := 33) (ci := 9) (C := R_Machine) (T := F_Machine) (N := 13) B 0 rfl rfl (by decide) i_Machine (B.2.2.2.1 _ k_440) rfl hR.2.2 d_Machine_put_33 ?_
      refine mv_getR (pc := 36) (ci := 7) (C := R_Program) (T := F_Program) (N := 19) B 2 rfl rfl (by decide) i_Program (B.2.2.2.1 _ k_319) rfl (hR.2.1 _ 2 146 rfl) d_Machine_put_36 ?_
      refine mv_iload_n (pc := 39) B d_Machine_put_39 rfl 1 rfl ?_
      refine mv_iald (pc := 40) B rfl (i32_in (by omega) (by omega)) d_Machine_put_40 ?_
      refine mv_callSl (pc := 41) (n := 1) B (mK_ok sk sv) hNs (c_Bits_mask l hi _ _) rfl (ma_goodc kc_Bits_mask) (B.2.2.2.1 _ k_1604) (B.2.2.2.1 _ k_1437) (B.2.2.2.1 _ k_33) ⟨by decide +kernel, by decide +kernel, by decide +kernel⟩ rfl d_Machine_put_41 rfl (Nat.le_of_ble_eq_true rfl) ⟨by decide, by decide⟩ ⟨by decide, by decide⟩ ⟨by decide, by decide⟩ (mv_noH hno _) (fun v41 σ41 h41 => ?_)
      subst h41
      refine mv_land (pc := 44) B d_Machine_put_44 ?_
      refine mv_last (pc := 45) B rfl (i32_in (by omega) (by omega)) d_Machine_put_45 ?_
      exact mv_vret (pc := 46) B hr d_Machine_put_46 (Nat.le_refl _) (Nat.le_refl _) ⟨rfl, by first | exact Fr.rf | exact Fr.rf.sb rfl⟩
def y_Machine_assign : MethodName := ⟨"MachineLoom$Machine", "assign", "(IIJ)V"⟩
abbrev b_Machine_assign : ByteArray := prog_5_method_14_code
theorem kc_Machine_assign : Cond.code y_Machine_assign b_Machine_assign 6 (Option.none : Option Jvm.ClassFile.FieldType) ∈ ma := ma_of (tb_7 _ (List.mem_of_getElem? (i := 159) rfl)) rfl
theorem k_447 : (Jvm.Cond.fieldLink "MachineLoom$Machine" (22 : Nat) "MachineLoom$Machine" "undoSlots" "[I") ∈ ma := ma_of (tb_2 _ (List.mem_of_getElem? (i := 207) rfl)) rfl
theorem k_449 : (Jvm.Cond.fieldLink "MachineLoom$Machine" (93 : Nat) "MachineLoom$Machine" "undos" "I") ∈ ma := ma_of (tb_2 _ (List.mem_of_getElem? (i := 209) rfl)) rfl
theorem k_448 : (Jvm.Cond.fieldLink "MachineLoom$Machine" (26 : Nat) "MachineLoom$Machine" "undoValues" "[J") ∈ ma := ma_of (tb_2 _ (List.mem_of_getElem? (i := 208) rfl)) rfl
theorem k_1600 : (Jvm.Cond.methodLink "MachineLoom$Machine" (139 : Nat) ({ cls := "MachineLoom$Machine", name := "put", desc := "(IIJ)V" } : Jvm.MethodName)) ∈ ma := ma_of (tb_7 _ (List.mem_of_getElem? (i := 160) rfl)) rfl
theorem k_11 : (Jvm.Cond.initialized "MachineLoom$Machine") ∈ ma := ma_of (tb_1 _ (List.mem_of_getElem? (i := 11) rfl)) rfl
theorem k_1601 : (Jvm.Cond.instanceMethod ({ cls := "MachineLoom$Machine", name := "put", desc := "(IIJ)V" } : Jvm.MethodName)) ∈ ma := ma_of (tb_7 _ (List.mem_of_getElem? (i := 161) rfl)) rfl
theorem k_1602 : (Jvm.Cond.selects "MachineLoom$Machine" ({ cls := "MachineLoom$Machine", name := "put", desc := "(IIJ)V" } : Jvm.MethodName) ({ cls := "MachineLoom$Machine", name := "put", desc := "(IIJ)V" } : Jvm.MethodName)) ∈ ma := ma_of (tb_7 _ (List.mem_of_getElem? (i := 162) rfl)) rfl
theorem d_Machine_assign_0 : decode b_Machine_assign 0 = .ok (.aload_n 0, 1) := by decide +kernel
theorem d_Machine_assign_1 : decode b_Machine_assign 1 = .ok (.getfield 29, 3) := by decide +kernel
theorem d_Machine_assign_4 : decode b_Machine_assign 4 = .ok (.getfield 55, 3) := by decide +kernel
theorem d_Machine_assign_7 : decode b_Machine_assign 7 = .ok (.iload_n 1, 1) := by decide +kernel
theorem d_Machine_assign_8 : decode b_Machine_assign 8 = .ok (.iaload, 1) := by decide +kernel
theorem d_Machine_assign_9 : decode b_Machine_assign 9 = .ok (.iload_n 2, 1) := by decide +kernel
theorem d_Machine_assign_10 : decode b_Machine_assign 10 = .ok (.iadd, 1) := by decide +kernel
theorem d_Machine_assign_11 : decode b_Machine_assign 11 = .ok (.istore 5, 2) := by decide +kernel
theorem d_Machine_assign_13 : decode b_Machine_assign 13 = .ok (.aload_n 0, 1) := by decide +kernel
theorem d_Machine_assign_14 : decode b_Machine_assign 14 = .ok (.getfield 22, 3) := by decide +kernel
theorem d_Machine_assign_17 : decode b_Machine_assign 17 = .ok (.aload_n 0, 1) := by decide +kernel
theorem d_Machine_assign_18 : decode b_Machine_assign 18 = .ok (.getfield 93, 3) := by decide +kernel
theorem d_Machine_assign_21 : decode b_Machine_assign 21 = .ok (.iload 5, 2) := by decide +kernel
theorem d_Machine_assign_23 : decode b_Machine_assign 23 = .ok (.iastore, 1) := by decide +kernel
theorem d_Machine_assign_24 : decode b_Machine_assign 24 = .ok (.aload_n 0, 1) := by decide +kernel
theorem d_Machine_assign_25 : decode b_Machine_assign 25 = .ok (.getfield 26, 3) := by decide +kernel
theorem d_Machine_assign_28 : decode b_Machine_assign 28 = .ok (.aload_n 0, 1) := by decide +kernel
theorem d_Machine_assign_29 : decode b_Machine_assign 29 = .ok (.getfield 93, 3) := by decide +kernel
theorem d_Machine_assign_32 : decode b_Machine_assign 32 = .ok (.aload_n 0, 1) := by decide +kernel
theorem d_Machine_assign_33 : decode b_Machine_assign 33 = .ok (.getfield 10, 3) := by decide +kernel
theorem d_Machine_assign_36 : decode b_Machine_assign 36 = .ok (.iload 5, 2) := by decide +kernel
theorem d_Machine_assign_38 : decode b_Machine_assign 38 = .ok (.laload, 1) := by decide +kernel
theorem d_Machine_assign_39 : decode b_Machine_assign 39 = .ok (.lastore, 1) := by decide +kernel
theorem d_Machine_assign_40 : decode b_Machine_assign 40 = .ok (.aload_n 0, 1) := by decide +kernel
theorem d_Machine_assign_41 : decode b_Machine_assign 41 = .ok (.dup, 1) := by decide +kernel
theorem d_Machine_assign_42 : decode b_Machine_assign 42 = .ok (.getfield 93, 3) := by decide +kernel
theorem d_Machine_assign_45 : decode b_Machine_assign 45 = .ok (.iconst 1, 1) := by decide +kernel
theorem d_Machine_assign_46 : decode b_Machine_assign 46 = .ok (.iadd, 1) := by decide +kernel
theorem d_Machine_assign_47 : decode b_Machine_assign 47 = .ok (.putfield 93, 3) := by decide +kernel
theorem d_Machine_assign_50 : decode b_Machine_assign 50 = .ok (.aload_n 0, 1) := by decide +kernel
theorem d_Machine_assign_51 : decode b_Machine_assign 51 = .ok (.iload_n 1, 1) := by decide +kernel
theorem d_Machine_assign_52 : decode b_Machine_assign 52 = .ok (.iload_n 2, 1) := by decide +kernel
theorem d_Machine_assign_53 : decode b_Machine_assign 53 = .ok (.lload_n 3, 1) := by decide +kernel
theorem d_Machine_assign_54 : decode b_Machine_assign 54 = .ok (.invokevirtual 139, 3) := by decide +kernel
theorem d_Machine_assign_57 : decode b_Machine_assign 57 = .ok (.return_, 1) := by decide +kernel
set_option maxHeartbeats 4000000 in
set_option maxRecDepth 100000 in
theorem c_Machine_assign_a (l : Launch) {dA : FieldType → ClassId} {D : va_G} {al : Nat → Nat} {ext : mv_Sh} {sk sv : Nat → Nat} (hi : mv_inj (mg dA D al ext)) (σ : mv_H) (t i : Int32) (v : Int64) (hR : Rf 32 (mv_r σ)) (th sl : Nat) (hT : Th 32 σ th sl) (tn : Nat) (ht : t.toInt = tn) (htt : tn < th) (hi0 : 0 ≤ i.toInt) (hi1 : 0 ≤ (mv_a σ 35 tn).toInt) (hi2 : (mv_a σ 35 tn).toInt + i.toInt < 65600) (u : Nat) (hU : Un σ u) (hu : u < 8193) : mv_C l y_Machine_assign (Cond.code y_Machine_assign b_Machine_assign 6 (Option.none : Option Jvm.ClassFile.FieldType) :: ma) ({ frames := 2, cells := 0, slots := 0, locals := 44 }) (mg dA D al ext) (mK sk sv) [.ref (al 64), .int t, .int i, .long v] σ (mv_Rv (fun σ1 => MF σ σ1 ∧ Un σ1 (u + 1) ∧ mv_i σ1 64 4 = mv_i σ 64 4)) := by
  refine mv_C.ofV (cc := b_Machine_assign) (nL := 6) (ret := (Option.none : Option Jvm.ClassFile.FieldType)) (by decide +kernel) rfl hi (Nat.le_of_ble_eq_true rfl) ?_
  intro p e s m below meth c B hNs hr hnm hno
  have htz : t.toNatClampNeg = tn := by have := i32_cl (x := t) (by omega); omega
  have ht64 := hT.2.1
  have hf9 : (mv_a σ 35 t.toNatClampNeg).toInt = (mv_a σ 35 tn).toInt := by rw [htz]
  have hu1 := hU.1
  have huz : (mv_i σ 64 7).toNatClampNeg = u := by have := i32_cl (x := mv_i σ 64 7) (by omega); omega
  refine mv_aload_n (pc := 0) B d_Machine_assign_0 rfl 0 rfl ?_
  refine mv_getR (pc := 1) (ci := 9) (C := R_Machine) (T := F_Machine) (N := 13) B 0 rfl rfl (by decide) i_Machine (B.2.2.2.1 _ k_440) rfl hR.2.2 d_Machine_assign_1 ?_
  refine mv_getR (pc := 4) (ci := 7) (C := R_Program) (T := F_Program) (N := 19) B 4 rfl rfl (by decide) i_Program (B.2.2.2.1 _ k_327) rfl (hR.2.1 _ 4 35 rfl) d_Machine_assign_4 ?_
  refine mv_iload_n (pc := 7) B d_Machine_assign_7 rfl 1 rfl ?_
  refine mv_iald (pc := 8) B rfl (i32_in (by omega) (by omega)) d_Machine_assign_8 ?_
  refine mv_iload_n (pc := 9) B d_Machine_assign_9 rfl 2 rfl ?_
  refine mv_iadd (pc := 10) B d_Machine_assign_10 ?_
  refine mv_topi (fun y10 ey10 => ?_)
  have fy10 := i32_addE ey10 (by (try simp only [Int32.reduceToInt]); omega) (by (try simp only [Int32.reduceToInt]); omega)
  try simp only [Int32.reduceToInt] at fy10
  refine mv_istore (pc := 11) B d_Machine_assign_11 (by decide) rfl ?_
  refine mv_aload_n (pc := 13) B d_Machine_assign_13 rfl 1 rfl ?_
  refine mv_getR (pc := 14) (ci := 9) (C := R_Machine) (T := F_Machine) (N := 13) B 5 rfl rfl (by decide) i_Machine (B.2.2.2.1 _ k_447) rfl (hR.1 _ 5 _ rfl) d_Machine_assign_14 ?_
  refine mv_aload_n (pc := 17) B d_Machine_assign_17 rfl 1 rfl ?_
  refine mv_getI (pc := 18) (ci := 9) (C := R_Machine) (T := F_Machine) (N := 13) B 7 rfl rfl (by decide) i_Machine (B.2.2.2.1 _ k_449) rfl d_Machine_assign_18 ?_
  refine mv_iload (pc := 21) B d_Machine_assign_21 0 rfl ?_
  refine mv_iast (pc := 23) B rfl (i32_in (by omega) (by omega)) d_Machine_assign_23 ?_
  refine mv_aload_n (pc := 24) B d_Machine_assign_24 rfl 1 rfl ?_
  refine mv_getR (pc := 25) (ci := 9) (C := R_Machine) (T := F_Machine) (N := 13) B 6 rfl rfl (by decide) i_Machine (B.2.2.2.1 _ k_448) rfl (hR.1 _ 6 _ rfl) d_Machine_assign_25 ?_
  refine mv_aload_n (pc := 28) B d_Machine_assign_28 rfl 1 rfl ?_
  refine mv_getI (pc := 29) (ci := 9) (C := R_Machine) (T := F_Machine) (N := 13) B 7 rfl rfl (by decide) i_Machine (B.2.2.2.1 _ k_449) rfl d_Machine_assign_29 ?_
  refine mv_aload_n (pc := 32) B d_Machine_assign_32 rfl 1 rfl ?_
  refine mv_getR (pc := 33) (ci := 9) (C := R_Machine) (T := F_Machine) (N := 13) B 1 rfl rfl (by decide) i_Machine (B.2.2.2.1 _ k_442) rfl (hR.1 _ 1 _ rfl) d_Machine_assign_33 ?_
  refine mv_iload (pc := 36) B d_Machine_assign_36 0 rfl ?_
  refine mv_lald (pc := 38) B rfl (i32_in (by omega) (by omega)) d_Machine_assign_38 ?_
  refine mv_last (pc := 39) B rfl (i32_in (show 0 ≤ (mv_i σ 64 7).toInt by omega) (show (mv_i σ 64 7).toInt < 8193 by omega)) d_Machine_assign_39 ?_
  refine mv_aload_n (pc := 40) B d_Machine_assign_40 rfl 1 rfl ?_
  refine mv_dup (pc := 41) B d_Machine_assign_41 rfl ?_
  refine mv_getI (pc := 42) (ci := 9) (C := R_Machine) (T := F_Machine) (N := 13) B 7 rfl rfl (by decide) i_Machine (B.2.2.2.1 _ k_449) rfl d_Machine_assign_42 ?_
  refine mv_iconst (pc := 45) (v := 1) B d_Machine_assign_45 (by decide) ?_
  refine mv_iadd (pc := 46) B d_Machine_assign_46 ?_
  refine mv_putI (pc := 47) (ci := 9) (C := R_Machine) (T := F_Machine) (N := 13) B 7 rfl rfl (by decide) i_Machine t_Machine_ok n_Machine (B.2.2.2.1 _ k_449) rfl rfl rfl rfl d_Machine_assign_47 ?_
  refine mv_gen (fun S eS => ?_)
  have sR : Rf 32 (mv_r S) := by rw [eS]; exact hR
  have sT : Th 32 S th sl := by rw [eS]; exact hT
  have s3 : mv_a S 35 = mv_a σ 35 := by rw [eS]; rfl
  have sF : MF σ S := by rw [eS]; exact ((MF0.sa rfl).sb (Or.inr (Or.inr (Or.inr rfl)))).si ⟨rfl, Or.inr (Or.inl rfl)⟩
  have s4 : mv_i S 64 4 = mv_i σ 64 4 := by rw [eS]; rfl
  have sU : Un S (u + 1) := by
    rw [eS]
    refine ⟨by show (mv_i σ 64 7 + 1).toInt = _; rw [i32_inc (by omega)]; omega, by omega, fun j hj => ?_⟩
    show 0 ≤ (mv_u (mv_a σ) 68 (mv_i σ 64 7).toNatClampNeg y10 68 j).toInt ∧ (mv_u (mv_a σ) 68 (mv_i σ 64 7).toNatClampNeg y10 68 j).toInt < 65600
    rw [u_row, huz]
    by_cases e9 : j = u
    · rw [if_pos e9]; omega
    · rw [if_neg e9]; exact hU.2.2 j (by omega)
  clear eS
  refine mv_aload_n (pc := 50) B d_Machine_assign_50 rfl 1 rfl ?_
  refine mv_iload_n (pc := 51) B d_Machine_assign_51 rfl 2 rfl ?_
  refine mv_iload_n (pc := 52) B d_Machine_assign_52 rfl 3 rfl ?_
  refine mv_lload_n (pc := 53) B d_Machine_assign_53 rfl 4 rfl ?_
  refine mv_callVv (pc := 54) (n := 3) (ci := 9) (C := R_Machine) B (mK_ok sk sv) hNs rfl rfl (c_Machine_put_a l hi _ _ _ _ sR th sl sT tn ht htt hi0 (by rw [s3]; exact hi1) (by rw [s3]; exact hi2)) rfl (ma_goodc kc_Machine_put) (B.2.2.2.1 _ k_1600) (B.2.2.2.1 _ k_1601) (B.2.2.2.1 _ k_1602) (B.2.2.2.1 _ k_11) ⟨by decide +kernel, by decide +kernel, by decide +kernel⟩ rfl d_Machine_assign_54 rfl (Nat.le_of_ble_eq_true rfl) ⟨by decide, by decide⟩ ⟨by decide, by decide⟩ ⟨by decide, by decide⟩ (mv_noH hno _) (fun σ54 h54 => ?_)
  exact mv_vret (pc := 57) B hr d_Machine_assign_57 (Nat.le_refl _) (Nat.le_refl _) ⟨rfl, sF.tr (h54.up (fun _ _ h => h.elim) (fun _ h => h.elim) (fun _ h => Or.inl h)), sU.fr (h54.1 _ _ (fun q => q)) (h54.2.1 _ (fun q => q)), (h54.1 _ _ (fun q => q)).trans s4⟩
set_option maxHeartbeats 4000000 in
set_option maxRecDepth 100000 in
theorem c_Machine_assign_b (l : Launch) {dA : FieldType → ClassId} {D : va_G} {al : Nat → Nat} {ext : mv_Sh} {sk sv : Nat → Nat} (hi : mv_inj (mg dA D al ext)) (σ : mv_H) (t i : Int32) (v : Int64) (hR : Rf 48 (mv_r σ)) (th sl : Nat) (hT : Th 48 σ th sl) (tn : Nat) (ht : t.toInt = tn) (htt : tn < th) (hi0 : 0 ≤ i.toInt) (hi1 : 0 ≤ (mv_a σ 51 tn).toInt) (hi2 : (mv_a σ 51 tn).toInt + i.toInt < 65600) (u : Nat) (hU : Un σ u) (hu : u < 8193) : mv_C l y_Machine_assign (Cond.code y_Machine_assign b_Machine_assign 6 (Option.none : Option Jvm.ClassFile.FieldType) :: ma) ({ frames := 2, cells := 0, slots := 0, locals := 44 }) (mg dA D al ext) (mK sk sv) [.ref (al 64), .int t, .int i, .long v] σ (mv_Rv (fun σ1 => MF σ σ1 ∧ Un σ1 (u + 1) ∧ mv_i σ1 64 4 = mv_i σ 64 4)) := by
  refine mv_C.ofV (cc := b_Machine_assign) (nL := 6) (ret := (Option.none : Option Jvm.ClassFile.FieldType)) (by decide +kernel) rfl hi (Nat.le_of_ble_eq_true rfl) ?_
  intro p e s m below meth c B hNs hr hnm hno
  have htz : t.toNatClampNeg = tn := by have := i32_cl (x := t) (by omega); omega
  have ht64 := hT.2.1
  have hf9 : (mv_a σ 51 t.toNatClampNeg).toInt = (mv_a σ 51 tn).toInt := by rw [htz]
  have hu1 := hU.1
  have huz : (mv_i σ 64 7).toNatClampNeg = u := by have := i32_cl (x := mv_i σ 64 7) (by omega); omega
  refine mv_aload_n (pc := 0) B d_Machine_assign_0 rfl 0 rfl ?_
  refine mv_getR (pc := 1) (ci := 9) (C := R_Machine) (T := F_Machine) (N := 13) B 0 rfl rfl (by decide) i_Machine (B.2.2.2.1 _ k_440) rfl hR.2.2 d_Machine_assign_1 ?_
  refine mv_getR (pc := 4) (ci := 7) (C := R_Program) (T := F_Program) (N := 19) B 4 rfl rfl (by decide) i_Program (B.2.2.2.1 _ k_327) rfl (hR.2.1 _ 4 51 rfl) d_Machine_assign_4 ?_
  refine mv_iload_n (pc := 7) B d_Machine_assign_7 rfl 1 rfl ?_
  refine mv_iald (pc := 8) B rfl (i32_in (by omega) (by omega)) d_Machine_assign_8 ?_
  refine mv_iload_n (pc := 9) B d_Machine_assign_9 rfl 2 rfl ?_
  refine mv_iadd (pc := 10) B d_Machine_assign_10 ?_
  refine mv_topi (fun y10 ey10 => ?_)
  have fy10 := i32_addE ey10 (by (try simp only [Int32.reduceToInt]); omega) (by (try simp only [Int32.reduceToInt]); omega)
  try simp only [Int32.reduceToInt] at fy10
  refine mv_istore (pc := 11) B d_Machine_assign_11 (by decide) rfl ?_
  refine mv_aload_n (pc := 13) B d_Machine_assign_13 rfl 1 rfl ?_
  refine mv_getR (pc := 14) (ci := 9) (C := R_Machine) (T := F_Machine) (N := 13) B 5 rfl rfl (by decide) i_Machine (B.2.2.2.1 _ k_447) rfl (hR.1 _ 5 _ rfl) d_Machine_assign_14 ?_
  refine mv_aload_n (pc := 17) B d_Machine_assign_17 rfl 1 rfl ?_
  refine mv_getI (pc := 18) (ci := 9) (C := R_Machine) (T := F_Machine) (N := 13) B 7 rfl rfl (by decide) i_Machine (B.2.2.2.1 _ k_449) rfl d_Machine_assign_18 ?_
  refine mv_iload (pc := 21) B d_Machine_assign_21 0 rfl ?_
  refine mv_iast (pc := 23) B rfl (i32_in (by omega) (by omega)) d_Machine_assign_23 ?_
  refine mv_aload_n (pc := 24) B d_Machine_assign_24 rfl 1 rfl ?_
  refine mv_getR (pc := 25) (ci := 9) (C := R_Machine) (T := F_Machine) (N := 13) B 6 rfl rfl (by decide) i_Machine (B.2.2.2.1 _ k_448) rfl (hR.1 _ 6 _ rfl) d_Machine_assign_25 ?_
  refine mv_aload_n (pc := 28) B d_Machine_assign_28 rfl 1 rfl ?_
  refine mv_getI (pc := 29) (ci := 9) (C := R_Machine) (T := F_Machine) (N := 13) B 7 rfl rfl (by decide) i_Machine (B.2.2.2.1 _ k_449) rfl d_Machine_assign_29 ?_
  refine mv_aload_n (pc := 32) B d_Machine_assign_32 rfl 1 rfl ?_
  refine mv_getR (pc := 33) (ci := 9) (C := R_Machine) (T := F_Machine) (N := 13) B 1 rfl rfl (by decide) i_Machine (B.2.2.2.1 _ k_442) rfl (hR.1 _ 1 _ rfl) d_Machine_assign_33 ?_
  refine mv_iload (pc := 36) B d_Machine_assign_36 0 rfl ?_
  refine mv_lald (pc := 38) B rfl (i32_in (by omega) (by omega)) d_Machine_assign_38 ?_
  refine mv_last (pc := 39) B rfl (i32_in (show 0 ≤ (mv_i σ 64 7).toInt by omega) (show (mv_i σ 64 7).toInt < 8193 by omega)) d_Machine_assign_39 ?_
  refine mv_aload_n (pc := 40) B d_Machine_assign_40 rfl 1 rfl ?_
  refine mv_dup (pc := 41) B d_Machine_assign_41 rfl ?_
  refine mv_getI (pc := 42) (ci := 9) (C := R_Machine) (T := F_Machine) (N := 13) B 7 rfl rfl (by decide) i_Machine (B.2.2.2.1 _ k_449) rfl d_Machine_assign_42 ?_
  refine mv_iconst (pc := 45) (v := 1) B d_Machine_assign_45 (by decide) ?_
  refine mv_iadd (pc := 46) B d_Machine_assign_46 ?_
  refine mv_putI (pc := 47) (ci := 9) (C := R_Machine) (T := F_Machine) (N := 13) B 7 rfl rfl (by decide) i_Machine t_Machine_ok n_Machine (B.2.2.2.1 _ k_449) rfl rfl rfl rfl d_Machine_assign_47 ?_
  refine mv_gen (fun S eS => ?_)
  have sR : Rf 48 (mv_r S) := by rw [eS]; exact hR
  have sT : Th 48 S th sl := by rw [eS]; exact hT
  have s3 : mv_a S 51 = mv_a σ 51 := by rw [eS]; rfl
  have sF : MF σ S := by rw [eS]; exact ((MF0.sa rfl).sb (Or.inr (Or.inr (Or.inr rfl)))).si ⟨rfl, Or.inr (Or.inl rfl)⟩
  have s4 : mv_i S 64 4 = mv_i σ 64 4 := by rw [eS]; rfl
  have sU : Un S (u + 1) := by
    rw [eS]
    refine ⟨by show (mv_i σ 64 7 + 1).toInt = _; rw [i32_inc (by omega)]; omega, by omega, fun j hj => ?_⟩
    show 0 ≤ (mv_u (mv_a σ) 68 (mv_i σ 64 7).toNatClampNeg y10 68 j).toInt ∧ (mv_u (mv_a σ) 68 (mv_i σ 64 7).toNatClampNeg y10 68 j).toInt < 65600
    rw [u_row, huz]
    by_cases e9 : j = u
    · rw [if_pos e9]; omega
    · rw [if_neg e9]; exact hU.2.2 j (by omega)
  clear eS
  refine mv_aload_n (pc := 50) B d_Machine_assign_50 rfl 1 rfl ?_
  refine mv_iload_n (pc := 51) B d_Machine_assign_51 rfl 2 rfl ?_
  refine mv_iload_n (pc := 52) B d_Machine_assign_52 rfl 3 rfl ?_
  refine mv_lload_n (pc := 53) B d_Machine_assign_53 rfl 4 rfl ?_
  refine mv_callVv (pc := 54) (n := 3) (ci := 9) (C := R_Machine) B (mK_ok sk sv) hNs rfl rfl (c_Machine_put_b l hi _ _ _ _ sR th sl sT tn ht htt hi0 (by rw [s3]; exact hi1) (by rw [s3]; exact hi2)) rfl (ma_goodc kc_Machine_put) (B.2.2.2.1 _ k_1600) (B.2.2.2.1 _ k_1601) (B.2.2.2.1 _ k_1602) (B.2.2.2.1 _ k_11) ⟨by decide +kernel, by decide +kernel, by decide +kernel⟩ rfl d_Machine_assign_54 rfl (Nat.le_of_ble_eq_true rfl) ⟨by decide, by decide⟩ ⟨by decide, by decide⟩ ⟨by decide, by decide⟩ (mv_noH hno _) (fun σ54 h54 => ?_)
  exact mv_vret (pc := 57) B hr d_Machine_assign_57 (Nat.le_refl _) (Nat.le_refl _) ⟨rfl, sF.tr (h54.up (fun _ _ h => h.elim) (fun _ h => h.elim) (fun _ h => Or.inl h)), sU.fr (h54.1 _ _ (fun q => q)) (h54.2.1 _ (fun q => q)), (h54.1 _ _ (fun q => q)).trans s4⟩
set_option maxHeartbeats 4000000 in
set_option maxRecDepth 100000 in
theorem c_Machine_assign_c (l : Launch) {dA : FieldType → ClassId} {D : va_G} {al : Nat → Nat} {sk sv : Nat → Nat} (hi : mv_inj (mg dA D al me)) (σ : mv_H) (t i : Int32) (v : Int64) (hR : Rf 145 (mv_r σ)) (th sl : Nat) (hT : Th 145 σ th sl) (tn : Nat) (ht : t.toInt = tn) (htt : tn < th) (hi0 : 0 ≤ i.toInt) (hi1 : 0 ≤ (mv_a σ 148 tn).toInt) (hi2 : (mv_a σ 148 tn).toInt + i.toInt < 65600) (u : Nat) (hU : Un σ u) (hu : u < 8193) : mv_C l y_Machine_assign (Cond.code y_Machine_assign b_Machine_assign 6 (Option.none : Option Jvm.ClassFile.FieldType) :: ma) ({ frames := 2, cells := 0, slots := 0, locals := 44 }) (mg dA D al me) (mK sk sv) [.ref (al 64), .int t, .int i, .long v] σ (mv_Rv (fun σ1 => MF σ σ1 ∧ Un σ1 (u + 1) ∧ mv_i σ1 64 4 = mv_i σ 64 4)) := by
  refine mv_C.ofV (cc := b_Machine_assign) (nL := 6) (ret := (Option.none : Option Jvm.ClassFile.FieldType)) (by decide +kernel) rfl hi (Nat.le_of_ble_eq_true rfl) ?_
  intro p e s m below meth c B hNs hr hnm hno
  have htz : t.toNatClampNeg = tn := by have := i32_cl (x := t) (by omega); omega
  have ht64 := hT.2.1
  have hf9 : (mv_a σ 148 t.toNatClampNeg).toInt = (mv_a σ 148 tn).toInt := by rw [htz]
  have hu1 := hU.1
  have huz : (mv_i σ 64 7).toNatClampNeg = u := by have := i32_cl (x := mv_i σ 64 7) (by omega); omega
  refine mv_aload_n (pc := 0) B d_Machine_assign_0 rfl 0 rfl ?_
  refine mv_getR (pc := 1) (ci := 9) (C := R_Machine) (T := F_Machine) (N := 13) B 0 rfl rfl (by decide) i_Machine (B.2.2.2.1 _ k_440) rfl hR.2.2 d_Machine_assign_1 ?_
  refine mv_getR (pc := 4) (ci := 7) (C := R_Program) (T := F_Program) (N := 19) B 4 rfl rfl (by decide) i_Program (B.2.2.2.1 _ k_327) rfl (hR.2.1 _ 4 148 rfl) d_Machine_assign_4 ?_
  refine mv_iload_n (pc := 7) B d_Machine_assign_7 rfl 1 rfl ?_
  refine mv_iald (pc := 8) B rfl (i32_in (by omega) (by omega)) d_Machine_assign_8 ?_
  refine mv_iload_n (pc := 9) B d_Machine_assign_9 rfl 2 rfl ?_
  refine mv_iadd (pc := 10) B d_Machine_assign_10 ?_
  refine mv_topi (fun y10 ey10 => ?_)
  have fy10 := i32_addE ey10 (by (try simp only [Int32.reduceToInt]); omega) (by (try simp only [Int32.reduceToInt]); omega)
  try simp only [Int32.reduceToInt] at fy10
  refine mv_istore (pc := 11) B d_Machine_assign_11 (by decide) rfl ?_
  refine mv_aload_n (pc := 13) B d_Machine_assign_13 rfl 1 rfl ?_
  refine mv_getR (pc := 14) (ci := 9) (C := R_Machine) (T := F_Machine) (N := 13) B 5 rfl rfl (by decide) i_Machine (B.2.2.2.1 _ k_447) rfl (hR.1 _ 5 _ rfl) d_Machine_assign_14 ?_
  refine mv_aload_n (pc := 17) B d_Machine_assign_17 rfl 1 rfl ?_
  refine mv_getI (pc := 18) (ci := 9) (C := R_Machine) (T := F_Machine) (N := 13) B 7 rfl rfl (by decide) i_Machine (B.2.2.2.1 _ k_449) rfl d_Machine_assign_18 ?_
  refine mv_iload (pc := 21) B d_Machine_assign_21 0 rfl ?_
  refine mv_iast (pc := 23) B rfl (i32_in (by omega) (by omega)) d_Machine_assign_23 ?_
  refine mv_aload_n (pc := 24) B d_Machine_assign_24 rfl 1 rfl ?_
  refine mv_getR (pc := 25) (ci := 9) (C := R_Machine) (T := F_Machine) (N := 13) B 6 rfl rfl (by decide) i_Machine (B.2.2.2.1 _ k_448) rfl (hR.1 _ 6 _ rfl) d_Machine_assign_25 ?_
  refine mv_aload_n (pc := 28) B d_Machine_assign_28 rfl 1 rfl ?_
  refine mv_getI (pc := 29) (ci := 9) (C := R_Machine) (T := F_Machine) (N := 13) B 7 rfl rfl (by decide) i_Machine (B.2.2.2.1 _ k_449) rfl d_Machine_assign_29 ?_
  refine mv_aload_n (pc := 32) B d_Machine_assign_32 rfl 1 rfl ?_
  refine mv_getR (pc := 33) (ci := 9) (C := R_Machine) (T := F_Machine) (N := 13) B 1 rfl rfl (by decide) i_Machine (B.2.2.2.1 _ k_442) rfl (hR.1 _ 1 _ rfl) d_Machine_assign_33 ?_
  refine mv_iload (pc := 36) B d_Machine_assign_36 0 rfl ?_
  refine mv_lald (pc := 38) B rfl (i32_in (by omega) (by omega)) d_Machine_assign_38 ?_
  refine mv_last (pc := 39) B rfl (i32_in (show 0 ≤ (mv_i σ 64 7).toInt by omega) (show (mv_i σ 64 7).toInt < 8193 by omega)) d_Machine_assign_39 ?_
  refine mv_aload_n (pc := 40) B d_Machine_assign_40 rfl 1 rfl ?_
  refine mv_dup (pc := 41) B d_Machine_assign_41 rfl ?_
  refine mv_getI (pc := 42) (ci := 9) (C := R_Machine) (T := F_Machine) (N := 13) B 7 rfl rfl (by decide) i_Machine (B.2.2.2.1 _ k_449) rfl d_Machine_assign_42 ?_
  refine mv_iconst (pc := 45) (v := 1) B d_Machine_assign_45 (by decide) ?_
  refine mv_iadd (pc := 46) B d_Machine_assign_46 ?_
  refine mv_putI (pc := 47) (ci := 9) (C := R_Machine) (T := F_Machine) (N := 13) B 7 rfl rfl (by decide) i_Machine t_Machine_ok n_Machine (B.2.2.2.1 _ k_449) rfl rfl rfl rfl d_Machine_assign_47 ?_
  refine mv_gen (fun S eS => ?_)
  have sR : Rf 145 (mv_r S) := by rw [eS]; exact hR
  have sT : Th 145 S th sl := by rw [eS]; exact hT
  have s3 : mv_a S 148 = mv_a σ 148 := by rw [eS]; rfl
  have sF : MF σ S := by rw [eS]; exact ((MF0.sa rfl).sb (Or.inr (Or.inr (Or.inr rfl)))).si ⟨rfl, Or.inr (Or.inl rfl)⟩
  have s4 : mv_i S 64 4 = mv_i σ 64 4 := by rw [eS]; rfl
  have sU : Un S (u + 1) := by
    rw [eS]
    refine ⟨by show (mv_i σ 64 7 + 1).toInt = _; rw [i32_inc (by omega)]; omega, by omega, fun j hj => ?_⟩
    show 0 ≤ (mv_u (mv_a σ) 68 (mv_i σ 64 7).toNatClampNeg y10 68 j).toInt ∧ (mv_u (mv_a σ) 68 (mv_i σ 64 7).toNatClampNeg y10 68 j).toInt < 65600
    rw [u_row, huz]
    by_cases e9 : j = u
    · rw [if_pos e9]; omega
    · rw [if_neg e9]; exact hU.2.2 j (by omega)
  clear eS
  refine mv_aload_n (pc := 50) B d_Machine_assign_50 rfl 1 rfl ?_
  refine mv_iload_n (pc := 51) B d_Machine_assign_51 rfl 2 rfl ?_
  refine mv_iload_n (pc := 52) B d_Machine_assign_52 rfl 3 rfl ?_
  refine mv_lload_n (pc := 53) B d_Machine_assign_53 rfl 4 rfl ?_
  refine mv_callVv (pc := 54) (n := 3) (ci := 9) (C := R_Machine) B (mK_ok sk sv) hNs rfl rfl (c_Machine_put_c l hi _ _ _ _ sR th sl sT tn ht htt hi0 (by rw [s3]; exact hi1) (by rw [s3]; exact hi2)) rfl (ma_goodc kc_Machine_put) (B.2.2.2.1 _ k_1600) (B.2.2.2.1 _ k_1601) (B.2.2.2.1 _ k_1602) (B.2.2.2.1 _ k_11) ⟨by decide +kernel, by decide +kernel, by decide +kernel⟩ rfl d_Machine_assign_54 rfl (Nat.le_of_ble_eq_true rfl) ⟨by decide, by decide⟩ ⟨by decide, by decide⟩ ⟨by decide, by decide⟩ (mv_noH hno _) (fun σ54 h54 => ?_)
  exact mv_vret (pc := 57) B hr d_Machine_assign_57 (Nat.le_refl _) (Nat.le_refl _) ⟨rfl, sF.tr (h54.up (fun _ _ h => h.elim) (fun _ h => h.elim) (fun _ h => Or.inl h)), sU.fr (h54.1 _ _ (fun q => q)) (h54.2.1 _ (fun q => q)), (h54.1 _ _ (fun q => q)).trans s4⟩
def y_Machine_ofCell : MethodName := ⟨"MachineLoom$Machine", "ofCell", "(II)Z"⟩
abbrev b_Machine_ofCell : ByteArray := prog_5_method_13_code
theorem kc_Machine_ofCell : Cond.code y_Machine_ofCell b_Machine_ofCell 7 (Option.some Jvm.ClassFile.FieldType.boolean) ∈ ma := ma_of (tb_7 _ (List.mem_of_getElem? (i := 151) rfl)) rfl
theorem k_1592 : (Jvm.Cond.methodLink "MachineLoom$Machine" (170 : Nat) ({ cls := "MachineLoom$Machine", name := "pop", desc := "()J" } : Jvm.MethodName)) ∈ ma := ma_of (tb_7 _ (List.mem_of_getElem? (i := 152) rfl)) rfl
theorem k_1594 : (Jvm.Cond.instanceMethod ({ cls := "MachineLoom$Machine", name := "pop", desc := "()J" } : Jvm.MethodName)) ∈ ma := ma_of (tb_7 _ (List.mem_of_getElem? (i := 154) rfl)) rfl
theorem ks_72 : Cond.selects "MachineLoom$Machine" ⟨"MachineLoom$Machine", "pop", "()J"⟩ ⟨"MachineLoom$Machine", "pop", "()J"⟩ ∈ ma := ma_sel 72 rfl rfl
theorem k_324 : (Jvm.Cond.fieldLink "MachineLoom$Machine" (128 : Nat) "MachineLoom$Program" "cells" "[I") ∈ ma := ma_of (tb_2 _ (List.mem_of_getElem? (i := 84) rfl)) rfl
theorem k_1584 : (Jvm.Cond.methodLink "MachineLoom$Machine" (159 : Nat) ({ cls := "MachineLoom$Machine", name := "push", desc := "(J)V" } : Jvm.MethodName)) ∈ ma := ma_of (tb_7 _ (List.mem_of_getElem? (i := 144) rfl)) rfl
theorem k_1586 : (Jvm.Cond.instanceMethod ({ cls := "MachineLoom$Machine", name := "push", desc := "(J)V" } : Jvm.MethodName)) ∈ ma := ma_of (tb_7 _ (List.mem_of_getElem? (i := 146) rfl)) rfl
theorem ks_70 : Cond.selects "MachineLoom$Machine" ⟨"MachineLoom$Machine", "push", "(J)V"⟩ ⟨"MachineLoom$Machine", "push", "(J)V"⟩ ∈ ma := ma_sel 70 rfl rfl
theorem k_1596 : (Jvm.Cond.methodLink "MachineLoom$Machine" (174 : Nat) ({ cls := "MachineLoom$Machine", name := "assign", desc := "(IIJ)V" } : Jvm.MethodName)) ∈ ma := ma_of (tb_7 _ (List.mem_of_getElem? (i := 156) rfl)) rfl
theorem k_1598 : (Jvm.Cond.instanceMethod ({ cls := "MachineLoom$Machine", name := "assign", desc := "(IIJ)V" } : Jvm.MethodName)) ∈ ma := ma_of (tb_7 _ (List.mem_of_getElem? (i := 158) rfl)) rfl
theorem ks_73 : Cond.selects "MachineLoom$Machine" ⟨"MachineLoom$Machine", "assign", "(IIJ)V"⟩ ⟨"MachineLoom$Machine", "assign", "(IIJ)V"⟩ ∈ ma := ma_sel 73 rfl rfl
theorem d_Machine_ofCell_0 : decode b_Machine_ofCell 0 = .ok (.iload_n 1, 1) := by decide +kernel
theorem d_Machine_ofCell_1 : decode b_Machine_ofCell 1 = .ok (.sipush 315, 3) := by decide +kernel
theorem d_Machine_ofCell_4 : decode b_Machine_ofCell 4 = .ok (.if_icmp .ne (10), 3) := by decide +kernel
theorem d_Machine_ofCell_7 : decode b_Machine_ofCell 7 = .ok (.aload_n 0, 1) := by decide +kernel
theorem d_Machine_ofCell_8 : decode b_Machine_ofCell 8 = .ok (.invokevirtual 170, 3) := by decide +kernel
theorem d_Machine_ofCell_11 : decode b_Machine_ofCell 11 = .ok (.goto (4), 3) := by decide +kernel
theorem d_Machine_ofCell_14 : decode b_Machine_ofCell 14 = .ok (.lconst 0, 1) := by decide +kernel
theorem d_Machine_ofCell_15 : decode b_Machine_ofCell 15 = .ok (.lstore_n 3, 1) := by decide +kernel
theorem d_Machine_ofCell_16 : decode b_Machine_ofCell 16 = .ok (.aload_n 0, 1) := by decide +kernel
theorem d_Machine_ofCell_17 : decode b_Machine_ofCell 17 = .ok (.invokevirtual 170, 3) := by decide +kernel
theorem d_Machine_ofCell_20 : decode b_Machine_ofCell 20 = .ok (.lstore 5, 2) := by decide +kernel
theorem d_Machine_ofCell_22 : decode b_Machine_ofCell 22 = .ok (.lload 5, 2) := by decide +kernel
theorem d_Machine_ofCell_24 : decode b_Machine_ofCell 24 = .ok (.lconst 0, 1) := by decide +kernel
theorem d_Machine_ofCell_25 : decode b_Machine_ofCell 25 = .ok (.lcmp, 1) := by decide +kernel
theorem d_Machine_ofCell_26 : decode b_Machine_ofCell 26 = .ok (.ifCond .lt (19), 3) := by decide +kernel
theorem d_Machine_ofCell_29 : decode b_Machine_ofCell 29 = .ok (.lload 5, 2) := by decide +kernel
theorem d_Machine_ofCell_31 : decode b_Machine_ofCell 31 = .ok (.aload_n 0, 1) := by decide +kernel
theorem d_Machine_ofCell_32 : decode b_Machine_ofCell 32 = .ok (.getfield 29, 3) := by decide +kernel
theorem d_Machine_ofCell_35 : decode b_Machine_ofCell 35 = .ok (.getfield 128, 3) := by decide +kernel
theorem d_Machine_ofCell_38 : decode b_Machine_ofCell 38 = .ok (.iload_n 2, 1) := by decide +kernel
theorem d_Machine_ofCell_39 : decode b_Machine_ofCell 39 = .ok (.iaload, 1) := by decide +kernel
theorem d_Machine_ofCell_40 : decode b_Machine_ofCell 40 = .ok (.i2l, 1) := by decide +kernel
theorem d_Machine_ofCell_41 : decode b_Machine_ofCell 41 = .ok (.lcmp, 1) := by decide +kernel
theorem d_Machine_ofCell_42 : decode b_Machine_ofCell 42 = .ok (.ifCond .lt (5), 3) := by decide +kernel
theorem d_Machine_ofCell_45 : decode b_Machine_ofCell 45 = .ok (.iconst 0, 1) := by decide +kernel
theorem d_Machine_ofCell_46 : decode b_Machine_ofCell 46 = .ok (.ireturn, 1) := by decide +kernel
theorem d_Machine_ofCell_47 : decode b_Machine_ofCell 47 = .ok (.iload_n 1, 1) := by decide +kernel
theorem d_Machine_ofCell_48 : decode b_Machine_ofCell 48 = .ok (.sipush 315, 3) := by decide +kernel
theorem d_Machine_ofCell_51 : decode b_Machine_ofCell 51 = .ok (.if_icmp .ne (15), 3) := by decide +kernel
theorem d_Machine_ofCell_54 : decode b_Machine_ofCell 54 = .ok (.aload_n 0, 1) := by decide +kernel
theorem d_Machine_ofCell_55 : decode b_Machine_ofCell 55 = .ok (.iload_n 2, 1) := by decide +kernel
theorem d_Machine_ofCell_56 : decode b_Machine_ofCell 56 = .ok (.lload 5, 2) := by decide +kernel
theorem d_Machine_ofCell_58 : decode b_Machine_ofCell 58 = .ok (.l2i, 1) := by decide +kernel
theorem d_Machine_ofCell_59 : decode b_Machine_ofCell 59 = .ok (.lload_n 3, 1) := by decide +kernel
theorem d_Machine_ofCell_60 : decode b_Machine_ofCell 60 = .ok (.invokevirtual 174, 3) := by decide +kernel
theorem d_Machine_ofCell_63 : decode b_Machine_ofCell 63 = .ok (.goto (25), 3) := by decide +kernel
theorem d_Machine_ofCell_66 : decode b_Machine_ofCell 66 = .ok (.aload_n 0, 1) := by decide +kernel
theorem d_Machine_ofCell_67 : decode b_Machine_ofCell 67 = .ok (.aload_n 0, 1) := by decide +kernel
theorem d_Machine_ofCell_68 : decode b_Machine_ofCell 68 = .ok (.getfield 10, 3) := by decide +kernel
theorem d_Machine_ofCell_71 : decode b_Machine_ofCell 71 = .ok (.aload_n 0, 1) := by decide +kernel
theorem d_Machine_ofCell_72 : decode b_Machine_ofCell 72 = .ok (.getfield 29, 3) := by decide +kernel
theorem d_Machine_ofCell_75 : decode b_Machine_ofCell 75 = .ok (.getfield 55, 3) := by decide +kernel
theorem d_Machine_ofCell_78 : decode b_Machine_ofCell 78 = .ok (.iload_n 2, 1) := by decide +kernel
theorem d_Machine_ofCell_79 : decode b_Machine_ofCell 79 = .ok (.iaload, 1) := by decide +kernel
theorem d_Machine_ofCell_80 : decode b_Machine_ofCell 80 = .ok (.lload 5, 2) := by decide +kernel
theorem d_Machine_ofCell_82 : decode b_Machine_ofCell 82 = .ok (.l2i, 1) := by decide +kernel
theorem d_Machine_ofCell_83 : decode b_Machine_ofCell 83 = .ok (.iadd, 1) := by decide +kernel
theorem d_Machine_ofCell_84 : decode b_Machine_ofCell 84 = .ok (.laload, 1) := by decide +kernel
theorem d_Machine_ofCell_85 : decode b_Machine_ofCell 85 = .ok (.invokevirtual 159, 3) := by decide +kernel
theorem d_Machine_ofCell_88 : decode b_Machine_ofCell 88 = .ok (.iconst 1, 1) := by decide +kernel
theorem d_Machine_ofCell_89 : decode b_Machine_ofCell 89 = .ok (.ireturn, 1) := by decide +kernel
set_option maxHeartbeats 4000000 in
set_option maxRecDepth 100000 in
theorem c_Machine_ofCell_a (l : Launch) {dA : FieldType → ClassId} {D : va_G} {al : Nat → Nat} {ext : mv_Sh} {sk sv : Nat → Nat} (hi : mv_inj (mg dA D al ext)) (σ : mv_H) (d fi : Int32) (hR : Rf 32 (mv_r σ)) (th sl : Nat) (hT : Th 32 σ th sl) (fn : Nat) (hf : fi.toInt = fn) (hft : fn < th) (h9 : Nat) (hh : (mv_i σ 64 4).toInt = h9) (hh1 : h9 ≤ 1024) (u : Nat) (hU : Un σ u) (hd9 : (d = 315 ∧ 2 ≤ h9 ∧ u < 8193) ∨ (¬ d = 315 ∧ 1 ≤ h9)) : mv_C l y_Machine_ofCell (Cond.code y_Machine_ofCell b_Machine_ofCell 7 (Option.some Jvm.ClassFile.FieldType.boolean) :: ma) ({ frames := 3, cells := 0, slots := 0, locals := 69 }) (mg dA D al ext) (mK sk sv) [.ref (al 64), .int d, .int fi] σ (mv_Ri (fun v σ1 => MF σ σ1 ∧ ((v = 0 ∧ Un σ1 u) ∨ (v = 1 ∧ ((d = 315 ∧ Un σ1 (u + 1) ∧ (mv_i σ1 64 4).toInt + 2 = h9) ∨ (¬ d = 315 ∧ Un σ1 u ∧ (mv_i σ1 64 4).toInt = h9)))))) := by
  refine mv_C.ofV (cc := b_Machine_ofCell) (nL := 7) (ret := (Option.some Jvm.ClassFile.FieldType.boolean)) (by decide +kernel) rfl hi (Nat.le_of_ble_eq_true rfl) ?_
  intro p e s m below meth c B hNs hr hnm hno
  have hfz : fi.toNatClampNeg = fn := by have := i32_cl (x := fi) (by omega); omega
  have ht64 := hT.2.1
  obtain ⟨c9, f9, hc9, hf9, hs1, hs2⟩ := hT.2.2.2.2.2.2.1 fn hft
  have hsl := hT.2.2.2.1
  have j15 : ∀ (τ : mv_H) (x9 : Int64) (qR : Rf 32 (mv_r τ)) (qF : MF σ τ) (qT : Th 32 τ th sl) (qU : Un τ u) (q1 : 1 ≤ (mv_i τ 64 4).toInt) (q2 : (mv_i τ 64 4).toInt ≤ 1024) (qt : (d = 315 ∧ (mv_i τ 64 4).toInt + 1 = h9 ∧ u < 8193) ∨ (¬ d = 315 ∧ (mv_i τ 64 4).toInt = h9)), mv_V p l e ({ frames := 3, cells := 0, slots := 0, locals := 69 }) s m ([.ref (al 64), .int d, .int fi] : List Value).toArray below meth c (mg dA D al ext) 7 0 0 (mv_Q (mg dA D al ext) below s 0 0 (mv_Ri (fun v σ1 => MF σ σ1 ∧ ((v = 0 ∧ Un σ1 u) ∨ (v = 1 ∧ ((d = 315 ∧ Un σ1 (u + 1) ∧ (mv_i σ1 64 4).toInt + 2 = h9) ∨ (¬ d = 315 ∧ Un σ1 u ∧ (mv_i σ1 64 4).toInt = h9))))))) τ 15 [(0, .ref (al 64)), (1, .int d), (2, .int fi)] [.long x9] := by
    intro τ x9 qR qF qT qU q1 q2 qt
    refine mv_lstore_n (pc := 15) B d_Machine_ofCell_15 rfl (by decide) rfl ?_
    refine mv_aload_n (pc := 16) B d_Machine_ofCell_16 rfl 1 rfl ?_
    refine mv_callVl (pc := 17) (n := 0) (ci := 9) (C := R_Machine) B (mK_ok sk sv) hNs rfl rfl (c_Machine_pop_a l hi _ qR (by omega) (by omega)) rfl (ma_goodc kc_Machine_pop) (B.2.2.2.1 _ k_1592) (B.2.2.2.1 _ k_1594) (B.2.2.2.1 _ ks_72) (B.2.2.2.1 _ k_11) ⟨by decide +kernel, by decide +kernel, by decide +kernel⟩ rfl d_Machine_ofCell_17 rfl (Nat.le_of_ble_eq_true rfl) ⟨by decide, by decide⟩ ⟨by decide, by decide⟩ ⟨by decide, by decide⟩ (mv_noH hno _) (fun v17 σ17 h17 => ?_)
    subst h17
    refine mv_gen (fun S eS => ?_)
    have qR : Rf 32 (mv_r S) := by rw [eS]; exact qR
    have sR := qR
    have sT : Th 32 S th sl := by rw [eS]; exact qT
    have s3 : mv_a S 35 fn = mv_a σ 35 fn := by rw [eS]; show mv_a τ 35 fn = _; rw [qF.2.1 _ (by decide)]
    have s2 : mv_a S 34 = mv_a σ 34 := by rw [eS]; exact qF.2.1 _ (by decide)
    have s3b : mv_a S 35 = mv_a σ 35 := by rw [eS]; exact qF.2.1 _ (by decide)
    have sc : (mv_a S 34 fi.toNatClampNeg).toInt = c9 := by rw [s2, hfz]; exact hc9
    have sf : (mv_a S 35 fi.toNatClampNeg).toInt = f9 := by rw [s3b, hfz]; exact hf9
    have sU : Un S u := by rw [eS]; exact qU
    have sF : MF σ S := by rw [eS]; exact qF.si ⟨rfl, Or.inl rfl⟩
    have st : (mv_i S 64 4).toInt = (mv_i τ 64 4).toInt - 1 := by rw [eS]; exact sub_one (by omega)
    clear eS
    refine mv_lstore (pc := 20) B d_Machine_ofCell_20 (by decide) rfl ?_
    refine mv_lload (pc := 22) B d_Machine_ofCell_22 0 rfl ?_
    refine mv_lconst (pc := 24) (v := 0) B d_Machine_ofCell_24 (by decide) ?_
    refine mv_lcmp (pc := 25) B d_Machine_ofCell_25 ?_
    refine mv_if_lt (pc := 26) (tgt := 45) B d_Machine_ofCell_26 rfl (fun h26 => ?_) (fun h26 => ?_)
    · skip
      refine mv_iconst (pc := 45) (v := 0) B d_Machine_ofCell_45 (by decide) ?_
      exact mv_iret (pc := 46) B hr rfl d_Machine_ofCell_46 (Nat.le_refl _) (Nat.le_refl _) ⟨_, rfl, sF, Or.inl ⟨rfl, sU⟩⟩
    · skip
      have k26 : 0 ≤ v17.toInt := by have := mt (lg_cmp_lt _ _).mpr h26; rw [Int64.lt_iff_toInt_lt] at this; simp only [Int64.reduceToInt] at this; omega
      refine mv_lload (pc := 29) B d_Machine_ofCell_29 0 rfl ?_
      refine mv_aload_n (pc := 31) B d_Machine_ofCell_31 rfl 2 rfl ?_
      refine mv_getR (pc := 32) (ci := 9) (C := R_Machine) (T := F_Machine) (N := 13) B 0 rfl rfl (by decide) i_Machine (B.2.2.2.1 _ k_440) rfl qR.2.2 d_Machine_ofCell_32 ?_
      refine mv_getR (pc := 35) (ci := 7) (C := R_Program) (T := F_Program) (N := 19) B 3 rfl rfl (by decide) i_Program (B.2.2.2.1 _ k_324) rfl (qR.2.1 _ 3 34 rfl) d_Machine_ofCell_35 ?_
      refine mv_iload_n (pc := 38) B d_Machine_ofCell_38 rfl 4 rfl ?_
      refine mv_iald (pc := 39) B rfl (i32_in (by omega) (by omega)) d_Machine_ofCell_39 ?_
      refine mv_i2l (pc := 40) B d_Machine_ofCell_40 ?_
      refine mv_lcmp (pc := 41) B d_Machine_ofCell_41 ?_
      refine mv_if_lt (pc := 42) (tgt := 47) B d_Machine_ofCell_42 rfl (fun h42 => ?_) (fun h42 => ?_)
      · skip
        have k42 : v17.toInt < c9 := by have := (lg_cmp_lt _ _).mp h42; rw [Int64.lt_iff_toInt_lt, lg_toInt] at this; rw [← sc]; exact this
        have k43 : v17.toInt32.toInt = v17.toInt := l2i_nn k26 (by omega)
        refine mv_iload_n (pc := 47) B d_Machine_ofCell_47 rfl 3 rfl ?_
        refine mv_sipush (pc := 48) (v := 315) B d_Machine_ofCell_48 (by decide) ?_
        refine mv_icmp_ne (pc := 51) (tgt := 66) B d_Machine_ofCell_51 rfl (fun h51 => ?_) (fun h51 => ?_)
        · skip
          have k51 := qt.resolve_left (fun q => h51 q.1)
          refine mv_aload_n (pc := 66) B d_Machine_ofCell_66 rfl 2 rfl ?_
          refine mv_aload_n (pc := 67) B d_Machine_ofCell_67 rfl 2 rfl ?_
          refine mv_getR (pc := 68) (ci := 9) (C := R_Machine) (T := F_Machine) (N := 13) B 1 rfl rfl (by decide) i_Machine (B.2.2.2.1 _ k_442) rfl (qR.1 _ 1 _ rfl) d_Machine_ofCell_68 ?_
          refine mv_aload_n (pc := 71) B d_Machine_ofCell_71 rfl 2 rfl ?_
          refine mv_getR (pc := 72) (ci := 9) (C := R_Machine) (T := F_Machine) (N := 13) B 0 rfl rfl (by decide) i_Machine (B.2.2.2.1 _ k_440) rfl qR.2.2 d_Machine_ofCell_72 ?_
          refine mv_getR (pc := 75) (ci := 7) (C := R_Program) (T := F_Program) (N := 19) B 4 rfl rfl (by decide) i_Program (B.2.2.2.1 _ k_327) rfl (qR.2.1 _ 4 35 rfl) d_Machine_ofCell_75 ?_
          refine mv_iload_n (pc := 78) B d_Machine_ofCell_78 rfl 4 rfl ?_
          refine mv_iald (pc := 79) B rfl (i32_in (by omega) (by omega)) d_Machine_ofCell_79 ?_
          refine mv_lload (pc := 80) B d_Machine_ofCell_80 0 rfl ?_
          refine mv_l2i (pc := 82) B d_Machine_ofCell_82 ?_
          refine mv_iadd (pc := 83) B d_Machine_ofCell_83 ?_
          refine mv_topi (fun y83 ey83 => ?_)
          have fy83 := i32_addE ey83 (by (try simp only [Int32.reduceToInt]); omega) (by (try simp only [Int32.reduceToInt]); omega)
          try simp only [Int32.reduceToInt] at fy83
          refine mv_lald (pc := 84) B rfl (i32_in (by omega) (by omega)) d_Machine_ofCell_84 ?_
          refine mv_callVv (pc := 85) (n := 1) (ci := 9) (C := R_Machine) B (mK_ok sk sv) hNs rfl rfl (c_Machine_push_a l hi _ _ sR (by omega) (by omega)) rfl (ma_goodc kc_Machine_push) (B.2.2.2.1 _ k_1584) (B.2.2.2.1 _ k_1586) (B.2.2.2.1 _ ks_70) (B.2.2.2.1 _ k_11) ⟨by decide +kernel, by decide +kernel, by decide +kernel⟩ rfl d_Machine_ofCell_85 rfl (Nat.le_of_ble_eq_true rfl) ⟨by decide, by decide⟩ ⟨by decide, by decide⟩ ⟨by decide, by decide⟩ (mv_noH hno _) (fun σ85 h85 => ?_)
          have hend : MF σ σ85 ∧ ((d = 315 ∧ Un σ85 (u + 1) ∧ (mv_i σ85 64 4).toInt + 2 = h9) ∨ (¬ d = 315 ∧ Un σ85 u ∧ (mv_i σ85 64 4).toInt = h9)) := by
            subst h85
            exact ⟨(sF.sb (Or.inr (Or.inr (Or.inl rfl)))).si ⟨rfl, Or.inl rfl⟩, Or.inr ⟨h51, sU, by show (mv_i S 64 4 + 1).toInt = h9; rw [i32_inc (by omega)]; omega⟩⟩
          refine mv_iconst (pc := 88) (v := 1) B d_Machine_ofCell_88 (by decide) ?_
          exact mv_iret (pc := 89) B hr rfl d_Machine_ofCell_89 (Nat.le_refl _) (Nat.le_refl _) ⟨_, rfl, hend.1, Or.inr ⟨rfl, hend.2⟩⟩
        · skip
          have k51 := qt.resolve_right (fun q => q.1 h51)
          refine mv_aload_n (pc := 54) B d_Machine_ofCell_54 rfl 2 rfl ?_
          refine mv_iload_n (pc := 55) B d_Machine_ofCell_55 rfl 4 rfl ?_
          refine mv_lload (pc := 56) B d_Machine_ofCell_56 0 rfl ?_
          refine mv_l2i (pc := 58) B d_Machine_ofCell_58 ?_
          refine mv_lload_n (pc := 59) B d_Machine_ofCell_59 rfl 1 rfl ?_
          refine mv_callVv (pc := 60) (n := 3) (ci := 9) (C := R_Machine) B (mK_ok sk sv) hNs rfl rfl (c_Machine_assign_a l hi _ _ _ _ sR th sl sT fn hf hft (by omega) (by rw [s3, hf9]; omega) (by rw [s3, hf9]; omega) u sU k51.2.2) rfl (ma_goodc kc_Machine_assign) (B.2.2.2.1 _ k_1596) (B.2.2.2.1 _ k_1598) (B.2.2.2.1 _ ks_73) (B.2.2.2.1 _ k_11) ⟨by decide +kernel, by decide +kernel, by decide +kernel⟩ rfl d_Machine_ofCell_60 rfl (Nat.le_of_ble_eq_true rfl) ⟨by decide, by decide⟩ ⟨by decide, by decide⟩ ⟨by decide, by decide⟩ (mv_noH hno _) (fun σ60 h60 => ?_)
          obtain ⟨f60, u60, t60⟩ := h60
          have hend : MF σ σ60 ∧ ((d = 315 ∧ Un σ60 (u + 1) ∧ (mv_i σ60 64 4).toInt + 2 = h9) ∨ (¬ d = 315 ∧ Un σ60 u ∧ (mv_i σ60 64 4).toInt = h9)) := ⟨sF.tr f60, Or.inl ⟨h51, u60, by rw [t60]; omega⟩⟩
          refine mv_goto (pc := 63) (tgt := 88) B d_Machine_ofCell_63 rfl ?_
          refine mv_iconst (pc := 88) (v := 1) B d_Machine_ofCell_88 (by decide) ?_
          exact mv_iret (pc := 89) B hr rfl d_Machine_ofCell_89 (Nat.le_refl _) (Nat.le_refl _) ⟨_, rfl, hend.1, Or.inr ⟨rfl, hend.2⟩⟩
      · skip
        refine mv_iconst (pc := 45) (v := 0) B d_Machine_ofCell_45 (by decide) ?_
        exact mv_iret (pc := 46) B hr rfl d_Machine_ofCell_46 (Nat.le_refl _) (Nat.le_refl _) ⟨_, rfl, sF, Or.inl ⟨rfl, sU⟩⟩
  refine mv_iload_n (pc := 0) B d_Machine_ofCell_0 rfl 1 rfl ?_
  refine mv_sipush (pc := 1) (v := 315) B d_Machine_ofCell_1 (by decide) ?_
  refine mv_icmp_ne (pc := 4) (tgt := 14) B d_Machine_ofCell_4 rfl (fun h4 => ?_) (fun h4 => ?_)
  · skip
    have k4 : 1 ≤ h9 := hd9.elim (fun q => absurd q.1 h4) (fun q => q.2)
    have go := fun x9 => j15 σ x9 hR MF0 hT hU (by omega) (by omega) (Or.inr ⟨h4, hh⟩)
    refine mv_lconst (pc := 14) (v := 0) B d_Machine_ofCell_14 (by decide) ?_
    refine mv_lpick [0, 1, 2] rfl ?_
    exact go _
  · skip
    have k4 : 2 ≤ h9 ∧ u < 8193 := hd9.elim (fun q => q.2) (fun q => absurd h4 q.1)
    have k5 := sub_one (x := mv_i σ 64 4) (by omega)
    have go := fun x9 => j15 (mc_pop σ) x9 hR (MF0.si ⟨rfl, Or.inl rfl⟩) hT hU (show 1 ≤ (mv_i σ 64 4 - 1).toInt by omega) (show (mv_i σ 64 4 - 1).toInt ≤ 1024 by omega) (Or.inl ⟨h4, show (mv_i σ 64 4 - 1).toInt + 1 = h9 by omega, k4.2⟩)
    refine mv_aload_n (pc := 7) B d_Machine_ofCell_7 rfl 0 rfl ?_
    refine mv_callVl (pc := 8) (n := 0) (ci := 9) (C := R_Machine) B (mK_ok sk sv) hNs rfl rfl (c_Machine_pop_a l hi _ hR (by omega) (by omega)) rfl (ma_goodc kc_Machine_pop) (B.2.2.2.1 _ k_1592) (B.2.2.2.1 _ k_1594) (B.2.2.2.1 _ ks_72) (B.2.2.2.1 _ k_11) ⟨by decide +kernel, by decide +kernel, by decide +kernel⟩ rfl d_Machine_ofCell_8 rfl (Nat.le_of_ble_eq_true rfl) ⟨by decide, by decide⟩ ⟨by decide, by decide⟩ ⟨by decide, by decide⟩ (mv_noH hno _) (fun v8 σ8 h8 => ?_)
    subst h8
    refine mv_goto (pc := 11) (tgt := 15) B d_Machine_ofCell_11 rfl ?_
    refine mv_lpick [0, 1, 2] rfl ?_
    exact go _
set_option maxHeartbeats 4000000 in
set_option maxRecDepth 100000 in
theorem c_Machine_ofCell_b (l : Launch) {dA : FieldType → ClassId} {D : va_G} {al : Nat → Nat} {ext : mv_Sh} {sk sv : Nat → Nat} (hi : mv_inj (mg dA D al ext)) (σ : mv_H) (d fi : Int32) (hR : Rf 48 (mv_r σ)) (th sl : Nat) (hT : Th 48 σ th sl) (fn : Nat) (hf : fi.toInt = fn) (hft : fn < th) (h9 : Nat) (hh : (mv_i σ 64 4).toInt = h9) (hh1 : h9 ≤ 1024) (u : Nat) (hU : Un σ u) (hd9 : (d = 315 ∧ 2 ≤ h9 ∧ u < 8193) ∨ (¬ d = 315 ∧ 1 ≤ h9)) : mv_C l y_Machine_ofCell (Cond.code y_Machine_ofCell b_Machine_ofCell 7 (Option.some Jvm.ClassFile.FieldType.boolean) :: ma) ({ frames := 3, cells := 0, slots := 0, locals := 69 }) (mg dA D al ext) (mK sk sv) [.ref (al 64), .int d, .int fi] σ (mv_Ri (fun v σ1 => MF σ σ1 ∧ ((v = 0 ∧ Un σ1 u) ∨ (v = 1 ∧ ((d = 315 ∧ Un σ1 (u + 1) ∧ (mv_i σ1 64 4).toInt + 2 = h9) ∨ (¬ d = 315 ∧ Un σ1 u ∧ (mv_i σ1 64 4).toInt = h9)))))) := by
  refine mv_C.ofV (cc := b_Machine_ofCell) (nL := 7) (ret := (Option.some Jvm.ClassFile.FieldType.boolean)) (by decide +kernel) rfl hi (Nat.le_of_ble_eq_true rfl) ?_
  intro p e s m below meth c B hNs hr hnm hno
  have hfz : fi.toNatClampNeg = fn := by have := i32_cl (x := fi) (by omega); omega
  have ht64 := hT.2.1
  obtain ⟨c9, f9, hc9, hf9, hs1, hs2⟩ := hT.2.2.2.2.2.2.1 fn hft
  have hsl := hT.2.2.2.1
  have j15 : ∀ (τ : mv_H) (x9 : Int64) (qR : Rf 48 (mv_r τ)) (qF : MF σ τ) (qT : Th 48 τ th sl) (qU : Un τ u) (q1 : 1 ≤ (mv_i τ 64 4).toInt) (q2 : (mv_i τ 64 4).toInt ≤ 1024) (qt : (d = 315 ∧ (mv_i τ 64 4).toInt + 1 = h9 ∧ u < 8193) ∨ (¬ d = 315 ∧ (mv_i τ 64 4).toInt = h9)), mv_V p l e ({ frames := 3, cells := 0, slots := 0, locals := 69 }) s m ([.ref (al 64), .int d, .int fi] : List Value).toArray below meth c (mg dA D al ext) 7 0 0 (mv_Q (mg dA D al ext) below s 0 0 (mv_Ri (fun v σ1 => MF σ σ1 ∧ ((v = 0 ∧ Un σ1 u) ∨ (v = 1 ∧ ((d = 315 ∧ Un σ1 (u + 1) ∧ (mv_i σ1 64 4).toInt + 2 = h9) ∨ (¬ d = 315 ∧ Un σ1 u ∧ (mv_i σ1 64 4).toInt = h9))))))) τ 15 [(0, .ref (al 64)), (1, .int d), (2, .int fi)] [.long x9] := by
    intro τ x9 qR qF qT qU q1 q2 qt
    refine mv_lstore_n (pc := 15) B d_Machine_ofCell_15 rfl (by decide) rfl ?_
    refine mv_aload_n (pc := 16) B d_Machine_ofCell_16 rfl 1 rfl ?_
    refine mv_callVl (pc := 17) (n := 0) (ci := 9) (C := R_Machine) B (mK_ok sk sv) hNs rfl rfl (c_Machine_pop_b l hi _ qR (by omega) (by omega)) rfl (ma_goodc kc_Machine_pop) (B.2.2.2.1 _ k_1592) (B.2.2.2.1 _ k_1594) (B.2.2.2.1 _ ks_72) (B.2.2.2.1 _ k_11) ⟨by decide +kernel, by decide +kernel, by decide +kernel⟩ rfl d_Machine_ofCell_17 rfl (Nat.le_of_ble_eq_true rfl) ⟨by decide, by decide⟩ ⟨by decide, by decide⟩ ⟨by decide, by decide⟩ (mv_noH hno _) (fun v17 σ17 h17 => ?_)
    subst h17
    refine mv_gen (fun S eS => ?_)
    have qR : Rf 48 (mv_r S) := by rw [eS]; exact qR
    have sR := qR
    have sT : Th 48 S th sl := by rw [eS]; exact qT
    have s3 : mv_a S 51 fn = mv_a σ 51 fn := by rw [eS]; show mv_a τ 51 fn = _; rw [qF.2.1 _ (by decide)]
    have s2 : mv_a S 50 = mv_a σ 50 := by rw [eS]; exact qF.2.1 _ (by decide)
    have s3b : mv_a S 51 = mv_a σ 51 := by rw [eS]; exact qF.2.1 _ (by decide)
    have sc : (mv_a S 50 fi.toNatClampNeg).toInt = c9 := by rw [s2, hfz]; exact hc9
    have sf : (mv_a S 51 fi.toNatClampNeg).toInt = f9 := by rw [s3b, hfz]; exact hf9
    have sU : Un S u := by rw [eS]; exact qU
    have sF : MF σ S := by rw [eS]; exact qF.si ⟨rfl, Or.inl rfl⟩
    have st : (mv_i S 64 4).toInt = (mv_i τ 64 4).toInt - 1 := by rw [eS]; exact sub_one (by omega)
    clear eS
    refine mv_lstore (pc := 20) B d_Machine_ofCell_20 (by decide) rfl ?_
    refine mv_lload (pc := 22) B d_Machine_ofCell_22 0 rfl ?_
    refine mv_lconst (pc := 24) (v := 0) B d_Machine_ofCell_24 (by decide) ?_
    refine mv_lcmp (pc := 25) B d_Machine_ofCell_25 ?_
    refine mv_if_lt (pc := 26) (tgt := 45) B d_Machine_ofCell_26 rfl (fun h26 => ?_) (fun h26 => ?_)
    · skip
      refine mv_iconst (pc := 45) (v := 0) B d_Machine_ofCell_45 (by decide) ?_
      exact mv_iret (pc := 46) B hr rfl d_Machine_ofCell_46 (Nat.le_refl _) (Nat.le_refl _) ⟨_, rfl, sF, Or.inl ⟨rfl, sU⟩⟩
    · skip
      have k26 : 0 ≤ v17.toInt := by have := mt (lg_cmp_lt _ _).mpr h26; rw [Int64.lt_iff_toInt_lt] at this; simp only [Int64.reduceToInt] at this; omega
      refine mv_lload (pc := 29) B d_Machine_ofCell_29 0 rfl ?_
      refine mv_aload_n (pc := 31) B d_Machine_ofCell_31 rfl 2 rfl ?_
      refine mv_getR (pc := 32) (ci := 9) (C := R_Machine) (T := F_Machine) (N := 13) B 0 rfl rfl (by decide) i_Machine (B.2.2.2.1 _ k_440) rfl qR.2.2 d_Machine_ofCell_32 ?_
      refine mv_getR (pc := 35) (ci := 7) (C := R_Program) (T := F_Program) (N := 19) B 3 rfl rfl (by decide) i_Program (B.2.2.2.1 _ k_324) rfl (qR.2.1 _ 3 50 rfl) d_Machine_ofCell_35 ?_
      refine mv_iload_n (pc := 38) B d_Machine_ofCell_38 rfl 4 rfl ?_
      refine mv_iald (pc := 39) B rfl (i32_in (by omega) (by omega)) d_Machine_ofCell_39 ?_
      refine mv_i2l (pc := 40) B d_Machine_ofCell_40 ?_
      refine mv_lcmp (pc := 41) B d_Machine_ofCell_41 ?_
      refine mv_if_lt (pc := 42) (tgt := 47) B d_Machine_ofCell_42 rfl (fun h42 => ?_) (fun h42 => ?_)
      · skip
        have k42 : v17.toInt < c9 := by have := (lg_cmp_lt _ _).mp h42; rw [Int64.lt_iff_toInt_lt, lg_toInt] at this; rw [← sc]; exact this
        have k43 : v17.toInt32.toInt = v17.toInt := l2i_nn k26 (by omega)
        refine mv_iload_n (pc := 47) B d_Machine_ofCell_47 rfl 3 rfl ?_
        refine mv_sipush (pc := 48) (v := 315) B d_Machine_ofCell_48 (by decide) ?_
        refine mv_icmp_ne (pc := 51) (tgt := 66) B d_Machine_ofCell_51 rfl (fun h51 => ?_) (fun h51 => ?_)
        · skip
          have k51 := qt.resolve_left (fun q => h51 q.1)
          refine mv_aload_n (pc := 66) B d_Machine_ofCell_66 rfl 2 rfl ?_
          refine mv_aload_n (pc := 67) B d_Machine_ofCell_67 rfl 2 rfl ?_
          refine mv_getR (pc := 68) (ci := 9) (C := R_Machine) (T := F_Machine) (N := 13) B 1 rfl rfl (by decide) i_Machine (B.2.2.2.1 _ k_442) rfl (qR.1 _ 1 _ rfl) d_Machine_ofCell_68 ?_
          refine mv_aload_n (pc := 71) B d_Machine_ofCell_71 rfl 2 rfl ?_
          refine mv_getR (pc := 72) (ci := 9) (C := R_Machine) (T := F_Machine) (N := 13) B 0 rfl rfl (by decide) i_Machine (B.2.2.2.1 _ k_440) rfl qR.2.2 d_Machine_ofCell_72 ?_
          refine mv_getR (pc := 75) (ci := 7) (C := R_Program) (T := F_Program) (N := 19) B 4 rfl rfl (by decide) i_Program (B.2.2.2.1 _ k_327) rfl (qR.2.1 _ 4 51 rfl) d_Machine_ofCell_75 ?_
          refine mv_iload_n (pc := 78) B d_Machine_ofCell_78 rfl 4 rfl ?_
          refine mv_iald (pc := 79) B rfl (i32_in (by omega) (by omega)) d_Machine_ofCell_79 ?_
          refine mv_lload (pc := 80) B d_Machine_ofCell_80 0 rfl ?_
          refine mv_l2i (pc := 82) B d_Machine_ofCell_82 ?_
          refine mv_iadd (pc := 83) B d_Machine_ofCell_83 ?_
          refine mv_topi (fun y83 ey83 => ?_)
          have fy83 := i32_addE ey83 (by (try simp only [Int32.reduceToInt]); omega) (by (try simp only [Int32.reduceToInt]); omega)
          try simp only [Int32.reduceToInt] at fy83
          refine mv_lald (pc := 84) B rfl (i32_in (by omega) (by omega)) d_Machine_ofCell_84 ?_
          refine mv_callVv (pc := 85) (n := 1) (ci := 9) (C := R_Machine) B (mK_ok sk sv) hNs rfl rfl (c_Machine_push_b l hi _ _ sR (by omega) (by omega)) rfl (ma_goodc kc_Machine_push) (B.2.2.2.1 _ k_1584) (B.2.2.2.1 _ k_1586) (B.2.2.2.1 _ ks_70) (B.2.2.2.1 _ k_11) ⟨by decide +kernel, by decide +kernel, by decide +kernel⟩ rfl d_Machine_ofCell_85 rfl (Nat.le_of_ble_eq_true rfl) ⟨by decide, by decide⟩ ⟨by decide, by decide⟩ ⟨by decide, by decide⟩ (mv_noH hno _) (fun σ85 h85 => ?_)
          have hend : MF σ σ85 ∧ ((d = 315 ∧ Un σ85 (u + 1) ∧ (mv_i σ85 64 4).toInt + 2 = h9) ∨ (¬ d = 315 ∧ Un σ85 u ∧ (mv_i σ85 64 4).toInt = h9)) := by
            subst h85
            exact ⟨(sF.sb (Or.inr (Or.inr (Or.inl rfl)))).si ⟨rfl, Or.inl rfl⟩, Or.inr ⟨h51, sU, by show (mv_i S 64 4 + 1).toInt = h9; rw [i32_inc (by omega)]; omega⟩⟩
          refine mv_iconst (pc := 88) (v := 1) B d_Machine_ofCell_88 (by decide) ?_
          exact mv_iret (pc := 89) B hr rfl d_Machine_ofCell_89 (Nat.le_refl _) (Nat.le_refl _) ⟨_, rfl, hend.1, Or.inr ⟨rfl, hend.2⟩⟩
        · skip
          have k51 := qt.resolve_right (fun q => q.1 h51)
          refine mv_aload_n (pc := 54) B d_Machine_ofCell_54 rfl 2 rfl ?_
          refine mv_iload_n (pc := 55) B d_Machine_ofCell_55 rfl 4 rfl ?_
          refine mv_lload (pc := 56) B d_Machine_ofCell_56 0 rfl ?_
          refine mv_l2i (pc := 58) B d_Machine_ofCell_58 ?_
          refine mv_lload_n (pc := 59) B d_Machine_ofCell_59 rfl 1 rfl ?_
          refine mv_callVv (pc := 60) (n := 3) (ci := 9) (C := R_Machine) B (mK_ok sk sv) hNs rfl rfl (c_Machine_assign_b l hi _ _ _ _ sR th sl sT fn hf hft (by omega) (by rw [s3, hf9]; omega) (by rw [s3, hf9]; omega) u sU k51.2.2) rfl (ma_goodc kc_Machine_assign) (B.2.2.2.1 _ k_1596) (B.2.2.2.1 _ k_1598) (B.2.2.2.1 _ ks_73) (B.2.2.2.1 _ k_11) ⟨by decide +kernel, by decide +kernel, by decide +kernel⟩ rfl d_Machine_ofCell_60 rfl (Nat.le_of_ble_eq_true rfl) ⟨by decide, by decide⟩ ⟨by decide, by decide⟩ ⟨by decide, by decide⟩ (mv_noH hno _) (fun σ60 h60 => ?_)
          obtain ⟨f60, u60, t60⟩ := h60
          have hend : MF σ σ60 ∧ ((d = 315 ∧ Un σ60 (u + 1) ∧ (mv_i σ60 64 4).toInt + 2 = h9) ∨ (¬ d = 315 ∧ Un σ60 u ∧ (mv_i σ60 64 4).toInt = h9)) := ⟨sF.tr f60, Or.inl ⟨h51, u60, by rw [t60]; omega⟩⟩
          refine mv_goto (pc := 63) (tgt := 88) B d_Machine_ofCell_63 rfl ?_
          refine mv_iconst (pc := 88) (v := 1) B d_Machine_ofCell_88 (by decide) ?_
          exact mv_iret (pc := 89) B hr rfl d_Machine_ofCell_89 (Nat.le_refl _) (Nat.le_refl _) ⟨_, rfl, hend.1, Or.inr ⟨rfl, hend.2⟩⟩
      · skip
        refine mv_iconst (pc := 45) (v := 0) B d_Machine_ofCell_45 (by decide) ?_
        exact mv_iret (pc := 46) B hr rfl d_Machine_ofCell_46 (Nat.le_refl _) (Nat.le_refl _) ⟨_, rfl, sF, Or.inl ⟨rfl, sU⟩⟩
  refine mv_iload_n (pc := 0) B d_Machine_ofCell_0 rfl 1 rfl ?_
  refine mv_sipush (pc := 1) (v := 315) B d_Machine_ofCell_1 (by decide) ?_
  refine mv_icmp_ne (pc := 4) (tgt := 14) B d_Machine_ofCell_4 rfl (fun h4 => ?_) (fun h4 => ?_)
  · skip
    have k4 : 1 ≤ h9 := hd9.elim (fun q => absurd q.1 h4) (fun q => q.2)
    have go := fun x9 => j15 σ x9 hR MF0 hT hU (by omega) (by omega) (Or.inr ⟨h4, hh⟩)
    refine mv_lconst (pc := 14) (v := 0) B d_Machine_ofCell_14 (by decide) ?_
    refine mv_lpick [0, 1, 2] rfl ?_
    exact go _
  · skip
    have k4 : 2 ≤ h9 ∧ u < 8193 := hd9.elim (fun q => q.2) (fun q => absurd h4 q.1)
    have k5 := sub_one (x := mv_i σ 64 4) (by omega)
    have go := fun x9 => j15 (mc_pop σ) x9 hR (MF0.si ⟨rfl, Or.inl rfl⟩) hT hU (show 1 ≤ (mv_i σ 64 4 - 1).toInt by omega) (show (mv_i σ 64 4 - 1).toInt ≤ 1024 by omega) (Or.inl ⟨h4, show (mv_i σ 64 4 - 1).toInt + 1 = h9 by omega, k4.2⟩)
    refine mv_aload_n (pc := 7) B d_Machine_ofCell_7 rfl 0 rfl ?_
    refine mv_callVl (pc := 8) (n := 0) (ci := 9) (C := R_Machine) B (mK_ok sk sv) hNs rfl rfl (c_Machine_pop_b l hi _ hR (by omega) (by omega)) rfl (ma_goodc kc_Machine_pop) (B.2.2.2.1 _ k_1592) (B.2.2.2.1 _ k_1594) (B.2.2.2.1 _ ks_72) (B.2.2.2.1 _ k_11) ⟨by decide +kernel, by decide +kernel, by decide +kernel⟩ rfl d_Machine_ofCell_8 rfl (Nat.le_of_ble_eq_true rfl) ⟨by decide, by decide⟩ ⟨by decide, by decide⟩ ⟨by decide, by decide⟩ (mv_noH hno _) (fun v8 σ8 h8 => ?_)
    subst h8
    refine mv_goto (pc := 11) (tgt := 15) B d_Machine_ofCell_11 rfl ?_
    refine mv_lpick [0, 1, 2] rfl ?_
    exact go _
set_option maxHeartbeats 4000000 in
set_option maxRecDepth 100000 in
theorem c_Machine_ofCell_c (l : Launch) {dA : FieldType → ClassId} {D : va_G} {al : Nat → Nat} {sk sv : Nat → Nat} (hi : mv_inj (mg dA D al me)) (σ : mv_H) (d fi : Int32) (hR : Rf 145 (mv_r σ)) (th sl : Nat) (hT : Th 145 σ th sl) (fn : Nat) (hf : fi.toInt = fn) (hft : fn < th) (h9 : Nat) (hh : (mv_i σ 64 4).toInt = h9) (hh1 : h9 ≤ 1024) (u : Nat) (hU : Un σ u) (hd9 : (d = 315 ∧ 2 ≤ h9 ∧ u < 8193) ∨ (¬ d = 315 ∧ 1 ≤ h9)) : mv_C l y_Machine_ofCell (Cond.code y_Machine_ofCell b_Machine_ofCell 7 (Option.some Jvm.ClassFile.FieldType.boolean) :: ma) ({ frames := 3, cells := 0, slots := 0, locals := 69 }) (mg dA D al me) (mK sk sv) [.ref (al 64), .int d, .int fi] σ (mv_Ri (fun v σ1 => MF σ σ1 ∧ ((v = 0 ∧ Un σ1 u) ∨ (v = 1 ∧ ((d = 315 ∧ Un σ1 (u + 1) ∧ (mv_i σ1 64 4).toInt + 2 = h9) ∨ (¬ d = 315 ∧ Un σ1 u ∧ (mv_i σ1 64 4).toInt = h9)))))) := by
  refine mv_C.ofV (cc := b_Machine_ofCell) (nL := 7) (ret := (Option.some Jvm.ClassFile.FieldType.boolean)) (by decide +kernel) rfl hi (Nat.le_of_ble_eq_true rfl) ?_
  intro p e s m below meth c B hNs hr hnm hno
  have hfz : fi.toNatClampNeg = fn := by have := i32_cl (x := fi) (by omega); omega
  have ht64 := hT.2.1
  obtain ⟨c9, f9, hc9, hf9, hs1, hs2⟩ := hT.2.2.2.2.2.2.1 fn hft
  have hsl := hT.2.2.2.1
  have j15 : ∀ (τ : mv_H) (x9 : Int64) (qR : Rf 145 (mv_r τ)) (qF : MF σ τ) (qT : Th 145 τ th sl) (qU : Un τ u) (q1 : 1 ≤ (mv_i τ 64 4).toInt) (q2 : (mv_i τ 64 4).toInt ≤ 1024) (qt : (d = 315 ∧ (mv_i τ 64 4).toInt + 1 = h9 ∧ u < 8193) ∨ (¬ d = 315 ∧ (mv_i τ 64 4).toInt = h9)), mv_V p l e ({ frames := 3, cells := 0, slots := 0, locals := 69 }) s m ([.ref (al 64), .int d, .int fi] : List Value).toArray below meth c (mg dA D al me) 7 0 0 (mv_Q (mg dA D al me) below s 0 0 (mv_Ri (fun v σ1 => MF σ σ1 ∧ ((v = 0 ∧ Un σ1 u) ∨ (v = 1 ∧ ((d = 315 ∧ Un σ1 (u + 1) ∧ (mv_i σ1 64 4).toInt + 2 = h9) ∨ (¬ d = 315 ∧ Un σ1 u ∧ (mv_i σ1 64 4).toInt = h9))))))) τ 15 [(0, .ref (al 64)), (1, .int d), (2, .int fi)] [.long x9] := by
    intro τ x9 qR qF qT qU q1 q2 qt
    refine mv_lstore_n (pc := 15) B d_Machine_ofCell_15 rfl (by decide) rfl ?_
    refine mv_aload_n (pc := 16) B d_Machine_ofCell_16 rfl 1 rfl ?_
    refine mv_callVl (pc := 17) (n := 0) (ci := 9) (C := R_Machine) B (mK_ok sk sv) hNs rfl rfl (c_Machine_pop_c l hi _ qR (by omega) (by omega)) rfl (ma_goodc kc_Machine_pop) (B.2.2.2.1 _ k_1592) (B.2.2.2.1 _ k_1594) (B.2.2.2.1 _ ks_72) (B.2.2.2.1 _ k_11) ⟨by decide +kernel, by decide +kernel, by decide +kernel⟩ rfl d_Machine_ofCell_17 rfl (Nat.le_of_ble_eq_true rfl) ⟨by decide, by decide⟩ ⟨by decide, by decide⟩ ⟨by decide, by decide⟩ (mv_noH hno _) (fun v17 σ17 h17 => ?_)
    subst h17
    refine mv_gen (fun S eS => ?_)
    have qR : Rf 145 (mv_r S) := by rw [eS]; exact qR
    have sR := qR
    have sT : Th 145 S th sl := by rw [eS]; exact qT
    have s3 : mv_a S 148 fn = mv_a σ 148 fn := by rw [eS]; show mv_a τ 148 fn = _; rw [qF.2.1 _ (by decide)]
    have s2 : mv_a S 147 = mv_a σ 147 := by rw [eS]; exact qF.2.1 _ (by decide)
    have s3b : mv_a S 148 = mv_a σ 148 := by rw [eS]; exact qF.2.1 _ (by decide)
    have sc : (mv_a S 147 fi.toNatClampNeg).toInt = c9 := by rw [s2, hfz]; exact hc9
    have sf : (mv_a S 148 fi.toNatClampNeg).toInt = f9 := by rw [s3b, hfz]; exact hf9
    have sU : Un S u := by rw [eS]; exact qU
    have sF : MF σ S := by rw [eS]; exact qF.si ⟨rfl, Or.inl rfl⟩
    have st : (mv_i S 64 4).toInt = (mv_i τ 64 4).toInt - 1 := by rw [eS]; exact sub_one (by omega)
    clear eS
    refine mv_lstore (pc := 20) B d_Machine_ofCell_20 (by decide) rfl ?_
    refine mv_lload (pc := 22) B d_Machine_ofCell_22 0 rfl ?_
    refine mv_lconst (pc := 24) (v := 0) B d_Machine_ofCell_24 (by decide) ?_
    refine mv_lcmp (pc := 25) B d_Machine_ofCell_25 ?_
    refine mv_if_lt (pc := 26) (tgt := 45) B d_Machine_ofCell_26 rfl (fun h26 => ?_) (fun h26 => ?_)
    · skip
      refine mv_iconst (pc := 45) (v := 0) B d_Machine_ofCell_45 (by decide) ?_
      exact mv_iret (pc := 46) B hr rfl d_Machine_ofCell_46 (Nat.le_refl _) (Nat.le_refl _) ⟨_, rfl, sF, Or.inl ⟨rfl, sU⟩⟩
    · skip
      have k26 : 0 ≤ v17.toInt := by have := mt (lg_cmp_lt _ _).mpr h26; rw [Int64.lt_iff_toInt_lt] at this; simp only [Int64.reduceToInt] at this; omega
      refine mv_lload (pc := 29) B d_Machine_ofCell_29 0 rfl ?_
      refine mv_aload_n (pc := 31) B d_Machine_ofCell_31 rfl 2 rfl ?_
      refine mv_getR (pc := 32) (ci := 9) (C := R_Machine) (T := F_Machine) (N := 13) B 0 rfl rfl (by decide) i_Machine (B.2.2.2.1 _ k_440) rfl qR.2.2 d_Machine_ofCell_32 ?_
      refine mv_getR (pc := 35) (ci := 7) (C := R_Program) (T := F_Program) (N := 19) B 3 rfl rfl (by decide) i_Program (B.2.2.2.1 _ k_324) rfl (qR.2.1 _ 3 147 rfl) d_Machine_ofCell_35 ?_
      refine mv_iload_n (pc := 38) B d_Machine_ofCell_38 rfl 4 rfl ?_
      refine mv_iald (pc := 39) B rfl (i32_in (by omega) (by omega)) d_Machine_ofCell_39 ?_
      refine mv_i2l (pc := 40) B d_Machine_ofCell_40 ?_
      refine mv_lcmp (pc := 41) B d_Machine_ofCell_41 ?_
      refine mv_if_lt (pc := 42) (tgt := 47) B d_Machine_ofCell_42 rfl (fun h42 => ?_) (fun h42 => ?_)
      · skip
        have k42 : v17.toInt < c9 := by have := (lg_cmp_lt _ _).mp h42; rw [Int64.lt_iff_toInt_lt, lg_toInt] at this; rw [← sc]; exact this
        have k43 : v17.toInt32.toInt = v17.toInt := l2i_nn k26 (by omega)
        refine mv_iload_n (pc := 47) B d_Machine_ofCell_47 rfl 3 rfl ?_
        refine mv_sipush (pc := 48) (v := 315) B d_Machine_ofCell_48 (by decide) ?_
        refine mv_icmp_ne (pc := 51) (tgt := 66) B d_Machine_ofCell_51 rfl (fun h51 => ?_) (fun h51 => ?_)
        · skip
          have k51 := qt.resolve_left (fun q => h51 q.1)
          refine mv_aload_n (pc := 66) B d_Machine_ofCell_66 rfl 2 rfl ?_
          refine mv_aload_n (pc := 67) B d_Machine_ofCell_67 rfl 2 rfl ?_
          refine mv_getR (pc := 68) (ci := 9) (C := R_Machine) (T := F_Machine) (N := 13) B 1 rfl rfl (by decide) i_Machine (B.2.2.2.1 _ k_442) rfl (qR.1 _ 1 _ rfl) d_Machine_ofCell_68 ?_
          refine mv_aload_n (pc := 71) B d_Machine_ofCell_71 rfl 2 rfl ?_
          refine mv_getR (pc := 72) (ci := 9) (C := R_Machine) (T := F_Machine) (N := 13) B 0 rfl rfl (by decide) i_Machine (B.2.2.2.1 _ k_440) rfl qR.2.2 d_Machine_ofCell_72 ?_
          refine mv_getR (pc := 75) (ci := 7) (C := R_Program) (T := F_Program) (N := 19) B 4 rfl rfl (by decide) i_Program (B.2.2.2.1 _ k_327) rfl (qR.2.1 _ 4 148 rfl) d_Machine_ofCell_75 ?_
          refine mv_iload_n (pc := 78) B d_Machine_ofCell_78 rfl 4 rfl ?_
          refine mv_iald (pc := 79) B rfl (i32_in (by omega) (by omega)) d_Machine_ofCell_79 ?_
          refine mv_lload (pc := 80) B d_Machine_ofCell_80 0 rfl ?_
          refine mv_l2i (pc := 82) B d_Machine_ofCell_82 ?_
          refine mv_iadd (pc := 83) B d_Machine_ofCell_83 ?_
          refine mv_topi (fun y83 ey83 => ?_)
          have fy83 := i32_addE ey83 (by (try simp only [Int32.reduceToInt]); omega) (by (try simp only [Int32.reduceToInt]); omega)
          try simp only [Int32.reduceToInt] at fy83
          refine mv_lald (pc := 84) B rfl (i32_in (by omega) (by omega)) d_Machine_ofCell_84 ?_
          refine mv_callVv (pc := 85) (n := 1) (ci := 9) (C := R_Machine) B (mK_ok sk sv) hNs rfl rfl (c_Machine_push_c l hi _ _ sR (by omega) (by omega)) rfl (ma_goodc kc_Machine_push) (B.2.2.2.1 _ k_1584) (B.2.2.2.1 _ k_1586) (B.2.2.2.1 _ ks_70) (B.2.2.2.1 _ k_11) ⟨by decide +kernel, by decide +kernel, by decide +kernel⟩ rfl d_Machine_ofCell_85 rfl (Nat.le_of_ble_eq_true rfl) ⟨by decide, by decide⟩ ⟨by decide, by decide⟩ ⟨by decide, by decide⟩ (mv_noH hno _) (fun σ85 h85 => ?_)
          have hend : MF σ σ85 ∧ ((d = 315 ∧ Un σ85 (u + 1) ∧ (mv_i σ85 64 4).toInt + 2 = h9) ∨ (¬ d = 315 ∧ Un σ85 u ∧ (mv_i σ85 64 4).toInt = h9)) := by
            subst h85
            exact ⟨(sF.sb (Or.inr (Or.inr (Or.inl rfl)))).si ⟨rfl, Or.inl rfl⟩, Or.inr ⟨h51, sU, by show (mv_i S 64 4 + 1).toInt = h9; rw [i32_inc (by omega)]; omega⟩⟩
          refine mv_iconst (pc := 88) (v := 1) B d_Machine_ofCell_88 (by decide) ?_
          exact mv_iret (pc := 89) B hr rfl d_Machine_ofCell_89 (Nat.le_refl _) (Nat.le_refl _) ⟨_, rfl, hend.1, Or.inr ⟨rfl, hend.2⟩⟩
        · skip
          have k51 := qt.resolve_right (fun q => q.1 h51)
          refine mv_aload_n (pc := 54) B d_Machine_ofCell_54 rfl 2 rfl ?_
          refine mv_iload_n (pc := 55) B d_Machine_ofCell_55 rfl 4 rfl ?_
          refine mv_lload (pc := 56) B d_Machine_ofCell_56 0 rfl ?_
          refine mv_l2i (pc := 58) B d_Machine_ofCell_58 ?_
          refine mv_lload_n (pc := 59) B d_Machine_ofCell_59 rfl 1 rfl ?_
          refine mv_callVv (pc := 60) (n := 3) (ci := 9) (C := R_Machine) B (mK_ok sk sv) hNs rfl rfl (c_Machine_assign_c l hi _ _ _ _ sR th sl sT fn hf hft (by omega) (by rw [s3, hf9]; omega) (by rw [s3, hf9]; omega) u sU k51.2.2) rfl (ma_goodc kc_Machine_assign) (B.2.2.2.1 _ k_1596) (B.2.2.2.1 _ k_1598) (B.2.2.2.1 _ ks_73) (B.2.2.2.1 _ k_11) ⟨by decide +kernel, by decide +kernel, by decide +kernel⟩ rfl d_Machine_ofCell_60 rfl (Nat.le_of_ble_eq_true rfl) ⟨by decide, by decide⟩ ⟨by decide, by decide⟩ ⟨by decide, by decide⟩ (mv_noH hno _) (fun σ60 h60 => ?_)
          obtain ⟨f60, u60, t60⟩ := h60
          have hend : MF σ σ60 ∧ ((d = 315 ∧ Un σ60 (u + 1) ∧ (mv_i σ60 64 4).toInt + 2 = h9) ∨ (¬ d = 315 ∧ Un σ60 u ∧ (mv_i σ60 64 4).toInt = h9)) := ⟨sF.tr f60, Or.inl ⟨h51, u60, by rw [t60]; omega⟩⟩
          refine mv_goto (pc := 63) (tgt := 88) B d_Machine_ofCell_63 rfl ?_
          refine mv_iconst (pc := 88) (v := 1) B d_Machine_ofCell_88 (by decide) ?_
          exact mv_iret (pc := 89) B hr rfl d_Machine_ofCell_89 (Nat.le_refl _) (Nat.le_refl _) ⟨_, rfl, hend.1, Or.inr ⟨rfl, hend.2⟩⟩
      · skip
        refine mv_iconst (pc := 45) (v := 0) B d_Machine_ofCell_45 (by decide) ?_
        exact mv_iret (pc := 46) B hr rfl d_Machine_ofCell_46 (Nat.le_refl _) (Nat.le_refl _) ⟨_, rfl, sF, Or.inl ⟨rfl, sU⟩⟩
  refine mv_iload_n (pc := 0) B d_Machine_ofCell_0 rfl 1 rfl ?_
  refine mv_sipush (pc := 1) (v := 315) B d_Machine_ofCell_1 (by decide) ?_
  refine mv_icmp_ne (pc := 4) (tgt := 14) B d_Machine_ofCell_4 rfl (fun h4 => ?_) (fun h4 => ?_)
  · skip
    have k4 : 1 ≤ h9 := hd9.elim (fun q => absurd q.1 h4) (fun q => q.2)
    have go := fun x9 => j15 σ x9 hR MF0 hT hU (by omega) (by omega) (Or.inr ⟨h4, hh⟩)
    refine mv_lconst (pc := 14) (v := 0) B d_Machine_ofCell_14 (by decide) ?_
    refine mv_lpick [0, 1, 2] rfl ?_
    exact go _
  · skip
    have k4 : 2 ≤ h9 ∧ u < 8193 := hd9.elim (fun q => q.2) (fun q => absurd h4 q.1)
    have k5 := sub_one (x := mv_i σ 64 4) (by omega)
    have go := fun x9 => j15 (mc_pop σ) x9 hR (MF0.si ⟨rfl, Or.inl rfl⟩) hT hU (show 1 ≤ (mv_i σ 64 4 - 1).toInt by omega) (show (mv_i σ 64 4 - 1).toInt ≤ 1024 by omega) (Or.inl ⟨h4, show (mv_i σ 64 4 - 1).toInt + 1 = h9 by omega, k4.2⟩)
    refine mv_aload_n (pc := 7) B d_Machine_ofCell_7 rfl 0 rfl ?_
    refine mv_callVl (pc := 8) (n := 0) (ci := 9) (C := R_Machine) B (mK_ok sk sv) hNs rfl rfl (c_Machine_pop_c l hi _ hR (by omega) (by omega)) rfl (ma_goodc kc_Machine_pop) (B.2.2.2.1 _ k_1592) (B.2.2.2.1 _ k_1594) (B.2.2.2.1 _ ks_72) (B.2.2.2.1 _ k_11) ⟨by decide +kernel, by decide +kernel, by decide +kernel⟩ rfl d_Machine_ofCell_8 rfl (Nat.le_of_ble_eq_true rfl) ⟨by decide, by decide⟩ ⟨by decide, by decide⟩ ⟨by decide, by decide⟩ (mv_noH hno _) (fun v8 σ8 h8 => ?_)
    subst h8
    refine mv_goto (pc := 11) (tgt := 15) B d_Machine_ofCell_11 rfl ?_
    refine mv_lpick [0, 1, 2] rfl ?_
    exact go _
