/-! the reference: its shipped machine -/
theorem and31 (b : Int32) : 0 ≤ (b &&& 31).toInt ∧ (b &&& 31).toInt < 32 := by
  have e := pk_and b (m := 31) 5 (by decide)
  rw [e, nI_toInt (by have := Nat.mod_lt b.toBitVec.toNat (show 0 < 2 ^ 5 by decide); omega)]
  have := Nat.mod_lt b.toBitVec.toNat (show 0 < 2 ^ 5 by decide)
  omega
theorem p5_of {v x y : Int32} (z : v = x &&& y) (hy : y = 31) : 0 ≤ v.toInt ∧ v.toInt < 32 := by
  rw [z, hy]
  exact and31 x
theorem low_ne {q : Int32} (h : ¬ q = 0) : ¬ (q.toInt64 &&& 4294967295) = 0 := fun z => h (by
  have z1 : (q.toInt64 &&& 4294967295).toBitVec = 0#64 := by rw [z]; rfl
  have z2 : q.toBitVec.signExtend 64 &&& 4294967295#64 = 0#64 := z1
  apply Int32.toBitVec_inj.mp
  apply BitVec.eq_of_getLsbD_eq
  intro i hi
  have z3 := congrArg (fun b => b.getLsbD i) z2
  simp only [BitVec.getLsbD_and, BitVec.getLsbD_signExtend, BitVec.getLsbD_zero] at z3
  have m1 : (4294967295#64 : BitVec 64).getLsbD i = true := by
    rw [BitVec.getLsbD_ofNat]
    have : (4294967295 : Nat) = 2 ^ 32 - 1 := by decide
    rw [this, Nat.testBit_two_pow_sub_one]
    simp [hi, show i < 64 by omega]
  rw [m1] at z3
  simp only [show i < 64 by omega, decide_true, Bool.true_and, if_pos hi, Bool.and_true] at z3
  show q.toBitVec.getLsbD i = (0#32).getLsbD i
  rw [BitVec.getLsbD_zero]
  exact z3)
/-- what the shipped machine changes -/
def SM : mv_H → mv_H → Prop := Fx (fun o k => o = 70 ∧ ¬ k = 1 ∧ ¬ k = 11) (fun _ _ => False) (fun o _ => o = 72 ∨ o = 73) (fun _ => False)
theorem SM.tr {σ τ υ : mv_H} (h : SM σ τ) (g : SM τ υ) : SM σ υ := Fx.tr h g
theorem SM.si {σ τ : mv_H} (h : SM σ τ) {k : Nat} {v : Int32} (hk : ¬ k = 1 ∧ ¬ k = 11) : SM σ (mv_si τ 70 k v) := Fx.si h ⟨rfl, hk⟩
theorem SM.x {σ τ : mv_H} (h : SM σ τ) {k : Nat} {v : Int32} : SM σ (mv_sa τ 72 k v) := Fx.sa h (Or.inl rfl)
theorem SM.m {σ τ : mv_H} (h : SM σ τ) {k : Nat} {v : Int32} : SM σ (mv_sa τ 73 k v) := Fx.sa h (Or.inr rfl)
theorem SM.r {σ τ : mv_H} (h : SM σ τ) (hr : mh (mv_r σ)) : mh (mv_r τ) := by rw [h.2.2.1]; exact hr

def y_Model_piece : MethodName := ⟨"MachineLoomModel", "piece", "(III)I"⟩
abbrev b_Model_piece : ByteArray := prog_14_method_6_code
theorem kc_Model_piece : Cond.code y_Model_piece b_Model_piece 3 (Option.some Jvm.ClassFile.FieldType.int) ∈ ma := ma_of (tb_10 _ (List.mem_of_getElem? (i := 202) rfl)) rfl
theorem d_Model_piece_0 : decode b_Model_piece 0 = .ok (.iload_n 0, 1) := by decide +kernel
theorem d_Model_piece_1 : decode b_Model_piece 1 = .ok (.iload_n 2, 1) := by decide +kernel
theorem d_Model_piece_2 : decode b_Model_piece 2 = .ok (.iushr, 1) := by decide +kernel
theorem d_Model_piece_3 : decode b_Model_piece 3 = .ok (.iconst 1, 1) := by decide +kernel
theorem d_Model_piece_4 : decode b_Model_piece 4 = .ok (.iload_n 1, 1) := by decide +kernel
theorem d_Model_piece_5 : decode b_Model_piece 5 = .ok (.iload_n 2, 1) := by decide +kernel
theorem d_Model_piece_6 : decode b_Model_piece 6 = .ok (.isub, 1) := by decide +kernel
theorem d_Model_piece_7 : decode b_Model_piece 7 = .ok (.iconst 1, 1) := by decide +kernel
theorem d_Model_piece_8 : decode b_Model_piece 8 = .ok (.iadd, 1) := by decide +kernel
theorem d_Model_piece_9 : decode b_Model_piece 9 = .ok (.ishl, 1) := by decide +kernel
theorem d_Model_piece_10 : decode b_Model_piece 10 = .ok (.iconst 1, 1) := by decide +kernel
theorem d_Model_piece_11 : decode b_Model_piece 11 = .ok (.isub, 1) := by decide +kernel
theorem d_Model_piece_12 : decode b_Model_piece 12 = .ok (.iand, 1) := by decide +kernel
theorem d_Model_piece_13 : decode b_Model_piece 13 = .ok (.ireturn, 1) := by decide +kernel
set_option maxHeartbeats 4000000 in
set_option maxRecDepth 100000 in
theorem c_Model_piece (l : Launch) {dA : FieldType → ClassId} {D : va_G} {al : Nat → Nat} {ext : mv_Sh} {sk sv : Nat → Nat} (hi : mv_inj (mg dA D al ext)) (σ : mv_H) (w h9 l9 : Int32) : mv_C l y_Model_piece (Cond.code y_Model_piece b_Model_piece 3 (Option.some Jvm.ClassFile.FieldType.int) :: ma) ({ frames := 0, cells := 0, slots := 0, locals := 0 }) (mg dA D al ext) (mK sk sv) [.int w, .int h9, .int l9] σ (mv_Ri (fun v σ1 => σ1 = σ ∧ v = (w.toUInt32 >>> (l9.toUInt32 &&& Int32.toUInt32 31)).toInt32 &&& (((1 : Int32) <<< ((h9 - l9 + 1) &&& 31)) - 1))) := by
  refine mv_C.ofV (cc := b_Model_piece) (nL := 3) (ret := (Option.some Jvm.ClassFile.FieldType.int)) (by decide +kernel) rfl hi (Nat.le_of_ble_eq_true rfl) ?_
  intro p e s m below meth c B hNs hr hnm hno
  refine mv_iload_n (pc := 0) B d_Model_piece_0 rfl 0 rfl ?_
  refine mv_iload_n (pc := 1) B d_Model_piece_1 rfl 2 rfl ?_
  refine mv_iushr (pc := 2) B d_Model_piece_2 ?_
  refine mv_iconst (pc := 3) (v := 1) B d_Model_piece_3 (by decide) ?_
  refine mv_iload_n (pc := 4) B d_Model_piece_4 rfl 1 rfl ?_
  refine mv_iload_n (pc := 5) B d_Model_piece_5 rfl 2 rfl ?_
  refine mv_isub (pc := 6) B d_Model_piece_6 ?_
  refine mv_iconst (pc := 7) (v := 1) B d_Model_piece_7 (by decide) ?_
  refine mv_iadd (pc := 8) B d_Model_piece_8 ?_
  refine mv_ishl (pc := 9) B d_Model_piece_9 ?_
  refine mv_iconst (pc := 10) (v := 1) B d_Model_piece_10 (by decide) ?_
  refine mv_isub (pc := 11) B d_Model_piece_11 ?_
  refine mv_iand (pc := 12) B d_Model_piece_12 ?_
  exact mv_iret (pc := 13) B hr rfl d_Model_piece_13 (Nat.le_refl _) (Nat.le_refl _) ⟨_, rfl, rfl, rfl⟩
def y_Model_immI : MethodName := ⟨"MachineLoomModel", "immI", "(I)I"⟩
abbrev b_Model_immI : ByteArray := prog_14_method_10_code
theorem kc_Model_immI : Cond.code y_Model_immI b_Model_immI 1 (Option.some Jvm.ClassFile.FieldType.int) ∈ ma := ma_of (tb_11 _ (List.mem_of_getElem? (i := 57) rfl)) rfl
theorem d_Model_immI_0 : decode b_Model_immI 0 = .ok (.iload_n 0, 1) := by decide +kernel
theorem d_Model_immI_1 : decode b_Model_immI 1 = .ok (.bipush 20, 2) := by decide +kernel
theorem d_Model_immI_3 : decode b_Model_immI 3 = .ok (.ishr, 1) := by decide +kernel
theorem d_Model_immI_4 : decode b_Model_immI 4 = .ok (.ireturn, 1) := by decide +kernel
set_option maxHeartbeats 4000000 in
set_option maxRecDepth 100000 in
theorem c_Model_immI (l : Launch) {dA : FieldType → ClassId} {D : va_G} {al : Nat → Nat} {ext : mv_Sh} {sk sv : Nat → Nat} (hi : mv_inj (mg dA D al ext)) (σ : mv_H) (w : Int32) : mv_C l y_Model_immI (Cond.code y_Model_immI b_Model_immI 1 (Option.some Jvm.ClassFile.FieldType.int) :: ma) ({ frames := 0, cells := 0, slots := 0, locals := 0 }) (mg dA D al ext) (mK sk sv) [.int w] σ (mv_Ri (fun v σ1 => σ1 = σ)) := by
  refine mv_C.ofV (cc := b_Model_immI) (nL := 1) (ret := (Option.some Jvm.ClassFile.FieldType.int)) (by decide +kernel) rfl hi (Nat.le_of_ble_eq_true rfl) ?_
  intro p e s m below meth c B hNs hr hnm hno
  refine mv_iload_n (pc := 0) B d_Model_immI_0 rfl 0 rfl ?_
  refine mv_bipush (pc := 1) (v := 20) B d_Model_immI_1 (by decide) ?_
  refine mv_ishr (pc := 3) B d_Model_immI_3 ?_
  exact mv_iret (pc := 4) B hr rfl d_Model_immI_4 (Nat.le_refl _) (Nat.le_refl _) ⟨_, rfl, rfl⟩
def y_Model_immS : MethodName := ⟨"MachineLoomModel", "immS", "(I)I"⟩
abbrev b_Model_immS : ByteArray := prog_14_method_11_code
theorem kc_Model_immS : Cond.code y_Model_immS b_Model_immS 1 (Option.some Jvm.ClassFile.FieldType.int) ∈ ma := ma_of (tb_11 _ (List.mem_of_getElem? (i := 85) rfl)) rfl
theorem k_2360 : (Jvm.Cond.methodLink "MachineLoomModel" (44 : Nat) ({ cls := "MachineLoomModel", name := "piece", desc := "(III)I" } : Jvm.MethodName)) ∈ ma := ma_of (tb_10 _ (List.mem_of_getElem? (i := 200) rfl)) rfl
theorem k_2361 : (Jvm.Cond.static ({ cls := "MachineLoomModel", name := "piece", desc := "(III)I" } : Jvm.MethodName)) ∈ ma := ma_of (tb_10 _ (List.mem_of_getElem? (i := 201) rfl)) rfl
theorem d_Model_immS_0 : decode b_Model_immS 0 = .ok (.iload_n 0, 1) := by decide +kernel
theorem d_Model_immS_1 : decode b_Model_immS 1 = .ok (.bipush 25, 2) := by decide +kernel
theorem d_Model_immS_3 : decode b_Model_immS 3 = .ok (.ishr, 1) := by decide +kernel
theorem d_Model_immS_4 : decode b_Model_immS 4 = .ok (.iconst 5, 1) := by decide +kernel
theorem d_Model_immS_5 : decode b_Model_immS 5 = .ok (.ishl, 1) := by decide +kernel
theorem d_Model_immS_6 : decode b_Model_immS 6 = .ok (.iload_n 0, 1) := by decide +kernel
theorem d_Model_immS_7 : decode b_Model_immS 7 = .ok (.bipush 11, 2) := by decide +kernel
theorem d_Model_immS_9 : decode b_Model_immS 9 = .ok (.bipush 7, 2) := by decide +kernel
theorem d_Model_immS_11 : decode b_Model_immS 11 = .ok (.invokestatic 44, 3) := by decide +kernel
theorem d_Model_immS_14 : decode b_Model_immS 14 = .ok (.ior, 1) := by decide +kernel
theorem d_Model_immS_15 : decode b_Model_immS 15 = .ok (.ireturn, 1) := by decide +kernel
set_option maxHeartbeats 4000000 in
set_option maxRecDepth 100000 in
theorem c_Model_immS (l : Launch) {dA : FieldType → ClassId} {D : va_G} {al : Nat → Nat} {ext : mv_Sh} {sk sv : Nat → Nat} (hi : mv_inj (mg dA D al ext)) (σ : mv_H) (w : Int32) : mv_C l y_Model_immS (Cond.code y_Model_immS b_Model_immS 1 (Option.some Jvm.ClassFile.FieldType.int) :: ma) ({ frames := 1, cells := 0, slots := 0, locals := 22 }) (mg dA D al ext) (mK sk sv) [.int w] σ (mv_Ri (fun v σ1 => σ1 = σ)) := by
  refine mv_C.ofV (cc := b_Model_immS) (nL := 1) (ret := (Option.some Jvm.ClassFile.FieldType.int)) (by decide +kernel) rfl hi (Nat.le_of_ble_eq_true rfl) ?_
  intro p e s m below meth c B hNs hr hnm hno
  refine mv_iload_n (pc := 0) B d_Model_immS_0 rfl 0 rfl ?_
  refine mv_bipush (pc := 1) (v := 25) B d_Model_immS_1 (by decide) ?_
  refine mv_ishr (pc := 3) B d_Model_immS_3 ?_
  refine mv_iconst (pc := 4) (v := 5) B d_Model_immS_4 (by decide) ?_
  refine mv_ishl (pc := 5) B d_Model_immS_5 ?_
  refine mv_iload_n (pc := 6) B d_Model_immS_6 rfl 0 rfl ?_
  refine mv_bipush (pc := 7) (v := 11) B d_Model_immS_7 (by decide) ?_
  refine mv_bipush (pc := 9) (v := 7) B d_Model_immS_9 (by decide) ?_
  refine mv_callSi (pc := 11) (n := 3) B (mK_ok sk sv) hNs (c_Model_piece l hi _ _ _ _) rfl (ma_goodc kc_Model_piece) (B.2.2.2.1 _ k_2360) (B.2.2.2.1 _ k_2361) (B.2.2.2.1 _ k_12) ⟨by decide +kernel, by decide +kernel, by decide +kernel⟩ rfl d_Model_immS_11 rfl (Nat.le_of_ble_eq_true rfl) ⟨by decide, by decide⟩ ⟨by decide, by decide⟩ ⟨by decide, by decide⟩ (mv_noH hno _) (fun v11 σ11 h11 => ?_)
  obtain ⟨e11, z11⟩ := h11
  have e11 := e11.symm
  subst e11
  clear z11
  refine mv_ior (pc := 14) B d_Model_immS_14 ?_
  exact mv_iret (pc := 15) B hr rfl d_Model_immS_15 (Nat.le_refl _) (Nat.le_refl _) ⟨_, rfl, rfl⟩
def y_Model_immB : MethodName := ⟨"MachineLoomModel", "immB", "(I)I"⟩
abbrev b_Model_immB : ByteArray := prog_14_method_12_code
theorem kc_Model_immB : Cond.code y_Model_immB b_Model_immB 1 (Option.some Jvm.ClassFile.FieldType.int) ∈ ma := ma_of (tb_11 _ (List.mem_of_getElem? (i := 71) rfl)) rfl
theorem d_Model_immB_0 : decode b_Model_immB 0 = .ok (.iload_n 0, 1) := by decide +kernel
theorem d_Model_immB_1 : decode b_Model_immB 1 = .ok (.bipush 31, 2) := by decide +kernel
theorem d_Model_immB_3 : decode b_Model_immB 3 = .ok (.ishr, 1) := by decide +kernel
theorem d_Model_immB_4 : decode b_Model_immB 4 = .ok (.bipush 12, 2) := by decide +kernel
theorem d_Model_immB_6 : decode b_Model_immB 6 = .ok (.ishl, 1) := by decide +kernel
theorem d_Model_immB_7 : decode b_Model_immB 7 = .ok (.iload_n 0, 1) := by decide +kernel
theorem d_Model_immB_8 : decode b_Model_immB 8 = .ok (.bipush 7, 2) := by decide +kernel
theorem d_Model_immB_10 : decode b_Model_immB 10 = .ok (.bipush 7, 2) := by decide +kernel
theorem d_Model_immB_12 : decode b_Model_immB 12 = .ok (.invokestatic 44, 3) := by decide +kernel
theorem d_Model_immB_15 : decode b_Model_immB 15 = .ok (.bipush 11, 2) := by decide +kernel
theorem d_Model_immB_17 : decode b_Model_immB 17 = .ok (.ishl, 1) := by decide +kernel
theorem d_Model_immB_18 : decode b_Model_immB 18 = .ok (.ior, 1) := by decide +kernel
theorem d_Model_immB_19 : decode b_Model_immB 19 = .ok (.iload_n 0, 1) := by decide +kernel
theorem d_Model_immB_20 : decode b_Model_immB 20 = .ok (.bipush 30, 2) := by decide +kernel
theorem d_Model_immB_22 : decode b_Model_immB 22 = .ok (.bipush 25, 2) := by decide +kernel
theorem d_Model_immB_24 : decode b_Model_immB 24 = .ok (.invokestatic 44, 3) := by decide +kernel
theorem d_Model_immB_27 : decode b_Model_immB 27 = .ok (.iconst 5, 1) := by decide +kernel
theorem d_Model_immB_28 : decode b_Model_immB 28 = .ok (.ishl, 1) := by decide +kernel
theorem d_Model_immB_29 : decode b_Model_immB 29 = .ok (.ior, 1) := by decide +kernel
theorem d_Model_immB_30 : decode b_Model_immB 30 = .ok (.iload_n 0, 1) := by decide +kernel
theorem d_Model_immB_31 : decode b_Model_immB 31 = .ok (.bipush 11, 2) := by decide +kernel
theorem d_Model_immB_33 : decode b_Model_immB 33 = .ok (.bipush 8, 2) := by decide +kernel
theorem d_Model_immB_35 : decode b_Model_immB 35 = .ok (.invokestatic 44, 3) := by decide +kernel
theorem d_Model_immB_38 : decode b_Model_immB 38 = .ok (.iconst 1, 1) := by decide +kernel
theorem d_Model_immB_39 : decode b_Model_immB 39 = .ok (.ishl, 1) := by decide +kernel
theorem d_Model_immB_40 : decode b_Model_immB 40 = .ok (.ior, 1) := by decide +kernel
theorem d_Model_immB_41 : decode b_Model_immB 41 = .ok (.ireturn, 1) := by decide +kernel
set_option maxHeartbeats 4000000 in
set_option maxRecDepth 100000 in
theorem c_Model_immB (l : Launch) {dA : FieldType → ClassId} {D : va_G} {al : Nat → Nat} {ext : mv_Sh} {sk sv : Nat → Nat} (hi : mv_inj (mg dA D al ext)) (σ : mv_H) (w : Int32) : mv_C l y_Model_immB (Cond.code y_Model_immB b_Model_immB 1 (Option.some Jvm.ClassFile.FieldType.int) :: ma) ({ frames := 1, cells := 0, slots := 0, locals := 22 }) (mg dA D al ext) (mK sk sv) [.int w] σ (mv_Ri (fun v σ1 => σ1 = σ)) := by
  refine mv_C.ofV (cc := b_Model_immB) (nL := 1) (ret := (Option.some Jvm.ClassFile.FieldType.int)) (by decide +kernel) rfl hi (Nat.le_of_ble_eq_true rfl) ?_
  intro p e s m below meth c B hNs hr hnm hno
  refine mv_iload_n (pc := 0) B d_Model_immB_0 rfl 0 rfl ?_
  refine mv_bipush (pc := 1) (v := 31) B d_Model_immB_1 (by decide) ?_
  refine mv_ishr (pc := 3) B d_Model_immB_3 ?_
  refine mv_bipush (pc := 4) (v := 12) B d_Model_immB_4 (by decide) ?_
  refine mv_ishl (pc := 6) B d_Model_immB_6 ?_
  refine mv_iload_n (pc := 7) B d_Model_immB_7 rfl 0 rfl ?_
  refine mv_bipush (pc := 8) (v := 7) B d_Model_immB_8 (by decide) ?_
  refine mv_bipush (pc := 10) (v := 7) B d_Model_immB_10 (by decide) ?_
  refine mv_callSi (pc := 12) (n := 3) B (mK_ok sk sv) hNs (c_Model_piece l hi _ _ _ _) rfl (ma_goodc kc_Model_piece) (B.2.2.2.1 _ k_2360) (B.2.2.2.1 _ k_2361) (B.2.2.2.1 _ k_12) ⟨by decide +kernel, by decide +kernel, by decide +kernel⟩ rfl d_Model_immB_12 rfl (Nat.le_of_ble_eq_true rfl) ⟨by decide, by decide⟩ ⟨by decide, by decide⟩ ⟨by decide, by decide⟩ (mv_noH hno _) (fun v12 σ12 h12 => ?_)
  obtain ⟨e12, z12⟩ := h12
  have e12 := e12.symm
  subst e12
  clear z12
  refine mv_bipush (pc := 15) (v := 11) B d_Model_immB_15 (by decide) ?_
  refine mv_ishl (pc := 17) B d_Model_immB_17 ?_
  refine mv_ior (pc := 18) B d_Model_immB_18 ?_
  refine mv_iload_n (pc := 19) B d_Model_immB_19 rfl 0 rfl ?_
  refine mv_bipush (pc := 20) (v := 30) B d_Model_immB_20 (by decide) ?_
  refine mv_bipush (pc := 22) (v := 25) B d_Model_immB_22 (by decide) ?_
  refine mv_callSi (pc := 24) (n := 3) B (mK_ok sk sv) hNs (c_Model_piece l hi _ _ _ _) rfl (ma_goodc kc_Model_piece) (B.2.2.2.1 _ k_2360) (B.2.2.2.1 _ k_2361) (B.2.2.2.1 _ k_12) ⟨by decide +kernel, by decide +kernel, by decide +kernel⟩ rfl d_Model_immB_24 rfl (Nat.le_of_ble_eq_true rfl) ⟨by decide, by decide⟩ ⟨by decide, by decide⟩ ⟨by decide, by decide⟩ (mv_noH hno _) (fun v24 σ24 h24 => ?_)
  obtain ⟨e24, z24⟩ := h24
  have e24 := e24.symm
  subst e24
  clear z24
  refine mv_iconst (pc := 27) (v := 5) B d_Model_immB_27 (by decide) ?_
  refine mv_ishl (pc := 28) B d_Model_immB_28 ?_
  refine mv_ior (pc := 29) B d_Model_immB_29 ?_
  refine mv_iload_n (pc := 30) B d_Model_immB_30 rfl 0 rfl ?_
  refine mv_bipush (pc := 31) (v := 11) B d_Model_immB_31 (by decide) ?_
  refine mv_bipush (pc := 33) (v := 8) B d_Model_immB_33 (by decide) ?_
  refine mv_callSi (pc := 35) (n := 3) B (mK_ok sk sv) hNs (c_Model_piece l hi _ _ _ _) rfl (ma_goodc kc_Model_piece) (B.2.2.2.1 _ k_2360) (B.2.2.2.1 _ k_2361) (B.2.2.2.1 _ k_12) ⟨by decide +kernel, by decide +kernel, by decide +kernel⟩ rfl d_Model_immB_35 rfl (Nat.le_of_ble_eq_true rfl) ⟨by decide, by decide⟩ ⟨by decide, by decide⟩ ⟨by decide, by decide⟩ (mv_noH hno _) (fun v35 σ35 h35 => ?_)
  obtain ⟨e35, z35⟩ := h35
  have e35 := e35.symm
  subst e35
  clear z35
  refine mv_iconst (pc := 38) (v := 1) B d_Model_immB_38 (by decide) ?_
  refine mv_ishl (pc := 39) B d_Model_immB_39 ?_
  refine mv_ior (pc := 40) B d_Model_immB_40 ?_
  exact mv_iret (pc := 41) B hr rfl d_Model_immB_41 (Nat.le_refl _) (Nat.le_refl _) ⟨_, rfl, rfl⟩
def y_Model_immJ : MethodName := ⟨"MachineLoomModel", "immJ", "(I)I"⟩
abbrev b_Model_immJ : ByteArray := prog_14_method_13_code
theorem kc_Model_immJ : Cond.code y_Model_immJ b_Model_immJ 1 (Option.some Jvm.ClassFile.FieldType.int) ∈ ma := ma_of (tb_11 _ (List.mem_of_getElem? (i := 54) rfl)) rfl
theorem d_Model_immJ_0 : decode b_Model_immJ 0 = .ok (.iload_n 0, 1) := by decide +kernel
theorem d_Model_immJ_1 : decode b_Model_immJ 1 = .ok (.bipush 31, 2) := by decide +kernel
theorem d_Model_immJ_3 : decode b_Model_immJ 3 = .ok (.ishr, 1) := by decide +kernel
theorem d_Model_immJ_4 : decode b_Model_immJ 4 = .ok (.bipush 20, 2) := by decide +kernel
theorem d_Model_immJ_6 : decode b_Model_immJ 6 = .ok (.ishl, 1) := by decide +kernel
theorem d_Model_immJ_7 : decode b_Model_immJ 7 = .ok (.iload_n 0, 1) := by decide +kernel
theorem d_Model_immJ_8 : decode b_Model_immJ 8 = .ok (.bipush 19, 2) := by decide +kernel
theorem d_Model_immJ_10 : decode b_Model_immJ 10 = .ok (.bipush 12, 2) := by decide +kernel
theorem d_Model_immJ_12 : decode b_Model_immJ 12 = .ok (.invokestatic 44, 3) := by decide +kernel
theorem d_Model_immJ_15 : decode b_Model_immJ 15 = .ok (.bipush 12, 2) := by decide +kernel
theorem d_Model_immJ_17 : decode b_Model_immJ 17 = .ok (.ishl, 1) := by decide +kernel
theorem d_Model_immJ_18 : decode b_Model_immJ 18 = .ok (.ior, 1) := by decide +kernel
theorem d_Model_immJ_19 : decode b_Model_immJ 19 = .ok (.iload_n 0, 1) := by decide +kernel
theorem d_Model_immJ_20 : decode b_Model_immJ 20 = .ok (.bipush 20, 2) := by decide +kernel
theorem d_Model_immJ_22 : decode b_Model_immJ 22 = .ok (.bipush 20, 2) := by decide +kernel
theorem d_Model_immJ_24 : decode b_Model_immJ 24 = .ok (.invokestatic 44, 3) := by decide +kernel
theorem d_Model_immJ_27 : decode b_Model_immJ 27 = .ok (.bipush 11, 2) := by decide +kernel
theorem d_Model_immJ_29 : decode b_Model_immJ 29 = .ok (.ishl, 1) := by decide +kernel
theorem d_Model_immJ_30 : decode b_Model_immJ 30 = .ok (.ior, 1) := by decide +kernel
theorem d_Model_immJ_31 : decode b_Model_immJ 31 = .ok (.iload_n 0, 1) := by decide +kernel
theorem d_Model_immJ_32 : decode b_Model_immJ 32 = .ok (.bipush 30, 2) := by decide +kernel
theorem d_Model_immJ_34 : decode b_Model_immJ 34 = .ok (.bipush 21, 2) := by decide +kernel
theorem d_Model_immJ_36 : decode b_Model_immJ 36 = .ok (.invokestatic 44, 3) := by decide +kernel
theorem d_Model_immJ_39 : decode b_Model_immJ 39 = .ok (.iconst 1, 1) := by decide +kernel
theorem d_Model_immJ_40 : decode b_Model_immJ 40 = .ok (.ishl, 1) := by decide +kernel
theorem d_Model_immJ_41 : decode b_Model_immJ 41 = .ok (.ior, 1) := by decide +kernel
theorem d_Model_immJ_42 : decode b_Model_immJ 42 = .ok (.ireturn, 1) := by decide +kernel
set_option maxHeartbeats 4000000 in
set_option maxRecDepth 100000 in
theorem c_Model_immJ (l : Launch) {dA : FieldType → ClassId} {D : va_G} {al : Nat → Nat} {ext : mv_Sh} {sk sv : Nat → Nat} (hi : mv_inj (mg dA D al ext)) (σ : mv_H) (w : Int32) : mv_C l y_Model_immJ (Cond.code y_Model_immJ b_Model_immJ 1 (Option.some Jvm.ClassFile.FieldType.int) :: ma) ({ frames := 1, cells := 0, slots := 0, locals := 22 }) (mg dA D al ext) (mK sk sv) [.int w] σ (mv_Ri (fun v σ1 => σ1 = σ)) := by
  refine mv_C.ofV (cc := b_Model_immJ) (nL := 1) (ret := (Option.some Jvm.ClassFile.FieldType.int)) (by decide +kernel) rfl hi (Nat.le_of_ble_eq_true rfl) ?_
  intro p e s m below meth c B hNs hr hnm hno
  refine mv_iload_n (pc := 0) B d_Model_immJ_0 rfl 0 rfl ?_
  refine mv_bipush (pc := 1) (v := 31) B d_Model_immJ_1 (by decide) ?_
  refine mv_ishr (pc := 3) B d_Model_immJ_3 ?_
  refine mv_bipush (pc := 4) (v := 20) B d_Model_immJ_4 (by decide) ?_
  refine mv_ishl (pc := 6) B d_Model_immJ_6 ?_
  refine mv_iload_n (pc := 7) B d_Model_immJ_7 rfl 0 rfl ?_
  refine mv_bipush (pc := 8) (v := 19) B d_Model_immJ_8 (by decide) ?_
  refine mv_bipush (pc := 10) (v := 12) B d_Model_immJ_10 (by decide) ?_
  refine mv_callSi (pc := 12) (n := 3) B (mK_ok sk sv) hNs (c_Model_piece l hi _ _ _ _) rfl (ma_goodc kc_Model_piece) (B.2.2.2.1 _ k_2360) (B.2.2.2.1 _ k_2361) (B.2.2.2.1 _ k_12) ⟨by decide +kernel, by decide +kernel, by decide +kernel⟩ rfl d_Model_immJ_12 rfl (Nat.le_of_ble_eq_true rfl) ⟨by decide, by decide⟩ ⟨by decide, by decide⟩ ⟨by decide, by decide⟩ (mv_noH hno _) (fun v12 σ12 h12 => ?_)
  obtain ⟨e12, z12⟩ := h12
  have e12 := e12.symm
  subst e12
  clear z12
  refine mv_bipush (pc := 15) (v := 12) B d_Model_immJ_15 (by decide) ?_
  refine mv_ishl (pc := 17) B d_Model_immJ_17 ?_
  refine mv_ior (pc := 18) B d_Model_immJ_18 ?_
  refine mv_iload_n (pc := 19) B d_Model_immJ_19 rfl 0 rfl ?_
  refine mv_bipush (pc := 20) (v := 20) B d_Model_immJ_20 (by decide) ?_
  refine mv_bipush (pc := 22) (v := 20) B d_Model_immJ_22 (by decide) ?_
  refine mv_callSi (pc := 24) (n := 3) B (mK_ok sk sv) hNs (c_Model_piece l hi _ _ _ _) rfl (ma_goodc kc_Model_piece) (B.2.2.2.1 _ k_2360) (B.2.2.2.1 _ k_2361) (B.2.2.2.1 _ k_12) ⟨by decide +kernel, by decide +kernel, by decide +kernel⟩ rfl d_Model_immJ_24 rfl (Nat.le_of_ble_eq_true rfl) ⟨by decide, by decide⟩ ⟨by decide, by decide⟩ ⟨by decide, by decide⟩ (mv_noH hno _) (fun v24 σ24 h24 => ?_)
  obtain ⟨e24, z24⟩ := h24
  have e24 := e24.symm
  subst e24
  clear z24
  refine mv_bipush (pc := 27) (v := 11) B d_Model_immJ_27 (by decide) ?_
  refine mv_ishl (pc := 29) B d_Model_immJ_29 ?_
  refine mv_ior (pc := 30) B d_Model_immJ_30 ?_
  refine mv_iload_n (pc := 31) B d_Model_immJ_31 rfl 0 rfl ?_
  refine mv_bipush (pc := 32) (v := 30) B d_Model_immJ_32 (by decide) ?_
  refine mv_bipush (pc := 34) (v := 21) B d_Model_immJ_34 (by decide) ?_
  refine mv_callSi (pc := 36) (n := 3) B (mK_ok sk sv) hNs (c_Model_piece l hi _ _ _ _) rfl (ma_goodc kc_Model_piece) (B.2.2.2.1 _ k_2360) (B.2.2.2.1 _ k_2361) (B.2.2.2.1 _ k_12) ⟨by decide +kernel, by decide +kernel, by decide +kernel⟩ rfl d_Model_immJ_36 rfl (Nat.le_of_ble_eq_true rfl) ⟨by decide, by decide⟩ ⟨by decide, by decide⟩ ⟨by decide, by decide⟩ (mv_noH hno _) (fun v36 σ36 h36 => ?_)
  obtain ⟨e36, z36⟩ := h36
  have e36 := e36.symm
  subst e36
  clear z36
  refine mv_iconst (pc := 39) (v := 1) B d_Model_immJ_39 (by decide) ?_
  refine mv_ishl (pc := 40) B d_Model_immJ_40 ?_
  refine mv_ior (pc := 41) B d_Model_immJ_41 ?_
  exact mv_iret (pc := 42) B hr rfl d_Model_immJ_42 (Nat.le_refl _) (Nat.le_refl _) ⟨_, rfl, rfl⟩
def y_Model_less : MethodName := ⟨"MachineLoomModel", "less", "(II)Z"⟩
abbrev b_Model_less : ByteArray := prog_14_method_14_code
theorem kc_Model_less : Cond.code y_Model_less b_Model_less 2 (Option.some Jvm.ClassFile.FieldType.boolean) ∈ ma := ma_of (tb_11 _ (List.mem_of_getElem? (i := 67) rfl)) rfl
theorem k_2468 : (Jvm.Cond.constant "MachineLoomModel" (58 : Nat) (-2147483648 : Int32)) ∈ ma := ma_of (tb_11 _ (List.mem_of_getElem? (i := 68) rfl)) rfl
theorem d_Model_less_0 : decode b_Model_less 0 = .ok (.iload_n 0, 1) := by decide +kernel
theorem d_Model_less_1 : decode b_Model_less 1 = .ok (.ldc 58, 2) := by decide +kernel
theorem d_Model_less_3 : decode b_Model_less 3 = .ok (.iadd, 1) := by decide +kernel
theorem d_Model_less_4 : decode b_Model_less 4 = .ok (.iload_n 1, 1) := by decide +kernel
theorem d_Model_less_5 : decode b_Model_less 5 = .ok (.ldc 58, 2) := by decide +kernel
theorem d_Model_less_7 : decode b_Model_less 7 = .ok (.iadd, 1) := by decide +kernel
theorem d_Model_less_8 : decode b_Model_less 8 = .ok (.if_icmp .ge (7), 3) := by decide +kernel
theorem d_Model_less_11 : decode b_Model_less 11 = .ok (.iconst 1, 1) := by decide +kernel
theorem d_Model_less_12 : decode b_Model_less 12 = .ok (.goto (4), 3) := by decide +kernel
theorem d_Model_less_15 : decode b_Model_less 15 = .ok (.iconst 0, 1) := by decide +kernel
theorem d_Model_less_16 : decode b_Model_less 16 = .ok (.ireturn, 1) := by decide +kernel
set_option maxHeartbeats 4000000 in
set_option maxRecDepth 100000 in
theorem c_Model_less (l : Launch) {dA : FieldType → ClassId} {D : va_G} {al : Nat → Nat} {ext : mv_Sh} {sk sv : Nat → Nat} (hi : mv_inj (mg dA D al ext)) (σ : mv_H) (x9 y9 : Int32) : mv_C l y_Model_less (Cond.code y_Model_less b_Model_less 2 (Option.some Jvm.ClassFile.FieldType.boolean) :: ma) ({ frames := 0, cells := 0, slots := 0, locals := 0 }) (mg dA D al ext) (mK sk sv) [.int x9, .int y9] σ (mv_Ri (fun v σ1 => σ1 = σ ∧ (v = 0 ∨ v = 1))) := by
  refine mv_C.ofV (cc := b_Model_less) (nL := 2) (ret := (Option.some Jvm.ClassFile.FieldType.boolean)) (by decide +kernel) rfl hi (Nat.le_of_ble_eq_true rfl) ?_
  intro p e s m below meth c B hNs hr hnm hno
  refine mv_iload_n (pc := 0) B d_Model_less_0 rfl 0 rfl ?_
  refine mv_ldc (pc := 1) (v := -2147483648) B (B.2.2.2.1 _ k_2468) d_Model_less_1 ?_
  refine mv_iadd (pc := 3) B d_Model_less_3 ?_
  refine mv_iload_n (pc := 4) B d_Model_less_4 rfl 1 rfl ?_
  refine mv_ldc (pc := 5) (v := -2147483648) B (B.2.2.2.1 _ k_2468) d_Model_less_5 ?_
  refine mv_iadd (pc := 7) B d_Model_less_7 ?_
  refine mv_icmp_ge (pc := 8) (tgt := 15) B d_Model_less_8 rfl (fun h8 => ?_) (fun h8 => ?_)
  · skip
    refine mv_iconst (pc := 15) (v := 0) B d_Model_less_15 (by decide) ?_
    exact mv_iret (pc := 16) B hr rfl d_Model_less_16 (Nat.le_refl _) (Nat.le_refl _) ⟨_, rfl, rfl, by first | exact Or.inl rfl | exact Or.inr rfl⟩
  · skip
    refine mv_iconst (pc := 11) (v := 1) B d_Model_less_11 (by decide) ?_
    refine mv_goto (pc := 12) (tgt := 16) B d_Model_less_12 rfl ?_
    exact mv_iret (pc := 16) B hr rfl d_Model_less_16 (Nat.le_refl _) (Nat.le_refl _) ⟨_, rfl, rfl, by first | exact Or.inl rfl | exact Or.inr rfl⟩
def y_Model_immediateOp : MethodName := ⟨"MachineLoomModel", "immediateOp", "(II)I"⟩
abbrev b_Model_immediateOp : ByteArray := prog_14_method_8_code
theorem kc_Model_immediateOp : Cond.code y_Model_immediateOp b_Model_immediateOp 2 (Option.some Jvm.ClassFile.FieldType.int) ∈ ma := ma_of (tb_10 _ (List.mem_of_getElem? (i := 205) rfl)) rfl
theorem d_Model_immediateOp_0 : decode b_Model_immediateOp 0 = .ok (.iload_n 0, 1) := by decide +kernel
theorem d_Model_immediateOp_1 : decode b_Model_immediateOp 1 = .ok (.tableswitch (91) (0) (6) #[43, 46, 57, 60, 63, 66, 88], 43) := by decide +kernel
theorem d_Model_immediateOp_44 : decode b_Model_immediateOp 44 = .ok (.bipush 18, 2) := by decide +kernel
theorem d_Model_immediateOp_46 : decode b_Model_immediateOp 46 = .ok (.ireturn, 1) := by decide +kernel
theorem d_Model_immediateOp_47 : decode b_Model_immediateOp 47 = .ok (.iload_n 1, 1) := by decide +kernel
theorem d_Model_immediateOp_48 : decode b_Model_immediateOp 48 = .ok (.ifCond .ne (8), 3) := by decide +kernel
theorem d_Model_immediateOp_51 : decode b_Model_immediateOp 51 = .ok (.bipush 24, 2) := by decide +kernel
theorem d_Model_immediateOp_53 : decode b_Model_immediateOp 53 = .ok (.goto (4), 3) := by decide +kernel
theorem d_Model_immediateOp_56 : decode b_Model_immediateOp 56 = .ok (.iconst (-1), 1) := by decide +kernel
theorem d_Model_immediateOp_57 : decode b_Model_immediateOp 57 = .ok (.ireturn, 1) := by decide +kernel
theorem d_Model_immediateOp_58 : decode b_Model_immediateOp 58 = .ok (.bipush 19, 2) := by decide +kernel
theorem d_Model_immediateOp_60 : decode b_Model_immediateOp 60 = .ok (.ireturn, 1) := by decide +kernel
theorem d_Model_immediateOp_61 : decode b_Model_immediateOp 61 = .ok (.bipush 20, 2) := by decide +kernel
theorem d_Model_immediateOp_63 : decode b_Model_immediateOp 63 = .ok (.ireturn, 1) := by decide +kernel
theorem d_Model_immediateOp_64 : decode b_Model_immediateOp 64 = .ok (.bipush 21, 2) := by decide +kernel
theorem d_Model_immediateOp_66 : decode b_Model_immediateOp 66 = .ok (.ireturn, 1) := by decide +kernel
theorem d_Model_immediateOp_67 : decode b_Model_immediateOp 67 = .ok (.iload_n 1, 1) := by decide +kernel
theorem d_Model_immediateOp_68 : decode b_Model_immediateOp 68 = .ok (.ifCond .ne (8), 3) := by decide +kernel
theorem d_Model_immediateOp_71 : decode b_Model_immediateOp 71 = .ok (.bipush 25, 2) := by decide +kernel
theorem d_Model_immediateOp_73 : decode b_Model_immediateOp 73 = .ok (.goto (15), 3) := by decide +kernel
theorem d_Model_immediateOp_76 : decode b_Model_immediateOp 76 = .ok (.iload_n 1, 1) := by decide +kernel
theorem d_Model_immediateOp_77 : decode b_Model_immediateOp 77 = .ok (.bipush 32, 2) := by decide +kernel
theorem d_Model_immediateOp_79 : decode b_Model_immediateOp 79 = .ok (.if_icmp .ne (8), 3) := by decide +kernel
theorem d_Model_immediateOp_82 : decode b_Model_immediateOp 82 = .ok (.bipush 26, 2) := by decide +kernel
theorem d_Model_immediateOp_84 : decode b_Model_immediateOp 84 = .ok (.goto (4), 3) := by decide +kernel
theorem d_Model_immediateOp_87 : decode b_Model_immediateOp 87 = .ok (.iconst (-1), 1) := by decide +kernel
theorem d_Model_immediateOp_88 : decode b_Model_immediateOp 88 = .ok (.ireturn, 1) := by decide +kernel
theorem d_Model_immediateOp_89 : decode b_Model_immediateOp 89 = .ok (.bipush 22, 2) := by decide +kernel
theorem d_Model_immediateOp_91 : decode b_Model_immediateOp 91 = .ok (.ireturn, 1) := by decide +kernel
theorem d_Model_immediateOp_92 : decode b_Model_immediateOp 92 = .ok (.bipush 23, 2) := by decide +kernel
theorem d_Model_immediateOp_94 : decode b_Model_immediateOp 94 = .ok (.ireturn, 1) := by decide +kernel
set_option maxHeartbeats 4000000 in
set_option maxRecDepth 100000 in
theorem c_Model_immediateOp (l : Launch) {dA : FieldType → ClassId} {D : va_G} {al : Nat → Nat} {ext : mv_Sh} {sk sv : Nat → Nat} (hi : mv_inj (mg dA D al ext)) (σ : mv_H) (f9 g9 : Int32) : mv_C l y_Model_immediateOp (Cond.code y_Model_immediateOp b_Model_immediateOp 2 (Option.some Jvm.ClassFile.FieldType.int) :: ma) ({ frames := 0, cells := 0, slots := 0, locals := 0 }) (mg dA D al ext) (mK sk sv) [.int f9, .int g9] σ (mv_Ri (fun v σ1 => σ1 = σ)) := by
  refine mv_C.ofV (cc := b_Model_immediateOp) (nL := 2) (ret := (Option.some Jvm.ClassFile.FieldType.int)) (by decide +kernel) rfl hi (Nat.le_of_ble_eq_true rfl) ?_
  intro p e s m below meth c B hNs hr hnm hno
  refine mv_iload_n (pc := 0) B d_Model_immediateOp_0 rfl 0 rfl ?_
  refine mv_tsw (pc := 1) B d_Model_immediateOp_1 (by decide) (by decide) ?_
  refine ⟨fun h1 => ?_, fun h1n0 => ?_⟩
  · skip
    refine mv_bipush (pc := 44) (v := 18) B d_Model_immediateOp_44 (by decide) ?_
    exact mv_iret (pc := 46) B hr rfl d_Model_immediateOp_46 (Nat.le_refl _) (Nat.le_refl _) ⟨_, rfl, rfl⟩
  refine ⟨fun h1 => ?_, fun h1n1 => ?_⟩
  · skip
    refine mv_iload_n (pc := 47) B d_Model_immediateOp_47 rfl 1 rfl ?_
    refine mv_if_ne (pc := 48) (tgt := 56) B d_Model_immediateOp_48 rfl (fun h48 => ?_) (fun h48 => ?_)
    · skip
      refine mv_iconst (pc := 56) (v := -1) B d_Model_immediateOp_56 (by decide) ?_
      exact mv_iret (pc := 57) B hr rfl d_Model_immediateOp_57 (Nat.le_refl _) (Nat.le_refl _) ⟨_, rfl, rfl⟩
    · skip
      refine mv_bipush (pc := 51) (v := 24) B d_Model_immediateOp_51 (by decide) ?_
      refine mv_goto (pc := 53) (tgt := 57) B d_Model_immediateOp_53 rfl ?_
      exact mv_iret (pc := 57) B hr rfl d_Model_immediateOp_57 (Nat.le_refl _) (Nat.le_refl _) ⟨_, rfl, rfl⟩
  refine ⟨fun h1 => ?_, fun h1n2 => ?_⟩
  · skip
    refine mv_bipush (pc := 58) (v := 19) B d_Model_immediateOp_58 (by decide) ?_
    exact mv_iret (pc := 60) B hr rfl d_Model_immediateOp_60 (Nat.le_refl _) (Nat.le_refl _) ⟨_, rfl, rfl⟩
  refine ⟨fun h1 => ?_, fun h1n3 => ?_⟩
  · skip
    refine mv_bipush (pc := 61) (v := 20) B d_Model_immediateOp_61 (by decide) ?_
    exact mv_iret (pc := 63) B hr rfl d_Model_immediateOp_63 (Nat.le_refl _) (Nat.le_refl _) ⟨_, rfl, rfl⟩
  refine ⟨fun h1 => ?_, fun h1n4 => ?_⟩
  · skip
    refine mv_bipush (pc := 64) (v := 21) B d_Model_immediateOp_64 (by decide) ?_
    exact mv_iret (pc := 66) B hr rfl d_Model_immediateOp_66 (Nat.le_refl _) (Nat.le_refl _) ⟨_, rfl, rfl⟩
  refine ⟨fun h1 => ?_, fun h1n5 => ?_⟩
  · skip
    refine mv_iload_n (pc := 67) B d_Model_immediateOp_67 rfl 1 rfl ?_
    refine mv_if_ne (pc := 68) (tgt := 76) B d_Model_immediateOp_68 rfl (fun h68 => ?_) (fun h68 => ?_)
    · skip
      refine mv_iload_n (pc := 76) B d_Model_immediateOp_76 rfl 1 rfl ?_
      refine mv_bipush (pc := 77) (v := 32) B d_Model_immediateOp_77 (by decide) ?_
      refine mv_icmp_ne (pc := 79) (tgt := 87) B d_Model_immediateOp_79 rfl (fun h79 => ?_) (fun h79 => ?_)
      · skip
        refine mv_iconst (pc := 87) (v := -1) B d_Model_immediateOp_87 (by decide) ?_
        exact mv_iret (pc := 88) B hr rfl d_Model_immediateOp_88 (Nat.le_refl _) (Nat.le_refl _) ⟨_, rfl, rfl⟩
      · skip
        refine mv_bipush (pc := 82) (v := 26) B d_Model_immediateOp_82 (by decide) ?_
        refine mv_goto (pc := 84) (tgt := 88) B d_Model_immediateOp_84 rfl ?_
        exact mv_iret (pc := 88) B hr rfl d_Model_immediateOp_88 (Nat.le_refl _) (Nat.le_refl _) ⟨_, rfl, rfl⟩
    · skip
      refine mv_bipush (pc := 71) (v := 25) B d_Model_immediateOp_71 (by decide) ?_
      refine mv_goto (pc := 73) (tgt := 88) B d_Model_immediateOp_73 rfl ?_
      exact mv_iret (pc := 88) B hr rfl d_Model_immediateOp_88 (Nat.le_refl _) (Nat.le_refl _) ⟨_, rfl, rfl⟩
  refine ⟨fun h1 => ?_, fun h1n6 => ?_⟩
  · skip
    refine mv_bipush (pc := 89) (v := 22) B d_Model_immediateOp_89 (by decide) ?_
    exact mv_iret (pc := 91) B hr rfl d_Model_immediateOp_91 (Nat.le_refl _) (Nat.le_refl _) ⟨_, rfl, rfl⟩
  show mv_V _ _ _ _ _ _ _ _ _ _ _ _ _ _ _ _ 92 _ _
  refine mv_bipush (pc := 92) (v := 23) B d_Model_immediateOp_92 (by decide) ?_
  exact mv_iret (pc := 94) B hr rfl d_Model_immediateOp_94 (Nat.le_refl _) (Nat.le_refl _) ⟨_, rfl, rfl⟩
def y_Model_registerOp : MethodName := ⟨"MachineLoomModel", "registerOp", "(II)I"⟩
abbrev b_Model_registerOp : ByteArray := prog_14_method_9_code
theorem kc_Model_registerOp : Cond.code y_Model_registerOp b_Model_registerOp 2 (Option.some Jvm.ClassFile.FieldType.int) ∈ ma := ma_of (tb_10 _ (List.mem_of_getElem? (i := 208) rfl)) rfl
theorem d_Model_registerOp_0 : decode b_Model_registerOp 0 = .ok (.iload_n 1, 1) := by decide +kernel
theorem d_Model_registerOp_1 : decode b_Model_registerOp 1 = .ok (.iconst 1, 1) := by decide +kernel
theorem d_Model_registerOp_2 : decode b_Model_registerOp 2 = .ok (.if_icmp .ne (8), 3) := by decide +kernel
theorem d_Model_registerOp_5 : decode b_Model_registerOp 5 = .ok (.bipush 40, 2) := by decide +kernel
theorem d_Model_registerOp_7 : decode b_Model_registerOp 7 = .ok (.iload_n 0, 1) := by decide +kernel
theorem d_Model_registerOp_8 : decode b_Model_registerOp 8 = .ok (.iadd, 1) := by decide +kernel
theorem d_Model_registerOp_9 : decode b_Model_registerOp 9 = .ok (.ireturn, 1) := by decide +kernel
theorem d_Model_registerOp_10 : decode b_Model_registerOp 10 = .ok (.iload_n 1, 1) := by decide +kernel
theorem d_Model_registerOp_11 : decode b_Model_registerOp 11 = .ok (.bipush 32, 2) := by decide +kernel
theorem d_Model_registerOp_13 : decode b_Model_registerOp 13 = .ok (.if_icmp .ne (24), 3) := by decide +kernel
theorem d_Model_registerOp_16 : decode b_Model_registerOp 16 = .ok (.iload_n 0, 1) := by decide +kernel
theorem d_Model_registerOp_17 : decode b_Model_registerOp 17 = .ok (.ifCond .ne (8), 3) := by decide +kernel
theorem d_Model_registerOp_20 : decode b_Model_registerOp 20 = .ok (.bipush 28, 2) := by decide +kernel
theorem d_Model_registerOp_22 : decode b_Model_registerOp 22 = .ok (.goto (14), 3) := by decide +kernel
theorem d_Model_registerOp_25 : decode b_Model_registerOp 25 = .ok (.iload_n 0, 1) := by decide +kernel
theorem d_Model_registerOp_26 : decode b_Model_registerOp 26 = .ok (.iconst 5, 1) := by decide +kernel
theorem d_Model_registerOp_27 : decode b_Model_registerOp 27 = .ok (.if_icmp .ne (8), 3) := by decide +kernel
theorem d_Model_registerOp_30 : decode b_Model_registerOp 30 = .ok (.bipush 34, 2) := by decide +kernel
theorem d_Model_registerOp_32 : decode b_Model_registerOp 32 = .ok (.goto (4), 3) := by decide +kernel
theorem d_Model_registerOp_35 : decode b_Model_registerOp 35 = .ok (.iconst (-1), 1) := by decide +kernel
theorem d_Model_registerOp_36 : decode b_Model_registerOp 36 = .ok (.ireturn, 1) := by decide +kernel
theorem d_Model_registerOp_37 : decode b_Model_registerOp 37 = .ok (.iload_n 1, 1) := by decide +kernel
theorem d_Model_registerOp_38 : decode b_Model_registerOp 38 = .ok (.ifCond .eq (5), 3) := by decide +kernel
theorem d_Model_registerOp_41 : decode b_Model_registerOp 41 = .ok (.iconst (-1), 1) := by decide +kernel
theorem d_Model_registerOp_42 : decode b_Model_registerOp 42 = .ok (.ireturn, 1) := by decide +kernel
theorem d_Model_registerOp_43 : decode b_Model_registerOp 43 = .ok (.iload_n 0, 1) := by decide +kernel
theorem d_Model_registerOp_44 : decode b_Model_registerOp 44 = .ok (.tableswitch (65) (0) (6) #[44, 47, 50, 53, 56, 59, 62], 44) := by decide +kernel
theorem d_Model_registerOp_88 : decode b_Model_registerOp 88 = .ok (.bipush 27, 2) := by decide +kernel
theorem d_Model_registerOp_90 : decode b_Model_registerOp 90 = .ok (.ireturn, 1) := by decide +kernel
theorem d_Model_registerOp_91 : decode b_Model_registerOp 91 = .ok (.bipush 29, 2) := by decide +kernel
theorem d_Model_registerOp_93 : decode b_Model_registerOp 93 = .ok (.ireturn, 1) := by decide +kernel
theorem d_Model_registerOp_94 : decode b_Model_registerOp 94 = .ok (.bipush 30, 2) := by decide +kernel
theorem d_Model_registerOp_96 : decode b_Model_registerOp 96 = .ok (.ireturn, 1) := by decide +kernel
theorem d_Model_registerOp_97 : decode b_Model_registerOp 97 = .ok (.bipush 31, 2) := by decide +kernel
theorem d_Model_registerOp_99 : decode b_Model_registerOp 99 = .ok (.ireturn, 1) := by decide +kernel
theorem d_Model_registerOp_100 : decode b_Model_registerOp 100 = .ok (.bipush 32, 2) := by decide +kernel
theorem d_Model_registerOp_102 : decode b_Model_registerOp 102 = .ok (.ireturn, 1) := by decide +kernel
theorem d_Model_registerOp_103 : decode b_Model_registerOp 103 = .ok (.bipush 33, 2) := by decide +kernel
theorem d_Model_registerOp_105 : decode b_Model_registerOp 105 = .ok (.ireturn, 1) := by decide +kernel
theorem d_Model_registerOp_106 : decode b_Model_registerOp 106 = .ok (.bipush 35, 2) := by decide +kernel
theorem d_Model_registerOp_108 : decode b_Model_registerOp 108 = .ok (.ireturn, 1) := by decide +kernel
theorem d_Model_registerOp_109 : decode b_Model_registerOp 109 = .ok (.bipush 36, 2) := by decide +kernel
theorem d_Model_registerOp_111 : decode b_Model_registerOp 111 = .ok (.ireturn, 1) := by decide +kernel
set_option maxHeartbeats 4000000 in
set_option maxRecDepth 100000 in
theorem c_Model_registerOp (l : Launch) {dA : FieldType → ClassId} {D : va_G} {al : Nat → Nat} {ext : mv_Sh} {sk sv : Nat → Nat} (hi : mv_inj (mg dA D al ext)) (σ : mv_H) (f9 g9 : Int32) : mv_C l y_Model_registerOp (Cond.code y_Model_registerOp b_Model_registerOp 2 (Option.some Jvm.ClassFile.FieldType.int) :: ma) ({ frames := 0, cells := 0, slots := 0, locals := 0 }) (mg dA D al ext) (mK sk sv) [.int f9, .int g9] σ (mv_Ri (fun v σ1 => σ1 = σ)) := by
  refine mv_C.ofV (cc := b_Model_registerOp) (nL := 2) (ret := (Option.some Jvm.ClassFile.FieldType.int)) (by decide +kernel) rfl hi (Nat.le_of_ble_eq_true rfl) ?_
  intro p e s m below meth c B hNs hr hnm hno
  refine mv_iload_n (pc := 0) B d_Model_registerOp_0 rfl 1 rfl ?_
  refine mv_iconst (pc := 1) (v := 1) B d_Model_registerOp_1 (by decide) ?_
  refine mv_icmp_ne (pc := 2) (tgt := 10) B d_Model_registerOp_2 rfl (fun h2 => ?_) (fun h2 => ?_)
  · skip
    refine mv_iload_n (pc := 10) B d_Model_registerOp_10 rfl 1 rfl ?_
    refine mv_bipush (pc := 11) (v := 32) B d_Model_registerOp_11 (by decide) ?_
    refine mv_icmp_ne (pc := 13) (tgt := 37) B d_Model_registerOp_13 rfl (fun h13 => ?_) (fun h13 => ?_)
    · skip
      refine mv_iload_n (pc := 37) B d_Model_registerOp_37 rfl 1 rfl ?_
      refine mv_if_eq (pc := 38) (tgt := 43) B d_Model_registerOp_38 rfl (fun h38 => ?_) (fun h38 => ?_)
      · skip
        refine mv_iload_n (pc := 43) B d_Model_registerOp_43 rfl 0 rfl ?_
        refine mv_tsw (pc := 44) B d_Model_registerOp_44 (by decide) (by decide) ?_
        refine ⟨fun h44 => ?_, fun h44n0 => ?_⟩
        · skip
          refine mv_bipush (pc := 88) (v := 27) B d_Model_registerOp_88 (by decide) ?_
          exact mv_iret (pc := 90) B hr rfl d_Model_registerOp_90 (Nat.le_refl _) (Nat.le_refl _) ⟨_, rfl, rfl⟩
        refine ⟨fun h44 => ?_, fun h44n1 => ?_⟩
        · skip
          refine mv_bipush (pc := 91) (v := 29) B d_Model_registerOp_91 (by decide) ?_
          exact mv_iret (pc := 93) B hr rfl d_Model_registerOp_93 (Nat.le_refl _) (Nat.le_refl _) ⟨_, rfl, rfl⟩
        refine ⟨fun h44 => ?_, fun h44n2 => ?_⟩
        · skip
          refine mv_bipush (pc := 94) (v := 30) B d_Model_registerOp_94 (by decide) ?_
          exact mv_iret (pc := 96) B hr rfl d_Model_registerOp_96 (Nat.le_refl _) (Nat.le_refl _) ⟨_, rfl, rfl⟩
        refine ⟨fun h44 => ?_, fun h44n3 => ?_⟩
        · skip
          refine mv_bipush (pc := 97) (v := 31) B d_Model_registerOp_97 (by decide) ?_
          exact mv_iret (pc := 99) B hr rfl d_Model_registerOp_99 (Nat.le_refl _) (Nat.le_refl _) ⟨_, rfl, rfl⟩
        refine ⟨fun h44 => ?_, fun h44n4 => ?_⟩
        · skip
          refine mv_bipush (pc := 100) (v := 32) B d_Model_registerOp_100 (by decide) ?_
          exact mv_iret (pc := 102) B hr rfl d_Model_registerOp_102 (Nat.le_refl _) (Nat.le_refl _) ⟨_, rfl, rfl⟩
        refine ⟨fun h44 => ?_, fun h44n5 => ?_⟩
        · skip
          refine mv_bipush (pc := 103) (v := 33) B d_Model_registerOp_103 (by decide) ?_
          exact mv_iret (pc := 105) B hr rfl d_Model_registerOp_105 (Nat.le_refl _) (Nat.le_refl _) ⟨_, rfl, rfl⟩
        refine ⟨fun h44 => ?_, fun h44n6 => ?_⟩
        · skip
          refine mv_bipush (pc := 106) (v := 35) B d_Model_registerOp_106 (by decide) ?_
          exact mv_iret (pc := 108) B hr rfl d_Model_registerOp_108 (Nat.le_refl _) (Nat.le_refl _) ⟨_, rfl, rfl⟩
        show mv_V _ _ _ _ _ _ _ _ _ _ _ _ _ _ _ _ 109 _ _
        refine mv_bipush (pc := 109) (v := 36) B d_Model_registerOp_109 (by decide) ?_
        exact mv_iret (pc := 111) B hr rfl d_Model_registerOp_111 (Nat.le_refl _) (Nat.le_refl _) ⟨_, rfl, rfl⟩
      · skip
        refine mv_iconst (pc := 41) (v := -1) B d_Model_registerOp_41 (by decide) ?_
        exact mv_iret (pc := 42) B hr rfl d_Model_registerOp_42 (Nat.le_refl _) (Nat.le_refl _) ⟨_, rfl, rfl⟩
    · skip
      refine mv_iload_n (pc := 16) B d_Model_registerOp_16 rfl 0 rfl ?_
      refine mv_if_ne (pc := 17) (tgt := 25) B d_Model_registerOp_17 rfl (fun h17 => ?_) (fun h17 => ?_)
      · skip
        refine mv_iload_n (pc := 25) B d_Model_registerOp_25 rfl 0 rfl ?_
        refine mv_iconst (pc := 26) (v := 5) B d_Model_registerOp_26 (by decide) ?_
        refine mv_icmp_ne (pc := 27) (tgt := 35) B d_Model_registerOp_27 rfl (fun h27 => ?_) (fun h27 => ?_)
        · skip
          refine mv_iconst (pc := 35) (v := -1) B d_Model_registerOp_35 (by decide) ?_
          exact mv_iret (pc := 36) B hr rfl d_Model_registerOp_36 (Nat.le_refl _) (Nat.le_refl _) ⟨_, rfl, rfl⟩
        · skip
          refine mv_bipush (pc := 30) (v := 34) B d_Model_registerOp_30 (by decide) ?_
          refine mv_goto (pc := 32) (tgt := 36) B d_Model_registerOp_32 rfl ?_
          exact mv_iret (pc := 36) B hr rfl d_Model_registerOp_36 (Nat.le_refl _) (Nat.le_refl _) ⟨_, rfl, rfl⟩
      · skip
        refine mv_bipush (pc := 20) (v := 28) B d_Model_registerOp_20 (by decide) ?_
        refine mv_goto (pc := 22) (tgt := 36) B d_Model_registerOp_22 rfl ?_
        exact mv_iret (pc := 36) B hr rfl d_Model_registerOp_36 (Nat.le_refl _) (Nat.le_refl _) ⟨_, rfl, rfl⟩
  · skip
    refine mv_bipush (pc := 5) (v := 40) B d_Model_registerOp_5 (by decide) ?_
    refine mv_iload_n (pc := 7) B d_Model_registerOp_7 rfl 0 rfl ?_
    refine mv_iadd (pc := 8) B d_Model_registerOp_8 ?_
    exact mv_iret (pc := 9) B hr rfl d_Model_registerOp_9 (Nat.le_refl _) (Nat.le_refl _) ⟨_, rfl, rfl⟩
def y_Model_shippedOp : MethodName := ⟨"MachineLoomModel", "shippedOp", "(I)I"⟩
abbrev b_Model_shippedOp : ByteArray := prog_14_method_7_code
theorem kc_Model_shippedOp : Cond.code y_Model_shippedOp b_Model_shippedOp 3 (Option.some Jvm.ClassFile.FieldType.int) ∈ ma := ma_of (tb_10 _ (List.mem_of_getElem? (i := 199) rfl)) rfl
theorem k_2363 : (Jvm.Cond.methodLink "MachineLoomModel" (48 : Nat) ({ cls := "MachineLoomModel", name := "immediateOp", desc := "(II)I" } : Jvm.MethodName)) ∈ ma := ma_of (tb_10 _ (List.mem_of_getElem? (i := 203) rfl)) rfl
theorem k_2364 : (Jvm.Cond.static ({ cls := "MachineLoomModel", name := "immediateOp", desc := "(II)I" } : Jvm.MethodName)) ∈ ma := ma_of (tb_10 _ (List.mem_of_getElem? (i := 204) rfl)) rfl
theorem k_2366 : (Jvm.Cond.methodLink "MachineLoomModel" (52 : Nat) ({ cls := "MachineLoomModel", name := "registerOp", desc := "(II)I" } : Jvm.MethodName)) ∈ ma := ma_of (tb_10 _ (List.mem_of_getElem? (i := 206) rfl)) rfl
theorem k_2367 : (Jvm.Cond.static ({ cls := "MachineLoomModel", name := "registerOp", desc := "(II)I" } : Jvm.MethodName)) ∈ ma := ma_of (tb_10 _ (List.mem_of_getElem? (i := 207) rfl)) rfl
theorem k_2369 : (Jvm.Cond.constant "MachineLoomModel" (55 : Nat) (1048691 : Int32)) ∈ ma := ma_of (tb_10 _ (List.mem_of_getElem? (i := 209) rfl)) rfl
theorem d_Model_shippedOp_0 : decode b_Model_shippedOp 0 = .ok (.iload_n 0, 1) := by decide +kernel
theorem d_Model_shippedOp_1 : decode b_Model_shippedOp 1 = .ok (.bipush 14, 2) := by decide +kernel
theorem d_Model_shippedOp_3 : decode b_Model_shippedOp 3 = .ok (.bipush 12, 2) := by decide +kernel
theorem d_Model_shippedOp_5 : decode b_Model_shippedOp 5 = .ok (.invokestatic 44, 3) := by decide +kernel
theorem d_Model_shippedOp_8 : decode b_Model_shippedOp 8 = .ok (.istore_n 1, 1) := by decide +kernel
theorem d_Model_shippedOp_9 : decode b_Model_shippedOp 9 = .ok (.iload_n 0, 1) := by decide +kernel
theorem d_Model_shippedOp_10 : decode b_Model_shippedOp 10 = .ok (.bipush 31, 2) := by decide +kernel
theorem d_Model_shippedOp_12 : decode b_Model_shippedOp 12 = .ok (.bipush 25, 2) := by decide +kernel
theorem d_Model_shippedOp_14 : decode b_Model_shippedOp 14 = .ok (.invokestatic 44, 3) := by decide +kernel
theorem d_Model_shippedOp_17 : decode b_Model_shippedOp 17 = .ok (.istore_n 2, 1) := by decide +kernel
theorem d_Model_shippedOp_18 : decode b_Model_shippedOp 18 = .ok (.iload_n 0, 1) := by decide +kernel
theorem d_Model_shippedOp_19 : decode b_Model_shippedOp 19 = .ok (.bipush 6, 2) := by decide +kernel
theorem d_Model_shippedOp_21 : decode b_Model_shippedOp 21 = .ok (.iconst 0, 1) := by decide +kernel
theorem d_Model_shippedOp_22 : decode b_Model_shippedOp 22 = .ok (.invokestatic 44, 3) := by decide +kernel
theorem d_Model_shippedOp_25 : decode b_Model_shippedOp 25 = .ok (.lookupswitch (234) #[(3, 139), (15, 199), (19, 187), (23, 101), (35, 173), (51, 193), (55, 99), (99, 115), (103, 105), (111, 103), (115, 210)], 99) := by decide +kernel
theorem d_Model_shippedOp_124 : decode b_Model_shippedOp 124 = .ok (.iconst 0, 1) := by decide +kernel
theorem d_Model_shippedOp_125 : decode b_Model_shippedOp 125 = .ok (.ireturn, 1) := by decide +kernel
theorem d_Model_shippedOp_126 : decode b_Model_shippedOp 126 = .ok (.iconst 1, 1) := by decide +kernel
theorem d_Model_shippedOp_127 : decode b_Model_shippedOp 127 = .ok (.ireturn, 1) := by decide +kernel
theorem d_Model_shippedOp_128 : decode b_Model_shippedOp 128 = .ok (.iconst 2, 1) := by decide +kernel
theorem d_Model_shippedOp_129 : decode b_Model_shippedOp 129 = .ok (.ireturn, 1) := by decide +kernel
theorem d_Model_shippedOp_130 : decode b_Model_shippedOp 130 = .ok (.iload_n 1, 1) := by decide +kernel
theorem d_Model_shippedOp_131 : decode b_Model_shippedOp 131 = .ok (.ifCond .ne (7), 3) := by decide +kernel
theorem d_Model_shippedOp_134 : decode b_Model_shippedOp 134 = .ok (.iconst 3, 1) := by decide +kernel
theorem d_Model_shippedOp_135 : decode b_Model_shippedOp 135 = .ok (.goto (4), 3) := by decide +kernel
theorem d_Model_shippedOp_138 : decode b_Model_shippedOp 138 = .ok (.iconst (-1), 1) := by decide +kernel
theorem d_Model_shippedOp_139 : decode b_Model_shippedOp 139 = .ok (.ireturn, 1) := by decide +kernel
theorem d_Model_shippedOp_140 : decode b_Model_shippedOp 140 = .ok (.iload_n 1, 1) := by decide +kernel
theorem d_Model_shippedOp_141 : decode b_Model_shippedOp 141 = .ok (.iconst 2, 1) := by decide +kernel
theorem d_Model_shippedOp_142 : decode b_Model_shippedOp 142 = .ok (.if_icmp .ge (9), 3) := by decide +kernel
theorem d_Model_shippedOp_145 : decode b_Model_shippedOp 145 = .ok (.iconst 4, 1) := by decide +kernel
theorem d_Model_shippedOp_146 : decode b_Model_shippedOp 146 = .ok (.iload_n 1, 1) := by decide +kernel
theorem d_Model_shippedOp_147 : decode b_Model_shippedOp 147 = .ok (.iadd, 1) := by decide +kernel
theorem d_Model_shippedOp_148 : decode b_Model_shippedOp 148 = .ok (.goto (15), 3) := by decide +kernel
theorem d_Model_shippedOp_151 : decode b_Model_shippedOp 151 = .ok (.iload_n 1, 1) := by decide +kernel
theorem d_Model_shippedOp_152 : decode b_Model_shippedOp 152 = .ok (.iconst 3, 1) := by decide +kernel
theorem d_Model_shippedOp_153 : decode b_Model_shippedOp 153 = .ok (.if_icmp .le (9), 3) := by decide +kernel
theorem d_Model_shippedOp_156 : decode b_Model_shippedOp 156 = .ok (.iconst 2, 1) := by decide +kernel
theorem d_Model_shippedOp_157 : decode b_Model_shippedOp 157 = .ok (.iload_n 1, 1) := by decide +kernel
theorem d_Model_shippedOp_158 : decode b_Model_shippedOp 158 = .ok (.iadd, 1) := by decide +kernel
theorem d_Model_shippedOp_159 : decode b_Model_shippedOp 159 = .ok (.goto (4), 3) := by decide +kernel
theorem d_Model_shippedOp_162 : decode b_Model_shippedOp 162 = .ok (.iconst (-1), 1) := by decide +kernel
theorem d_Model_shippedOp_163 : decode b_Model_shippedOp 163 = .ok (.ireturn, 1) := by decide +kernel
theorem d_Model_shippedOp_164 : decode b_Model_shippedOp 164 = .ok (.iload_n 1, 1) := by decide +kernel
theorem d_Model_shippedOp_165 : decode b_Model_shippedOp 165 = .ok (.iconst 3, 1) := by decide +kernel
theorem d_Model_shippedOp_166 : decode b_Model_shippedOp 166 = .ok (.if_icmp .ge (10), 3) := by decide +kernel
theorem d_Model_shippedOp_169 : decode b_Model_shippedOp 169 = .ok (.bipush 10, 2) := by decide +kernel
theorem d_Model_shippedOp_171 : decode b_Model_shippedOp 171 = .ok (.iload_n 1, 1) := by decide +kernel
theorem d_Model_shippedOp_172 : decode b_Model_shippedOp 172 = .ok (.iadd, 1) := by decide +kernel
theorem d_Model_shippedOp_173 : decode b_Model_shippedOp 173 = .ok (.goto (24), 3) := by decide +kernel
theorem d_Model_shippedOp_176 : decode b_Model_shippedOp 176 = .ok (.iload_n 1, 1) := by decide +kernel
theorem d_Model_shippedOp_177 : decode b_Model_shippedOp 177 = .ok (.iconst 4, 1) := by decide +kernel
theorem d_Model_shippedOp_178 : decode b_Model_shippedOp 178 = .ok (.if_icmp .ne (8), 3) := by decide +kernel
theorem d_Model_shippedOp_181 : decode b_Model_shippedOp 181 = .ok (.bipush 13, 2) := by decide +kernel
theorem d_Model_shippedOp_183 : decode b_Model_shippedOp 183 = .ok (.goto (14), 3) := by decide +kernel
theorem d_Model_shippedOp_186 : decode b_Model_shippedOp 186 = .ok (.iload_n 1, 1) := by decide +kernel
theorem d_Model_shippedOp_187 : decode b_Model_shippedOp 187 = .ok (.iconst 5, 1) := by decide +kernel
theorem d_Model_shippedOp_188 : decode b_Model_shippedOp 188 = .ok (.if_icmp .ne (8), 3) := by decide +kernel
theorem d_Model_shippedOp_191 : decode b_Model_shippedOp 191 = .ok (.bipush 14, 2) := by decide +kernel
theorem d_Model_shippedOp_193 : decode b_Model_shippedOp 193 = .ok (.goto (4), 3) := by decide +kernel
theorem d_Model_shippedOp_196 : decode b_Model_shippedOp 196 = .ok (.iconst (-1), 1) := by decide +kernel
theorem d_Model_shippedOp_197 : decode b_Model_shippedOp 197 = .ok (.ireturn, 1) := by decide +kernel
theorem d_Model_shippedOp_198 : decode b_Model_shippedOp 198 = .ok (.iload_n 1, 1) := by decide +kernel
theorem d_Model_shippedOp_199 : decode b_Model_shippedOp 199 = .ok (.iconst 3, 1) := by decide +kernel
theorem d_Model_shippedOp_200 : decode b_Model_shippedOp 200 = .ok (.if_icmp .ge (10), 3) := by decide +kernel
theorem d_Model_shippedOp_203 : decode b_Model_shippedOp 203 = .ok (.bipush 15, 2) := by decide +kernel
theorem d_Model_shippedOp_205 : decode b_Model_shippedOp 205 = .ok (.iload_n 1, 1) := by decide +kernel
theorem d_Model_shippedOp_206 : decode b_Model_shippedOp 206 = .ok (.iadd, 1) := by decide +kernel
theorem d_Model_shippedOp_207 : decode b_Model_shippedOp 207 = .ok (.goto (4), 3) := by decide +kernel
theorem d_Model_shippedOp_210 : decode b_Model_shippedOp 210 = .ok (.iconst (-1), 1) := by decide +kernel
theorem d_Model_shippedOp_211 : decode b_Model_shippedOp 211 = .ok (.ireturn, 1) := by decide +kernel
theorem d_Model_shippedOp_212 : decode b_Model_shippedOp 212 = .ok (.iload_n 1, 1) := by decide +kernel
theorem d_Model_shippedOp_213 : decode b_Model_shippedOp 213 = .ok (.iload_n 2, 1) := by decide +kernel
theorem d_Model_shippedOp_214 : decode b_Model_shippedOp 214 = .ok (.invokestatic 48, 3) := by decide +kernel
theorem d_Model_shippedOp_217 : decode b_Model_shippedOp 217 = .ok (.ireturn, 1) := by decide +kernel
theorem d_Model_shippedOp_218 : decode b_Model_shippedOp 218 = .ok (.iload_n 1, 1) := by decide +kernel
theorem d_Model_shippedOp_219 : decode b_Model_shippedOp 219 = .ok (.iload_n 2, 1) := by decide +kernel
theorem d_Model_shippedOp_220 : decode b_Model_shippedOp 220 = .ok (.invokestatic 52, 3) := by decide +kernel
theorem d_Model_shippedOp_223 : decode b_Model_shippedOp 223 = .ok (.ireturn, 1) := by decide +kernel
theorem d_Model_shippedOp_224 : decode b_Model_shippedOp 224 = .ok (.iload_n 1, 1) := by decide +kernel
theorem d_Model_shippedOp_225 : decode b_Model_shippedOp 225 = .ok (.ifCond .ne (8), 3) := by decide +kernel
theorem d_Model_shippedOp_228 : decode b_Model_shippedOp 228 = .ok (.bipush 37, 2) := by decide +kernel
theorem d_Model_shippedOp_230 : decode b_Model_shippedOp 230 = .ok (.goto (4), 3) := by decide +kernel
theorem d_Model_shippedOp_233 : decode b_Model_shippedOp 233 = .ok (.iconst (-1), 1) := by decide +kernel
theorem d_Model_shippedOp_234 : decode b_Model_shippedOp 234 = .ok (.ireturn, 1) := by decide +kernel
theorem d_Model_shippedOp_235 : decode b_Model_shippedOp 235 = .ok (.iload_n 0, 1) := by decide +kernel
theorem d_Model_shippedOp_236 : decode b_Model_shippedOp 236 = .ok (.bipush 115, 2) := by decide +kernel
theorem d_Model_shippedOp_238 : decode b_Model_shippedOp 238 = .ok (.if_icmp .ne (8), 3) := by decide +kernel
theorem d_Model_shippedOp_241 : decode b_Model_shippedOp 241 = .ok (.bipush 38, 2) := by decide +kernel
theorem d_Model_shippedOp_243 : decode b_Model_shippedOp 243 = .ok (.goto (15), 3) := by decide +kernel
theorem d_Model_shippedOp_246 : decode b_Model_shippedOp 246 = .ok (.iload_n 0, 1) := by decide +kernel
theorem d_Model_shippedOp_247 : decode b_Model_shippedOp 247 = .ok (.ldc 55, 2) := by decide +kernel
theorem d_Model_shippedOp_249 : decode b_Model_shippedOp 249 = .ok (.if_icmp .ne (8), 3) := by decide +kernel
theorem d_Model_shippedOp_252 : decode b_Model_shippedOp 252 = .ok (.bipush 39, 2) := by decide +kernel
theorem d_Model_shippedOp_254 : decode b_Model_shippedOp 254 = .ok (.goto (4), 3) := by decide +kernel
theorem d_Model_shippedOp_257 : decode b_Model_shippedOp 257 = .ok (.iconst (-1), 1) := by decide +kernel
theorem d_Model_shippedOp_258 : decode b_Model_shippedOp 258 = .ok (.ireturn, 1) := by decide +kernel
theorem d_Model_shippedOp_259 : decode b_Model_shippedOp 259 = .ok (.iconst (-1), 1) := by decide +kernel
theorem d_Model_shippedOp_260 : decode b_Model_shippedOp 260 = .ok (.ireturn, 1) := by decide +kernel
set_option maxHeartbeats 4000000 in
set_option maxRecDepth 100000 in
theorem c_Model_shippedOp (l : Launch) {dA : FieldType → ClassId} {D : va_G} {al : Nat → Nat} {ext : mv_Sh} {sk sv : Nat → Nat} (hi : mv_inj (mg dA D al ext)) (σ : mv_H) (w : Int32) : mv_C l y_Model_shippedOp (Cond.code y_Model_shippedOp b_Model_shippedOp 3 (Option.some Jvm.ClassFile.FieldType.int) :: ma) ({ frames := 1, cells := 0, slots := 0, locals := 22 }) (mg dA D al ext) (mK sk sv) [.int w] σ (mv_Ri (fun v σ1 => σ1 = σ)) := by
  refine mv_C.ofV (cc := b_Model_shippedOp) (nL := 3) (ret := (Option.some Jvm.ClassFile.FieldType.int)) (by decide +kernel) rfl hi (Nat.le_of_ble_eq_true rfl) ?_
  intro p e s m below meth c B hNs hr hnm hno
  refine mv_iload_n (pc := 0) B d_Model_shippedOp_0 rfl 0 rfl ?_
  refine mv_bipush (pc := 1) (v := 14) B d_Model_shippedOp_1 (by decide) ?_
  refine mv_bipush (pc := 3) (v := 12) B d_Model_shippedOp_3 (by decide) ?_
  refine mv_callSi (pc := 5) (n := 3) B (mK_ok sk sv) hNs (c_Model_piece l hi _ _ _ _) rfl (ma_goodc kc_Model_piece) (B.2.2.2.1 _ k_2360) (B.2.2.2.1 _ k_2361) (B.2.2.2.1 _ k_12) ⟨by decide +kernel, by decide +kernel, by decide +kernel⟩ rfl d_Model_shippedOp_5 rfl (Nat.le_of_ble_eq_true rfl) ⟨by decide, by decide⟩ ⟨by decide, by decide⟩ ⟨by decide, by decide⟩ (mv_noH hno _) (fun v5 σ5 h5 => ?_)
  obtain ⟨e5, z5⟩ := h5
  have e5 := e5.symm
  subst e5
  clear z5
  refine mv_istore_n (pc := 8) B d_Model_shippedOp_8 rfl (by decide) rfl ?_
  refine mv_iload_n (pc := 9) B d_Model_shippedOp_9 rfl 1 rfl ?_
  refine mv_bipush (pc := 10) (v := 31) B d_Model_shippedOp_10 (by decide) ?_
  refine mv_bipush (pc := 12) (v := 25) B d_Model_shippedOp_12 (by decide) ?_
  refine mv_callSi (pc := 14) (n := 3) B (mK_ok sk sv) hNs (c_Model_piece l hi _ _ _ _) rfl (ma_goodc kc_Model_piece) (B.2.2.2.1 _ k_2360) (B.2.2.2.1 _ k_2361) (B.2.2.2.1 _ k_12) ⟨by decide +kernel, by decide +kernel, by decide +kernel⟩ rfl d_Model_shippedOp_14 rfl (Nat.le_of_ble_eq_true rfl) ⟨by decide, by decide⟩ ⟨by decide, by decide⟩ ⟨by decide, by decide⟩ (mv_noH hno _) (fun v14 σ14 h14 => ?_)
  obtain ⟨e14, z14⟩ := h14
  have e14 := e14.symm
  subst e14
  clear z14
  refine mv_istore_n (pc := 17) B d_Model_shippedOp_17 rfl (by decide) rfl ?_
  refine mv_iload_n (pc := 18) B d_Model_shippedOp_18 rfl 2 rfl ?_
  refine mv_bipush (pc := 19) (v := 6) B d_Model_shippedOp_19 (by decide) ?_
  refine mv_iconst (pc := 21) (v := 0) B d_Model_shippedOp_21 (by decide) ?_
  refine mv_callSi (pc := 22) (n := 3) B (mK_ok sk sv) hNs (c_Model_piece l hi _ _ _ _) rfl (ma_goodc kc_Model_piece) (B.2.2.2.1 _ k_2360) (B.2.2.2.1 _ k_2361) (B.2.2.2.1 _ k_12) ⟨by decide +kernel, by decide +kernel, by decide +kernel⟩ rfl d_Model_shippedOp_22 rfl (Nat.le_of_ble_eq_true rfl) ⟨by decide, by decide⟩ ⟨by decide, by decide⟩ ⟨by decide, by decide⟩ (mv_noH hno _) (fun v22 σ22 h22 => ?_)
  obtain ⟨e22, z22⟩ := h22
  have e22 := e22.symm
  subst e22
  clear z22
  refine mv_lsw (pc := 25) B d_Model_shippedOp_25 (by decide) (by decide) ?_
  refine ⟨fun h25 => ?_, fun h25n3 => ?_⟩
  · skip
    refine mv_iload_n (pc := 164) B d_Model_shippedOp_164 rfl 1 rfl ?_
    refine mv_iconst (pc := 165) (v := 3) B d_Model_shippedOp_165 (by decide) ?_
    refine mv_icmp_ge (pc := 166) (tgt := 176) B d_Model_shippedOp_166 rfl (fun h166 => ?_) (fun h166 => ?_)
    · skip
      refine mv_iload_n (pc := 176) B d_Model_shippedOp_176 rfl 1 rfl ?_
      refine mv_iconst (pc := 177) (v := 4) B d_Model_shippedOp_177 (by decide) ?_
      refine mv_icmp_ne (pc := 178) (tgt := 186) B d_Model_shippedOp_178 rfl (fun h178 => ?_) (fun h178 => ?_)
      · skip
        refine mv_iload_n (pc := 186) B d_Model_shippedOp_186 rfl 1 rfl ?_
        refine mv_iconst (pc := 187) (v := 5) B d_Model_shippedOp_187 (by decide) ?_
        refine mv_icmp_ne (pc := 188) (tgt := 196) B d_Model_shippedOp_188 rfl (fun h188 => ?_) (fun h188 => ?_)
        · skip
          refine mv_iconst (pc := 196) (v := -1) B d_Model_shippedOp_196 (by decide) ?_
          exact mv_iret (pc := 197) B hr rfl d_Model_shippedOp_197 (Nat.le_refl _) (Nat.le_refl _) ⟨_, rfl, rfl⟩
        · skip
          refine mv_bipush (pc := 191) (v := 14) B d_Model_shippedOp_191 (by decide) ?_
          refine mv_goto (pc := 193) (tgt := 197) B d_Model_shippedOp_193 rfl ?_
          exact mv_iret (pc := 197) B hr rfl d_Model_shippedOp_197 (Nat.le_refl _) (Nat.le_refl _) ⟨_, rfl, rfl⟩
      · skip
        refine mv_bipush (pc := 181) (v := 13) B d_Model_shippedOp_181 (by decide) ?_
        refine mv_goto (pc := 183) (tgt := 197) B d_Model_shippedOp_183 rfl ?_
        exact mv_iret (pc := 197) B hr rfl d_Model_shippedOp_197 (Nat.le_refl _) (Nat.le_refl _) ⟨_, rfl, rfl⟩
    · skip
      refine mv_bipush (pc := 169) (v := 10) B d_Model_shippedOp_169 (by decide) ?_
      refine mv_iload_n (pc := 171) B d_Model_shippedOp_171 rfl 1 rfl ?_
      refine mv_iadd (pc := 172) B d_Model_shippedOp_172 ?_
      refine mv_goto (pc := 173) (tgt := 197) B d_Model_shippedOp_173 rfl ?_
      exact mv_iret (pc := 197) B hr rfl d_Model_shippedOp_197 (Nat.le_refl _) (Nat.le_refl _) ⟨_, rfl, rfl⟩
  refine ⟨fun h25 => ?_, fun h25n15 => ?_⟩
  · skip
    refine mv_iload_n (pc := 224) B d_Model_shippedOp_224 rfl 1 rfl ?_
    refine mv_if_ne (pc := 225) (tgt := 233) B d_Model_shippedOp_225 rfl (fun h225 => ?_) (fun h225 => ?_)
    · skip
      refine mv_iconst (pc := 233) (v := -1) B d_Model_shippedOp_233 (by decide) ?_
      exact mv_iret (pc := 234) B hr rfl d_Model_shippedOp_234 (Nat.le_refl _) (Nat.le_refl _) ⟨_, rfl, rfl⟩
    · skip
      refine mv_bipush (pc := 228) (v := 37) B d_Model_shippedOp_228 (by decide) ?_
      refine mv_goto (pc := 230) (tgt := 234) B d_Model_shippedOp_230 rfl ?_
      exact mv_iret (pc := 234) B hr rfl d_Model_shippedOp_234 (Nat.le_refl _) (Nat.le_refl _) ⟨_, rfl, rfl⟩
  refine ⟨fun h25 => ?_, fun h25n19 => ?_⟩
  · skip
    refine mv_iload_n (pc := 212) B d_Model_shippedOp_212 rfl 1 rfl ?_
    refine mv_iload_n (pc := 213) B d_Model_shippedOp_213 rfl 0 rfl ?_
    refine mv_callSi (pc := 214) (n := 2) B (mK_ok sk sv) hNs (c_Model_immediateOp l hi _ _ _) rfl (ma_goodc kc_Model_immediateOp) (B.2.2.2.1 _ k_2363) (B.2.2.2.1 _ k_2364) (B.2.2.2.1 _ k_12) ⟨by decide +kernel, by decide +kernel, by decide +kernel⟩ rfl d_Model_shippedOp_214 rfl (Nat.le_of_ble_eq_true rfl) ⟨by decide, by decide⟩ ⟨by decide, by decide⟩ ⟨by decide, by decide⟩ (mv_noH hno _) (fun v214 σ214 h214 => ?_)
    have e214 := h214.symm
    subst e214
    exact mv_iret (pc := 217) B hr rfl d_Model_shippedOp_217 (Nat.le_refl _) (Nat.le_refl _) ⟨_, rfl, rfl⟩
  refine ⟨fun h25 => ?_, fun h25n23 => ?_⟩
  · skip
    refine mv_iconst (pc := 126) (v := 1) B d_Model_shippedOp_126 (by decide) ?_
    exact mv_iret (pc := 127) B hr rfl d_Model_shippedOp_127 (Nat.le_refl _) (Nat.le_refl _) ⟨_, rfl, rfl⟩
  refine ⟨fun h25 => ?_, fun h25n35 => ?_⟩
  · skip
    refine mv_iload_n (pc := 198) B d_Model_shippedOp_198 rfl 1 rfl ?_
    refine mv_iconst (pc := 199) (v := 3) B d_Model_shippedOp_199 (by decide) ?_
    refine mv_icmp_ge (pc := 200) (tgt := 210) B d_Model_shippedOp_200 rfl (fun h200 => ?_) (fun h200 => ?_)
    · skip
      refine mv_iconst (pc := 210) (v := -1) B d_Model_shippedOp_210 (by decide) ?_
      exact mv_iret (pc := 211) B hr rfl d_Model_shippedOp_211 (Nat.le_refl _) (Nat.le_refl _) ⟨_, rfl, rfl⟩
    · skip
      refine mv_bipush (pc := 203) (v := 15) B d_Model_shippedOp_203 (by decide) ?_
      refine mv_iload_n (pc := 205) B d_Model_shippedOp_205 rfl 1 rfl ?_
      refine mv_iadd (pc := 206) B d_Model_shippedOp_206 ?_
      refine mv_goto (pc := 207) (tgt := 211) B d_Model_shippedOp_207 rfl ?_
      exact mv_iret (pc := 211) B hr rfl d_Model_shippedOp_211 (Nat.le_refl _) (Nat.le_refl _) ⟨_, rfl, rfl⟩
  refine ⟨fun h25 => ?_, fun h25n51 => ?_⟩
  · skip
    refine mv_iload_n (pc := 218) B d_Model_shippedOp_218 rfl 1 rfl ?_
    refine mv_iload_n (pc := 219) B d_Model_shippedOp_219 rfl 0 rfl ?_
    refine mv_callSi (pc := 220) (n := 2) B (mK_ok sk sv) hNs (c_Model_registerOp l hi _ _ _) rfl (ma_goodc kc_Model_registerOp) (B.2.2.2.1 _ k_2366) (B.2.2.2.1 _ k_2367) (B.2.2.2.1 _ k_12) ⟨by decide +kernel, by decide +kernel, by decide +kernel⟩ rfl d_Model_shippedOp_220 rfl (Nat.le_of_ble_eq_true rfl) ⟨by decide, by decide⟩ ⟨by decide, by decide⟩ ⟨by decide, by decide⟩ (mv_noH hno _) (fun v220 σ220 h220 => ?_)
    have e220 := h220.symm
    subst e220
    exact mv_iret (pc := 223) B hr rfl d_Model_shippedOp_223 (Nat.le_refl _) (Nat.le_refl _) ⟨_, rfl, rfl⟩
  refine ⟨fun h25 => ?_, fun h25n55 => ?_⟩
  · skip
    refine mv_iconst (pc := 124) (v := 0) B d_Model_shippedOp_124 (by decide) ?_
    exact mv_iret (pc := 125) B hr rfl d_Model_shippedOp_125 (Nat.le_refl _) (Nat.le_refl _) ⟨_, rfl, rfl⟩
  refine ⟨fun h25 => ?_, fun h25n99 => ?_⟩
  · skip
    refine mv_iload_n (pc := 140) B d_Model_shippedOp_140 rfl 1 rfl ?_
    refine mv_iconst (pc := 141) (v := 2) B d_Model_shippedOp_141 (by decide) ?_
    refine mv_icmp_ge (pc := 142) (tgt := 151) B d_Model_shippedOp_142 rfl (fun h142 => ?_) (fun h142 => ?_)
    · skip
      refine mv_iload_n (pc := 151) B d_Model_shippedOp_151 rfl 1 rfl ?_
      refine mv_iconst (pc := 152) (v := 3) B d_Model_shippedOp_152 (by decide) ?_
      refine mv_icmp_le (pc := 153) (tgt := 162) B d_Model_shippedOp_153 rfl (fun h153 => ?_) (fun h153 => ?_)
      · skip
        refine mv_iconst (pc := 162) (v := -1) B d_Model_shippedOp_162 (by decide) ?_
        exact mv_iret (pc := 163) B hr rfl d_Model_shippedOp_163 (Nat.le_refl _) (Nat.le_refl _) ⟨_, rfl, rfl⟩
      · skip
        refine mv_iconst (pc := 156) (v := 2) B d_Model_shippedOp_156 (by decide) ?_
        refine mv_iload_n (pc := 157) B d_Model_shippedOp_157 rfl 1 rfl ?_
        refine mv_iadd (pc := 158) B d_Model_shippedOp_158 ?_
        refine mv_goto (pc := 159) (tgt := 163) B d_Model_shippedOp_159 rfl ?_
        exact mv_iret (pc := 163) B hr rfl d_Model_shippedOp_163 (Nat.le_refl _) (Nat.le_refl _) ⟨_, rfl, rfl⟩
    · skip
      refine mv_iconst (pc := 145) (v := 4) B d_Model_shippedOp_145 (by decide) ?_
      refine mv_iload_n (pc := 146) B d_Model_shippedOp_146 rfl 1 rfl ?_
      refine mv_iadd (pc := 147) B d_Model_shippedOp_147 ?_
      refine mv_goto (pc := 148) (tgt := 163) B d_Model_shippedOp_148 rfl ?_
      exact mv_iret (pc := 163) B hr rfl d_Model_shippedOp_163 (Nat.le_refl _) (Nat.le_refl _) ⟨_, rfl, rfl⟩
  refine ⟨fun h25 => ?_, fun h25n103 => ?_⟩
  · skip
    refine mv_iload_n (pc := 130) B d_Model_shippedOp_130 rfl 1 rfl ?_
    refine mv_if_ne (pc := 131) (tgt := 138) B d_Model_shippedOp_131 rfl (fun h131 => ?_) (fun h131 => ?_)
    · skip
      refine mv_iconst (pc := 138) (v := -1) B d_Model_shippedOp_138 (by decide) ?_
      exact mv_iret (pc := 139) B hr rfl d_Model_shippedOp_139 (Nat.le_refl _) (Nat.le_refl _) ⟨_, rfl, rfl⟩
    · skip
      refine mv_iconst (pc := 134) (v := 3) B d_Model_shippedOp_134 (by decide) ?_
      refine mv_goto (pc := 135) (tgt := 139) B d_Model_shippedOp_135 rfl ?_
      exact mv_iret (pc := 139) B hr rfl d_Model_shippedOp_139 (Nat.le_refl _) (Nat.le_refl _) ⟨_, rfl, rfl⟩
  refine ⟨fun h25 => ?_, fun h25n111 => ?_⟩
  · skip
    refine mv_iconst (pc := 128) (v := 2) B d_Model_shippedOp_128 (by decide) ?_
    exact mv_iret (pc := 129) B hr rfl d_Model_shippedOp_129 (Nat.le_refl _) (Nat.le_refl _) ⟨_, rfl, rfl⟩
  refine ⟨fun h25 => ?_, fun h25n115 => ?_⟩
  · skip
    refine mv_iload_n (pc := 235) B d_Model_shippedOp_235 rfl 2 rfl ?_
    refine mv_bipush (pc := 236) (v := 115) B d_Model_shippedOp_236 (by decide) ?_
    refine mv_icmp_ne (pc := 238) (tgt := 246) B d_Model_shippedOp_238 rfl (fun h238 => ?_) (fun h238 => ?_)
    · skip
      refine mv_iload_n (pc := 246) B d_Model_shippedOp_246 rfl 2 rfl ?_
      refine mv_ldc (pc := 247) (v := 1048691) B (B.2.2.2.1 _ k_2369) d_Model_shippedOp_247 ?_
      refine mv_icmp_ne (pc := 249) (tgt := 257) B d_Model_shippedOp_249 rfl (fun h249 => ?_) (fun h249 => ?_)
      · skip
        refine mv_iconst (pc := 257) (v := -1) B d_Model_shippedOp_257 (by decide) ?_
        exact mv_iret (pc := 258) B hr rfl d_Model_shippedOp_258 (Nat.le_refl _) (Nat.le_refl _) ⟨_, rfl, rfl⟩
      · skip
        refine mv_bipush (pc := 252) (v := 39) B d_Model_shippedOp_252 (by decide) ?_
        refine mv_goto (pc := 254) (tgt := 258) B d_Model_shippedOp_254 rfl ?_
        exact mv_iret (pc := 258) B hr rfl d_Model_shippedOp_258 (Nat.le_refl _) (Nat.le_refl _) ⟨_, rfl, rfl⟩
    · skip
      refine mv_bipush (pc := 241) (v := 38) B d_Model_shippedOp_241 (by decide) ?_
      refine mv_goto (pc := 243) (tgt := 258) B d_Model_shippedOp_243 rfl ?_
      exact mv_iret (pc := 258) B hr rfl d_Model_shippedOp_258 (Nat.le_refl _) (Nat.le_refl _) ⟨_, rfl, rfl⟩
  show mv_V _ _ _ _ _ _ _ _ _ _ _ _ _ _ _ _ 259 _ _
  refine mv_iconst (pc := 259) (v := -1) B d_Model_shippedOp_259 (by decide) ?_
  exact mv_iret (pc := 260) B hr rfl d_Model_shippedOp_260 (Nat.le_refl _) (Nat.le_refl _) ⟨_, rfl, rfl⟩
def y_Model_taken : MethodName := ⟨"MachineLoomModel", "taken", "(III)Z"⟩
abbrev b_Model_taken : ByteArray := prog_14_method_17_code
theorem kc_Model_taken : Cond.code y_Model_taken b_Model_taken 3 (Option.some Jvm.ClassFile.FieldType.boolean) ∈ ma := ma_of (tb_11 _ (List.mem_of_getElem? (i := 64) rfl)) rfl
theorem k_2465 : (Jvm.Cond.methodLink "MachineLoomModel" (62 : Nat) ({ cls := "MachineLoomModel", name := "less", desc := "(II)Z" } : Jvm.MethodName)) ∈ ma := ma_of (tb_11 _ (List.mem_of_getElem? (i := 65) rfl)) rfl
theorem k_2466 : (Jvm.Cond.static ({ cls := "MachineLoomModel", name := "less", desc := "(II)Z" } : Jvm.MethodName)) ∈ ma := ma_of (tb_11 _ (List.mem_of_getElem? (i := 66) rfl)) rfl
theorem d_Model_taken_0 : decode b_Model_taken 0 = .ok (.iload_n 0, 1) := by decide +kernel
theorem d_Model_taken_1 : decode b_Model_taken 1 = .ok (.tableswitch (85) (4) (8) #[35, 46, 57, 68, 79], 35) := by decide +kernel
theorem d_Model_taken_36 : decode b_Model_taken 36 = .ok (.iload_n 1, 1) := by decide +kernel
theorem d_Model_taken_37 : decode b_Model_taken 37 = .ok (.iload_n 2, 1) := by decide +kernel
theorem d_Model_taken_38 : decode b_Model_taken 38 = .ok (.if_icmp .ne (7), 3) := by decide +kernel
theorem d_Model_taken_41 : decode b_Model_taken 41 = .ok (.iconst 1, 1) := by decide +kernel
theorem d_Model_taken_42 : decode b_Model_taken 42 = .ok (.goto (4), 3) := by decide +kernel
theorem d_Model_taken_45 : decode b_Model_taken 45 = .ok (.iconst 0, 1) := by decide +kernel
theorem d_Model_taken_46 : decode b_Model_taken 46 = .ok (.ireturn, 1) := by decide +kernel
theorem d_Model_taken_47 : decode b_Model_taken 47 = .ok (.iload_n 1, 1) := by decide +kernel
theorem d_Model_taken_48 : decode b_Model_taken 48 = .ok (.iload_n 2, 1) := by decide +kernel
theorem d_Model_taken_49 : decode b_Model_taken 49 = .ok (.if_icmp .eq (7), 3) := by decide +kernel
theorem d_Model_taken_52 : decode b_Model_taken 52 = .ok (.iconst 1, 1) := by decide +kernel
theorem d_Model_taken_53 : decode b_Model_taken 53 = .ok (.goto (4), 3) := by decide +kernel
theorem d_Model_taken_56 : decode b_Model_taken 56 = .ok (.iconst 0, 1) := by decide +kernel
theorem d_Model_taken_57 : decode b_Model_taken 57 = .ok (.ireturn, 1) := by decide +kernel
theorem d_Model_taken_58 : decode b_Model_taken 58 = .ok (.iload_n 1, 1) := by decide +kernel
theorem d_Model_taken_59 : decode b_Model_taken 59 = .ok (.iload_n 2, 1) := by decide +kernel
theorem d_Model_taken_60 : decode b_Model_taken 60 = .ok (.if_icmp .ge (7), 3) := by decide +kernel
theorem d_Model_taken_63 : decode b_Model_taken 63 = .ok (.iconst 1, 1) := by decide +kernel
theorem d_Model_taken_64 : decode b_Model_taken 64 = .ok (.goto (4), 3) := by decide +kernel
theorem d_Model_taken_67 : decode b_Model_taken 67 = .ok (.iconst 0, 1) := by decide +kernel
theorem d_Model_taken_68 : decode b_Model_taken 68 = .ok (.ireturn, 1) := by decide +kernel
theorem d_Model_taken_69 : decode b_Model_taken 69 = .ok (.iload_n 1, 1) := by decide +kernel
theorem d_Model_taken_70 : decode b_Model_taken 70 = .ok (.iload_n 2, 1) := by decide +kernel
theorem d_Model_taken_71 : decode b_Model_taken 71 = .ok (.if_icmp .lt (7), 3) := by decide +kernel
theorem d_Model_taken_74 : decode b_Model_taken 74 = .ok (.iconst 1, 1) := by decide +kernel
theorem d_Model_taken_75 : decode b_Model_taken 75 = .ok (.goto (4), 3) := by decide +kernel
theorem d_Model_taken_78 : decode b_Model_taken 78 = .ok (.iconst 0, 1) := by decide +kernel
theorem d_Model_taken_79 : decode b_Model_taken 79 = .ok (.ireturn, 1) := by decide +kernel
theorem d_Model_taken_80 : decode b_Model_taken 80 = .ok (.iload_n 1, 1) := by decide +kernel
theorem d_Model_taken_81 : decode b_Model_taken 81 = .ok (.iload_n 2, 1) := by decide +kernel
theorem d_Model_taken_82 : decode b_Model_taken 82 = .ok (.invokestatic 62, 3) := by decide +kernel
theorem d_Model_taken_85 : decode b_Model_taken 85 = .ok (.ireturn, 1) := by decide +kernel
theorem d_Model_taken_86 : decode b_Model_taken 86 = .ok (.iload_n 1, 1) := by decide +kernel
theorem d_Model_taken_87 : decode b_Model_taken 87 = .ok (.iload_n 2, 1) := by decide +kernel
theorem d_Model_taken_88 : decode b_Model_taken 88 = .ok (.invokestatic 62, 3) := by decide +kernel
theorem d_Model_taken_91 : decode b_Model_taken 91 = .ok (.ifCond .ne (7), 3) := by decide +kernel
theorem d_Model_taken_94 : decode b_Model_taken 94 = .ok (.iconst 1, 1) := by decide +kernel
theorem d_Model_taken_95 : decode b_Model_taken 95 = .ok (.goto (4), 3) := by decide +kernel
theorem d_Model_taken_98 : decode b_Model_taken 98 = .ok (.iconst 0, 1) := by decide +kernel
theorem d_Model_taken_99 : decode b_Model_taken 99 = .ok (.ireturn, 1) := by decide +kernel
set_option maxHeartbeats 4000000 in
set_option maxRecDepth 100000 in
theorem c_Model_taken (l : Launch) {dA : FieldType → ClassId} {D : va_G} {al : Nat → Nat} {ext : mv_Sh} {sk sv : Nat → Nat} (hi : mv_inj (mg dA D al ext)) (σ : mv_H) (o9 x9 y9 : Int32) : mv_C l y_Model_taken (Cond.code y_Model_taken b_Model_taken 3 (Option.some Jvm.ClassFile.FieldType.boolean) :: ma) ({ frames := 1, cells := 0, slots := 0, locals := 21 }) (mg dA D al ext) (mK sk sv) [.int o9, .int x9, .int y9] σ (mv_Ri (fun v σ1 => σ1 = σ)) := by
  refine mv_C.ofV (cc := b_Model_taken) (nL := 3) (ret := (Option.some Jvm.ClassFile.FieldType.boolean)) (by decide +kernel) rfl hi (Nat.le_of_ble_eq_true rfl) ?_
  intro p e s m below meth c B hNs hr hnm hno
  refine mv_iload_n (pc := 0) B d_Model_taken_0 rfl 0 rfl ?_
  refine mv_tsw (pc := 1) B d_Model_taken_1 (by decide) (by decide) ?_
  refine ⟨fun h1 => ?_, fun h1n4 => ?_⟩
  · skip
    refine mv_iload_n (pc := 36) B d_Model_taken_36 rfl 1 rfl ?_
    refine mv_iload_n (pc := 37) B d_Model_taken_37 rfl 2 rfl ?_
    refine mv_icmp_ne (pc := 38) (tgt := 45) B d_Model_taken_38 rfl (fun h38 => ?_) (fun h38 => ?_)
    · skip
      refine mv_iconst (pc := 45) (v := 0) B d_Model_taken_45 (by decide) ?_
      exact mv_iret (pc := 46) B hr rfl d_Model_taken_46 (Nat.le_refl _) (Nat.le_refl _) ⟨_, rfl, rfl⟩
    · skip
      refine mv_iconst (pc := 41) (v := 1) B d_Model_taken_41 (by decide) ?_
      refine mv_goto (pc := 42) (tgt := 46) B d_Model_taken_42 rfl ?_
      exact mv_iret (pc := 46) B hr rfl d_Model_taken_46 (Nat.le_refl _) (Nat.le_refl _) ⟨_, rfl, rfl⟩
  refine ⟨fun h1 => ?_, fun h1n5 => ?_⟩
  · skip
    refine mv_iload_n (pc := 47) B d_Model_taken_47 rfl 1 rfl ?_
    refine mv_iload_n (pc := 48) B d_Model_taken_48 rfl 2 rfl ?_
    refine mv_icmp_eq (pc := 49) (tgt := 56) B d_Model_taken_49 rfl (fun h49 => ?_) (fun h49 => ?_)
    · skip
      refine mv_iconst (pc := 56) (v := 0) B d_Model_taken_56 (by decide) ?_
      exact mv_iret (pc := 57) B hr rfl d_Model_taken_57 (Nat.le_refl _) (Nat.le_refl _) ⟨_, rfl, rfl⟩
    · skip
      refine mv_iconst (pc := 52) (v := 1) B d_Model_taken_52 (by decide) ?_
      refine mv_goto (pc := 53) (tgt := 57) B d_Model_taken_53 rfl ?_
      exact mv_iret (pc := 57) B hr rfl d_Model_taken_57 (Nat.le_refl _) (Nat.le_refl _) ⟨_, rfl, rfl⟩
  refine ⟨fun h1 => ?_, fun h1n6 => ?_⟩
  · skip
    refine mv_iload_n (pc := 58) B d_Model_taken_58 rfl 1 rfl ?_
    refine mv_iload_n (pc := 59) B d_Model_taken_59 rfl 2 rfl ?_
    refine mv_icmp_ge (pc := 60) (tgt := 67) B d_Model_taken_60 rfl (fun h60 => ?_) (fun h60 => ?_)
    · skip
      refine mv_iconst (pc := 67) (v := 0) B d_Model_taken_67 (by decide) ?_
      exact mv_iret (pc := 68) B hr rfl d_Model_taken_68 (Nat.le_refl _) (Nat.le_refl _) ⟨_, rfl, rfl⟩
    · skip
      refine mv_iconst (pc := 63) (v := 1) B d_Model_taken_63 (by decide) ?_
      refine mv_goto (pc := 64) (tgt := 68) B d_Model_taken_64 rfl ?_
      exact mv_iret (pc := 68) B hr rfl d_Model_taken_68 (Nat.le_refl _) (Nat.le_refl _) ⟨_, rfl, rfl⟩
  refine ⟨fun h1 => ?_, fun h1n7 => ?_⟩
  · skip
    refine mv_iload_n (pc := 69) B d_Model_taken_69 rfl 1 rfl ?_
    refine mv_iload_n (pc := 70) B d_Model_taken_70 rfl 2 rfl ?_
    refine mv_icmp_lt (pc := 71) (tgt := 78) B d_Model_taken_71 rfl (fun h71 => ?_) (fun h71 => ?_)
    · skip
      refine mv_iconst (pc := 78) (v := 0) B d_Model_taken_78 (by decide) ?_
      exact mv_iret (pc := 79) B hr rfl d_Model_taken_79 (Nat.le_refl _) (Nat.le_refl _) ⟨_, rfl, rfl⟩
    · skip
      refine mv_iconst (pc := 74) (v := 1) B d_Model_taken_74 (by decide) ?_
      refine mv_goto (pc := 75) (tgt := 79) B d_Model_taken_75 rfl ?_
      exact mv_iret (pc := 79) B hr rfl d_Model_taken_79 (Nat.le_refl _) (Nat.le_refl _) ⟨_, rfl, rfl⟩
  refine ⟨fun h1 => ?_, fun h1n8 => ?_⟩
  · skip
    refine mv_iload_n (pc := 80) B d_Model_taken_80 rfl 1 rfl ?_
    refine mv_iload_n (pc := 81) B d_Model_taken_81 rfl 2 rfl ?_
    refine mv_callSi (pc := 82) (n := 2) B (mK_ok sk sv) hNs (c_Model_less l hi _ _ _) rfl (ma_goodc kc_Model_less) (B.2.2.2.1 _ k_2465) (B.2.2.2.1 _ k_2466) (B.2.2.2.1 _ k_12) ⟨by decide +kernel, by decide +kernel, by decide +kernel⟩ rfl d_Model_taken_82 rfl (Nat.le_of_ble_eq_true rfl) ⟨by decide, by decide⟩ ⟨by decide, by decide⟩ ⟨by decide, by decide⟩ (mv_noH hno _) (fun v82 σ82 h82 => ?_)
    obtain ⟨e82, z82⟩ := h82
    have e82 := e82.symm
    subst e82
    exact mv_iret (pc := 85) B hr (by rcases z82 with z | z <;> (rw [z]; rfl)) d_Model_taken_85 (Nat.le_refl _) (Nat.le_refl _) ⟨_, rfl, rfl⟩
  show mv_V _ _ _ _ _ _ _ _ _ _ _ _ _ _ _ _ 86 _ _
  refine mv_iload_n (pc := 86) B d_Model_taken_86 rfl 1 rfl ?_
  refine mv_iload_n (pc := 87) B d_Model_taken_87 rfl 2 rfl ?_
  refine mv_callSi (pc := 88) (n := 2) B (mK_ok sk sv) hNs (c_Model_less l hi _ _ _) rfl (ma_goodc kc_Model_less) (B.2.2.2.1 _ k_2465) (B.2.2.2.1 _ k_2466) (B.2.2.2.1 _ k_12) ⟨by decide +kernel, by decide +kernel, by decide +kernel⟩ rfl d_Model_taken_88 rfl (Nat.le_of_ble_eq_true rfl) ⟨by decide, by decide⟩ ⟨by decide, by decide⟩ ⟨by decide, by decide⟩ (mv_noH hno _) (fun v88 σ88 h88 => ?_)
  obtain ⟨e88, z88⟩ := h88
  have e88 := e88.symm
  subst e88
  refine mv_if_ne (pc := 91) (tgt := 98) B d_Model_taken_91 rfl (fun h91 => ?_) (fun h91 => ?_)
  · skip
    refine mv_iconst (pc := 98) (v := 0) B d_Model_taken_98 (by decide) ?_
    exact mv_iret (pc := 99) B hr rfl d_Model_taken_99 (Nat.le_refl _) (Nat.le_refl _) ⟨_, rfl, rfl⟩
  · skip
    refine mv_iconst (pc := 94) (v := 1) B d_Model_taken_94 (by decide) ?_
    refine mv_goto (pc := 95) (tgt := 99) B d_Model_taken_95 rfl ?_
    exact mv_iret (pc := 99) B hr rfl d_Model_taken_99 (Nat.le_refl _) (Nat.le_refl _) ⟨_, rfl, rfl⟩
def y_Model_multiply : MethodName := ⟨"MachineLoomModel", "multiply", "(III)I"⟩
abbrev b_Model_multiply : ByteArray := prog_14_method_22_code
theorem kc_Model_multiply : Cond.code y_Model_multiply b_Model_multiply 11 (Option.some Jvm.ClassFile.FieldType.int) ∈ ma := ma_of (tb_11 _ (List.mem_of_getElem? (i := 91) rfl)) rfl
theorem k_2442 : (Jvm.Cond.constantLong "MachineLoomModel" (87 : Nat) (4294967295 : Int64)) ∈ ma := ma_of (tb_11 _ (List.mem_of_getElem? (i := 42) rfl)) rfl
theorem d_Model_multiply_0 : decode b_Model_multiply 0 = .ok (.iload_n 1, 1) := by decide +kernel
theorem d_Model_multiply_1 : decode b_Model_multiply 1 = .ok (.i2l, 1) := by decide +kernel
theorem d_Model_multiply_2 : decode b_Model_multiply 2 = .ok (.lstore_n 3, 1) := by decide +kernel
theorem d_Model_multiply_3 : decode b_Model_multiply 3 = .ok (.iload_n 2, 1) := by decide +kernel
theorem d_Model_multiply_4 : decode b_Model_multiply 4 = .ok (.i2l, 1) := by decide +kernel
theorem d_Model_multiply_5 : decode b_Model_multiply 5 = .ok (.lstore 5, 2) := by decide +kernel
theorem d_Model_multiply_7 : decode b_Model_multiply 7 = .ok (.iload_n 1, 1) := by decide +kernel
theorem d_Model_multiply_8 : decode b_Model_multiply 8 = .ok (.i2l, 1) := by decide +kernel
theorem d_Model_multiply_9 : decode b_Model_multiply 9 = .ok (.ldc2_w 87, 3) := by decide +kernel
theorem d_Model_multiply_12 : decode b_Model_multiply 12 = .ok (.land, 1) := by decide +kernel
theorem d_Model_multiply_13 : decode b_Model_multiply 13 = .ok (.lstore 7, 2) := by decide +kernel
theorem d_Model_multiply_15 : decode b_Model_multiply 15 = .ok (.iload_n 2, 1) := by decide +kernel
theorem d_Model_multiply_16 : decode b_Model_multiply 16 = .ok (.i2l, 1) := by decide +kernel
theorem d_Model_multiply_17 : decode b_Model_multiply 17 = .ok (.ldc2_w 87, 3) := by decide +kernel
theorem d_Model_multiply_20 : decode b_Model_multiply 20 = .ok (.land, 1) := by decide +kernel
theorem d_Model_multiply_21 : decode b_Model_multiply 21 = .ok (.lstore 9, 2) := by decide +kernel
theorem d_Model_multiply_23 : decode b_Model_multiply 23 = .ok (.iload_n 0, 1) := by decide +kernel
theorem d_Model_multiply_24 : decode b_Model_multiply 24 = .ok (.tableswitch (134) (40) (46) #[44, 48, 57, 66, 76, 98, 113], 44) := by decide +kernel
theorem d_Model_multiply_68 : decode b_Model_multiply 68 = .ok (.iload_n 1, 1) := by decide +kernel
theorem d_Model_multiply_69 : decode b_Model_multiply 69 = .ok (.iload_n 2, 1) := by decide +kernel
theorem d_Model_multiply_70 : decode b_Model_multiply 70 = .ok (.imul, 1) := by decide +kernel
theorem d_Model_multiply_71 : decode b_Model_multiply 71 = .ok (.ireturn, 1) := by decide +kernel
theorem d_Model_multiply_72 : decode b_Model_multiply 72 = .ok (.lload_n 3, 1) := by decide +kernel
theorem d_Model_multiply_73 : decode b_Model_multiply 73 = .ok (.lload 5, 2) := by decide +kernel
theorem d_Model_multiply_75 : decode b_Model_multiply 75 = .ok (.lmul, 1) := by decide +kernel
theorem d_Model_multiply_76 : decode b_Model_multiply 76 = .ok (.bipush 32, 2) := by decide +kernel
theorem d_Model_multiply_78 : decode b_Model_multiply 78 = .ok (.lshr, 1) := by decide +kernel
theorem d_Model_multiply_79 : decode b_Model_multiply 79 = .ok (.l2i, 1) := by decide +kernel
theorem d_Model_multiply_80 : decode b_Model_multiply 80 = .ok (.ireturn, 1) := by decide +kernel
theorem d_Model_multiply_81 : decode b_Model_multiply 81 = .ok (.lload_n 3, 1) := by decide +kernel
theorem d_Model_multiply_82 : decode b_Model_multiply 82 = .ok (.lload 9, 2) := by decide +kernel
theorem d_Model_multiply_84 : decode b_Model_multiply 84 = .ok (.lmul, 1) := by decide +kernel
theorem d_Model_multiply_85 : decode b_Model_multiply 85 = .ok (.bipush 32, 2) := by decide +kernel
theorem d_Model_multiply_87 : decode b_Model_multiply 87 = .ok (.lshr, 1) := by decide +kernel
theorem d_Model_multiply_88 : decode b_Model_multiply 88 = .ok (.l2i, 1) := by decide +kernel
theorem d_Model_multiply_89 : decode b_Model_multiply 89 = .ok (.ireturn, 1) := by decide +kernel
theorem d_Model_multiply_90 : decode b_Model_multiply 90 = .ok (.lload 7, 2) := by decide +kernel
theorem d_Model_multiply_92 : decode b_Model_multiply 92 = .ok (.lload 9, 2) := by decide +kernel
theorem d_Model_multiply_94 : decode b_Model_multiply 94 = .ok (.lmul, 1) := by decide +kernel
theorem d_Model_multiply_95 : decode b_Model_multiply 95 = .ok (.bipush 32, 2) := by decide +kernel
theorem d_Model_multiply_97 : decode b_Model_multiply 97 = .ok (.lushr, 1) := by decide +kernel
theorem d_Model_multiply_98 : decode b_Model_multiply 98 = .ok (.l2i, 1) := by decide +kernel
theorem d_Model_multiply_99 : decode b_Model_multiply 99 = .ok (.ireturn, 1) := by decide +kernel
theorem d_Model_multiply_100 : decode b_Model_multiply 100 = .ok (.iload_n 2, 1) := by decide +kernel
theorem d_Model_multiply_101 : decode b_Model_multiply 101 = .ok (.ifCond .ne (7), 3) := by decide +kernel
theorem d_Model_multiply_104 : decode b_Model_multiply 104 = .ok (.iconst (-1), 1) := by decide +kernel
theorem d_Model_multiply_105 : decode b_Model_multiply 105 = .ok (.goto (16), 3) := by decide +kernel
theorem d_Model_multiply_108 : decode b_Model_multiply 108 = .ok (.iload_n 2, 1) := by decide +kernel
theorem d_Model_multiply_109 : decode b_Model_multiply 109 = .ok (.iconst (-1), 1) := by decide +kernel
theorem d_Model_multiply_110 : decode b_Model_multiply 110 = .ok (.if_icmp .ne (8), 3) := by decide +kernel
theorem d_Model_multiply_113 : decode b_Model_multiply 113 = .ok (.iload_n 1, 1) := by decide +kernel
theorem d_Model_multiply_114 : decode b_Model_multiply 114 = .ok (.ineg, 1) := by decide +kernel
theorem d_Model_multiply_115 : decode b_Model_multiply 115 = .ok (.goto (6), 3) := by decide +kernel
theorem d_Model_multiply_118 : decode b_Model_multiply 118 = .ok (.iload_n 1, 1) := by decide +kernel
theorem d_Model_multiply_119 : decode b_Model_multiply 119 = .ok (.iload_n 2, 1) := by decide +kernel
theorem d_Model_multiply_120 : decode b_Model_multiply 120 = .ok (.idiv, 1) := by decide +kernel
theorem d_Model_multiply_121 : decode b_Model_multiply 121 = .ok (.ireturn, 1) := by decide +kernel
theorem d_Model_multiply_122 : decode b_Model_multiply 122 = .ok (.iload_n 2, 1) := by decide +kernel
theorem d_Model_multiply_123 : decode b_Model_multiply 123 = .ok (.ifCond .ne (7), 3) := by decide +kernel
theorem d_Model_multiply_126 : decode b_Model_multiply 126 = .ok (.iconst (-1), 1) := by decide +kernel
theorem d_Model_multiply_127 : decode b_Model_multiply 127 = .ok (.goto (9), 3) := by decide +kernel
theorem d_Model_multiply_130 : decode b_Model_multiply 130 = .ok (.lload 7, 2) := by decide +kernel
theorem d_Model_multiply_132 : decode b_Model_multiply 132 = .ok (.lload 9, 2) := by decide +kernel
theorem d_Model_multiply_134 : decode b_Model_multiply 134 = .ok (.ldiv, 1) := by decide +kernel
theorem d_Model_multiply_135 : decode b_Model_multiply 135 = .ok (.l2i, 1) := by decide +kernel
theorem d_Model_multiply_136 : decode b_Model_multiply 136 = .ok (.ireturn, 1) := by decide +kernel
theorem d_Model_multiply_137 : decode b_Model_multiply 137 = .ok (.iload_n 2, 1) := by decide +kernel
theorem d_Model_multiply_138 : decode b_Model_multiply 138 = .ok (.ifCond .ne (7), 3) := by decide +kernel
theorem d_Model_multiply_141 : decode b_Model_multiply 141 = .ok (.iload_n 1, 1) := by decide +kernel
theorem d_Model_multiply_142 : decode b_Model_multiply 142 = .ok (.goto (15), 3) := by decide +kernel
theorem d_Model_multiply_145 : decode b_Model_multiply 145 = .ok (.iload_n 2, 1) := by decide +kernel
theorem d_Model_multiply_146 : decode b_Model_multiply 146 = .ok (.iconst (-1), 1) := by decide +kernel
theorem d_Model_multiply_147 : decode b_Model_multiply 147 = .ok (.if_icmp .ne (7), 3) := by decide +kernel
theorem d_Model_multiply_150 : decode b_Model_multiply 150 = .ok (.iconst 0, 1) := by decide +kernel
theorem d_Model_multiply_151 : decode b_Model_multiply 151 = .ok (.goto (6), 3) := by decide +kernel
theorem d_Model_multiply_154 : decode b_Model_multiply 154 = .ok (.iload_n 1, 1) := by decide +kernel
theorem d_Model_multiply_155 : decode b_Model_multiply 155 = .ok (.iload_n 2, 1) := by decide +kernel
theorem d_Model_multiply_156 : decode b_Model_multiply 156 = .ok (.irem, 1) := by decide +kernel
theorem d_Model_multiply_157 : decode b_Model_multiply 157 = .ok (.ireturn, 1) := by decide +kernel
theorem d_Model_multiply_158 : decode b_Model_multiply 158 = .ok (.iload_n 2, 1) := by decide +kernel
theorem d_Model_multiply_159 : decode b_Model_multiply 159 = .ok (.ifCond .ne (7), 3) := by decide +kernel
theorem d_Model_multiply_162 : decode b_Model_multiply 162 = .ok (.iload_n 1, 1) := by decide +kernel
theorem d_Model_multiply_163 : decode b_Model_multiply 163 = .ok (.goto (9), 3) := by decide +kernel
theorem d_Model_multiply_166 : decode b_Model_multiply 166 = .ok (.lload 7, 2) := by decide +kernel
theorem d_Model_multiply_168 : decode b_Model_multiply 168 = .ok (.lload 9, 2) := by decide +kernel
theorem d_Model_multiply_170 : decode b_Model_multiply 170 = .ok (.lrem, 1) := by decide +kernel
theorem d_Model_multiply_171 : decode b_Model_multiply 171 = .ok (.l2i, 1) := by decide +kernel
theorem d_Model_multiply_172 : decode b_Model_multiply 172 = .ok (.ireturn, 1) := by decide +kernel
set_option maxHeartbeats 4000000 in
set_option maxRecDepth 100000 in
theorem c_Model_multiply (l : Launch) {dA : FieldType → ClassId} {D : va_G} {al : Nat → Nat} {ext : mv_Sh} {sk sv : Nat → Nat} (hi : mv_inj (mg dA D al ext)) (σ : mv_H) (o9 x9 y9 : Int32) : mv_C l y_Model_multiply (Cond.code y_Model_multiply b_Model_multiply 11 (Option.some Jvm.ClassFile.FieldType.int) :: ma) ({ frames := 0, cells := 0, slots := 0, locals := 0 }) (mg dA D al ext) (mK sk sv) [.int o9, .int x9, .int y9] σ (mv_Ri (fun v σ1 => σ1 = σ)) := by
  refine mv_C.ofV (cc := b_Model_multiply) (nL := 11) (ret := (Option.some Jvm.ClassFile.FieldType.int)) (by decide +kernel) rfl hi (Nat.le_of_ble_eq_true rfl) ?_
  intro p e s m below meth c B hNs hr hnm hno
  refine mv_iload_n (pc := 0) B d_Model_multiply_0 rfl 1 rfl ?_
  refine mv_i2l (pc := 1) B d_Model_multiply_1 ?_
  refine mv_lstore_n (pc := 2) B d_Model_multiply_2 rfl (by decide) rfl ?_
  refine mv_iload_n (pc := 3) B d_Model_multiply_3 rfl 3 rfl ?_
  refine mv_i2l (pc := 4) B d_Model_multiply_4 ?_
  refine mv_lstore (pc := 5) B d_Model_multiply_5 (by decide) rfl ?_
  refine mv_iload_n (pc := 7) B d_Model_multiply_7 rfl 3 rfl ?_
  refine mv_i2l (pc := 8) B d_Model_multiply_8 ?_
  refine mv_ldc2 (pc := 9) (v := 4294967295) B (B.2.2.2.1 _ k_2442) d_Model_multiply_9 ?_
  refine mv_land (pc := 12) B d_Model_multiply_12 ?_
  refine mv_lstore (pc := 13) B d_Model_multiply_13 (by decide) rfl ?_
  refine mv_iload_n (pc := 15) B d_Model_multiply_15 rfl 5 rfl ?_
  refine mv_i2l (pc := 16) B d_Model_multiply_16 ?_
  refine mv_ldc2 (pc := 17) (v := 4294967295) B (B.2.2.2.1 _ k_2442) d_Model_multiply_17 ?_
  refine mv_land (pc := 20) B d_Model_multiply_20 ?_
  refine mv_lstore (pc := 21) B d_Model_multiply_21 (by decide) rfl ?_
  refine mv_iload_n (pc := 23) B d_Model_multiply_23 rfl 4 rfl ?_
  refine mv_tsw (pc := 24) B d_Model_multiply_24 (by decide) (by decide) ?_
  refine ⟨fun h24 => ?_, fun h24n40 => ?_⟩
  · skip
    refine mv_iload_n (pc := 68) B d_Model_multiply_68 rfl 5 rfl ?_
    refine mv_iload_n (pc := 69) B d_Model_multiply_69 rfl 6 rfl ?_
    refine mv_imul (pc := 70) B d_Model_multiply_70 ?_
    exact mv_iret (pc := 71) B hr rfl d_Model_multiply_71 (Nat.le_refl _) (Nat.le_refl _) ⟨_, rfl, rfl⟩
  refine ⟨fun h24 => ?_, fun h24n41 => ?_⟩
  · skip
    refine mv_lload_n (pc := 72) B d_Model_multiply_72 rfl 3 rfl ?_
    refine mv_lload (pc := 73) B d_Model_multiply_73 2 rfl ?_
    refine mv_lmul (pc := 75) B d_Model_multiply_75 ?_
    refine mv_bipush (pc := 76) (v := 32) B d_Model_multiply_76 (by decide) ?_
    refine mv_lshr (pc := 78) B d_Model_multiply_78 ?_
    refine mv_l2i (pc := 79) B d_Model_multiply_79 ?_
    exact mv_iret (pc := 80) B hr rfl d_Model_multiply_80 (Nat.le_refl _) (Nat.le_refl _) ⟨_, rfl, rfl⟩
  refine ⟨fun h24 => ?_, fun h24n42 => ?_⟩
  · skip
    refine mv_lload_n (pc := 81) B d_Model_multiply_81 rfl 3 rfl ?_
    refine mv_lload (pc := 82) B d_Model_multiply_82 0 rfl ?_
    refine mv_lmul (pc := 84) B d_Model_multiply_84 ?_
    refine mv_bipush (pc := 85) (v := 32) B d_Model_multiply_85 (by decide) ?_
    refine mv_lshr (pc := 87) B d_Model_multiply_87 ?_
    refine mv_l2i (pc := 88) B d_Model_multiply_88 ?_
    exact mv_iret (pc := 89) B hr rfl d_Model_multiply_89 (Nat.le_refl _) (Nat.le_refl _) ⟨_, rfl, rfl⟩
  refine ⟨fun h24 => ?_, fun h24n43 => ?_⟩
  · skip
    refine mv_lload (pc := 90) B d_Model_multiply_90 1 rfl ?_
    refine mv_lload (pc := 92) B d_Model_multiply_92 0 rfl ?_
    refine mv_lmul (pc := 94) B d_Model_multiply_94 ?_
    refine mv_bipush (pc := 95) (v := 32) B d_Model_multiply_95 (by decide) ?_
    refine mv_lushr (pc := 97) B d_Model_multiply_97 ?_
    refine mv_l2i (pc := 98) B d_Model_multiply_98 ?_
    exact mv_iret (pc := 99) B hr rfl d_Model_multiply_99 (Nat.le_refl _) (Nat.le_refl _) ⟨_, rfl, rfl⟩
  refine ⟨fun h24 => ?_, fun h24n44 => ?_⟩
  · skip
    refine mv_iload_n (pc := 100) B d_Model_multiply_100 rfl 6 rfl ?_
    refine mv_if_ne (pc := 101) (tgt := 108) B d_Model_multiply_101 rfl (fun h101 => ?_) (fun h101 => ?_)
    · skip
      refine mv_iload_n (pc := 108) B d_Model_multiply_108 rfl 6 rfl ?_
      refine mv_iconst (pc := 109) (v := -1) B d_Model_multiply_109 (by decide) ?_
      refine mv_icmp_ne (pc := 110) (tgt := 118) B d_Model_multiply_110 rfl (fun h110 => ?_) (fun h110 => ?_)
      · skip
        refine mv_iload_n (pc := 118) B d_Model_multiply_118 rfl 5 rfl ?_
        refine mv_iload_n (pc := 119) B d_Model_multiply_119 rfl 6 rfl ?_
        refine mv_idiv (pc := 120) B d_Model_multiply_120 h101 ?_
        exact mv_iret (pc := 121) B hr rfl d_Model_multiply_121 (Nat.le_refl _) (Nat.le_refl _) ⟨_, rfl, rfl⟩
      · skip
        refine mv_iload_n (pc := 113) B d_Model_multiply_113 rfl 5 rfl ?_
        refine mv_ineg (pc := 114) B d_Model_multiply_114 ?_
        refine mv_goto (pc := 115) (tgt := 121) B d_Model_multiply_115 rfl ?_
        exact mv_iret (pc := 121) B hr rfl d_Model_multiply_121 (Nat.le_refl _) (Nat.le_refl _) ⟨_, rfl, rfl⟩
    · skip
      refine mv_iconst (pc := 104) (v := -1) B d_Model_multiply_104 (by decide) ?_
      refine mv_goto (pc := 105) (tgt := 121) B d_Model_multiply_105 rfl ?_
      exact mv_iret (pc := 121) B hr rfl d_Model_multiply_121 (Nat.le_refl _) (Nat.le_refl _) ⟨_, rfl, rfl⟩
  refine ⟨fun h24 => ?_, fun h24n45 => ?_⟩
  · skip
    refine mv_iload_n (pc := 122) B d_Model_multiply_122 rfl 6 rfl ?_
    refine mv_if_ne (pc := 123) (tgt := 130) B d_Model_multiply_123 rfl (fun h123 => ?_) (fun h123 => ?_)
    · skip
      refine mv_lload (pc := 130) B d_Model_multiply_130 1 rfl ?_
      refine mv_lload (pc := 132) B d_Model_multiply_132 0 rfl ?_
      refine mv_ldiv (pc := 134) B d_Model_multiply_134 (low_ne h123) ?_
      refine mv_l2i (pc := 135) B d_Model_multiply_135 ?_
      exact mv_iret (pc := 136) B hr rfl d_Model_multiply_136 (Nat.le_refl _) (Nat.le_refl _) ⟨_, rfl, rfl⟩
    · skip
      refine mv_iconst (pc := 126) (v := -1) B d_Model_multiply_126 (by decide) ?_
      refine mv_goto (pc := 127) (tgt := 136) B d_Model_multiply_127 rfl ?_
      exact mv_iret (pc := 136) B hr rfl d_Model_multiply_136 (Nat.le_refl _) (Nat.le_refl _) ⟨_, rfl, rfl⟩
  refine ⟨fun h24 => ?_, fun h24n46 => ?_⟩
  · skip
    refine mv_iload_n (pc := 137) B d_Model_multiply_137 rfl 6 rfl ?_
    refine mv_if_ne (pc := 138) (tgt := 145) B d_Model_multiply_138 rfl (fun h138 => ?_) (fun h138 => ?_)
    · skip
      refine mv_iload_n (pc := 145) B d_Model_multiply_145 rfl 6 rfl ?_
      refine mv_iconst (pc := 146) (v := -1) B d_Model_multiply_146 (by decide) ?_
      refine mv_icmp_ne (pc := 147) (tgt := 154) B d_Model_multiply_147 rfl (fun h147 => ?_) (fun h147 => ?_)
      · skip
        refine mv_iload_n (pc := 154) B d_Model_multiply_154 rfl 5 rfl ?_
        refine mv_iload_n (pc := 155) B d_Model_multiply_155 rfl 6 rfl ?_
        refine mv_irem (pc := 156) B d_Model_multiply_156 h138 ?_
        exact mv_iret (pc := 157) B hr rfl d_Model_multiply_157 (Nat.le_refl _) (Nat.le_refl _) ⟨_, rfl, rfl⟩
      · skip
        refine mv_iconst (pc := 150) (v := 0) B d_Model_multiply_150 (by decide) ?_
        refine mv_goto (pc := 151) (tgt := 157) B d_Model_multiply_151 rfl ?_
        exact mv_iret (pc := 157) B hr rfl d_Model_multiply_157 (Nat.le_refl _) (Nat.le_refl _) ⟨_, rfl, rfl⟩
    · skip
      refine mv_iload_n (pc := 141) B d_Model_multiply_141 rfl 5 rfl ?_
      refine mv_goto (pc := 142) (tgt := 157) B d_Model_multiply_142 rfl ?_
      exact mv_iret (pc := 157) B hr rfl d_Model_multiply_157 (Nat.le_refl _) (Nat.le_refl _) ⟨_, rfl, rfl⟩
  show mv_V _ _ _ _ _ _ _ _ _ _ _ _ _ _ _ _ 158 _ _
  refine mv_iload_n (pc := 158) B d_Model_multiply_158 rfl 6 rfl ?_
  refine mv_if_ne (pc := 159) (tgt := 166) B d_Model_multiply_159 rfl (fun h159 => ?_) (fun h159 => ?_)
  · skip
    refine mv_lload (pc := 166) B d_Model_multiply_166 1 rfl ?_
    refine mv_lload (pc := 168) B d_Model_multiply_168 0 rfl ?_
    refine mv_lrem (pc := 170) B d_Model_multiply_170 (low_ne h159) ?_
    refine mv_l2i (pc := 171) B d_Model_multiply_171 ?_
    exact mv_iret (pc := 172) B hr rfl d_Model_multiply_172 (Nat.le_refl _) (Nat.le_refl _) ⟨_, rfl, rfl⟩
  · skip
    refine mv_iload_n (pc := 162) B d_Model_multiply_162 rfl 5 rfl ?_
    refine mv_goto (pc := 163) (tgt := 172) B d_Model_multiply_163 rfl ?_
    exact mv_iret (pc := 172) B hr rfl d_Model_multiply_172 (Nat.le_refl _) (Nat.le_refl _) ⟨_, rfl, rfl⟩
def y_Model_reckon : MethodName := ⟨"MachineLoomModel", "reckon", "(III)I"⟩
abbrev b_Model_reckon : ByteArray := prog_14_method_21_code
theorem kc_Model_reckon : Cond.code y_Model_reckon b_Model_reckon 3 (Option.some Jvm.ClassFile.FieldType.int) ∈ ma := ma_of (tb_11 _ (List.mem_of_getElem? (i := 88) rfl)) rfl
theorem k_2489 : (Jvm.Cond.methodLink "MachineLoomModel" (84 : Nat) ({ cls := "MachineLoomModel", name := "multiply", desc := "(III)I" } : Jvm.MethodName)) ∈ ma := ma_of (tb_11 _ (List.mem_of_getElem? (i := 89) rfl)) rfl
theorem k_2490 : (Jvm.Cond.static ({ cls := "MachineLoomModel", name := "multiply", desc := "(III)I" } : Jvm.MethodName)) ∈ ma := ma_of (tb_11 _ (List.mem_of_getElem? (i := 90) rfl)) rfl
theorem d_Model_reckon_0 : decode b_Model_reckon 0 = .ok (.iload_n 0, 1) := by decide +kernel
theorem d_Model_reckon_1 : decode b_Model_reckon 1 = .ok (.tableswitch (157) (18) (36) #[91, 99, 110, 124, 128, 132, 136, 143, 150, 91, 95, 136, 99, 110, 124, 143, 150, 128, 132], 91) := by decide +kernel
theorem d_Model_reckon_92 : decode b_Model_reckon 92 = .ok (.iload_n 1, 1) := by decide +kernel
theorem d_Model_reckon_93 : decode b_Model_reckon 93 = .ok (.iload_n 2, 1) := by decide +kernel
theorem d_Model_reckon_94 : decode b_Model_reckon 94 = .ok (.iadd, 1) := by decide +kernel
theorem d_Model_reckon_95 : decode b_Model_reckon 95 = .ok (.ireturn, 1) := by decide +kernel
theorem d_Model_reckon_96 : decode b_Model_reckon 96 = .ok (.iload_n 1, 1) := by decide +kernel
theorem d_Model_reckon_97 : decode b_Model_reckon 97 = .ok (.iload_n 2, 1) := by decide +kernel
theorem d_Model_reckon_98 : decode b_Model_reckon 98 = .ok (.isub, 1) := by decide +kernel
theorem d_Model_reckon_99 : decode b_Model_reckon 99 = .ok (.ireturn, 1) := by decide +kernel
theorem d_Model_reckon_100 : decode b_Model_reckon 100 = .ok (.iload_n 1, 1) := by decide +kernel
theorem d_Model_reckon_101 : decode b_Model_reckon 101 = .ok (.iload_n 2, 1) := by decide +kernel
theorem d_Model_reckon_102 : decode b_Model_reckon 102 = .ok (.if_icmp .ge (7), 3) := by decide +kernel
theorem d_Model_reckon_105 : decode b_Model_reckon 105 = .ok (.iconst 1, 1) := by decide +kernel
theorem d_Model_reckon_106 : decode b_Model_reckon 106 = .ok (.goto (4), 3) := by decide +kernel
theorem d_Model_reckon_109 : decode b_Model_reckon 109 = .ok (.iconst 0, 1) := by decide +kernel
theorem d_Model_reckon_110 : decode b_Model_reckon 110 = .ok (.ireturn, 1) := by decide +kernel
theorem d_Model_reckon_111 : decode b_Model_reckon 111 = .ok (.iload_n 1, 1) := by decide +kernel
theorem d_Model_reckon_112 : decode b_Model_reckon 112 = .ok (.iload_n 2, 1) := by decide +kernel
theorem d_Model_reckon_113 : decode b_Model_reckon 113 = .ok (.invokestatic 62, 3) := by decide +kernel
theorem d_Model_reckon_116 : decode b_Model_reckon 116 = .ok (.ifCond .eq (7), 3) := by decide +kernel
theorem d_Model_reckon_119 : decode b_Model_reckon 119 = .ok (.iconst 1, 1) := by decide +kernel
theorem d_Model_reckon_120 : decode b_Model_reckon 120 = .ok (.goto (4), 3) := by decide +kernel
theorem d_Model_reckon_123 : decode b_Model_reckon 123 = .ok (.iconst 0, 1) := by decide +kernel
theorem d_Model_reckon_124 : decode b_Model_reckon 124 = .ok (.ireturn, 1) := by decide +kernel
theorem d_Model_reckon_125 : decode b_Model_reckon 125 = .ok (.iload_n 1, 1) := by decide +kernel
theorem d_Model_reckon_126 : decode b_Model_reckon 126 = .ok (.iload_n 2, 1) := by decide +kernel
theorem d_Model_reckon_127 : decode b_Model_reckon 127 = .ok (.ixor, 1) := by decide +kernel
theorem d_Model_reckon_128 : decode b_Model_reckon 128 = .ok (.ireturn, 1) := by decide +kernel
theorem d_Model_reckon_129 : decode b_Model_reckon 129 = .ok (.iload_n 1, 1) := by decide +kernel
theorem d_Model_reckon_130 : decode b_Model_reckon 130 = .ok (.iload_n 2, 1) := by decide +kernel
theorem d_Model_reckon_131 : decode b_Model_reckon 131 = .ok (.ior, 1) := by decide +kernel
theorem d_Model_reckon_132 : decode b_Model_reckon 132 = .ok (.ireturn, 1) := by decide +kernel
theorem d_Model_reckon_133 : decode b_Model_reckon 133 = .ok (.iload_n 1, 1) := by decide +kernel
theorem d_Model_reckon_134 : decode b_Model_reckon 134 = .ok (.iload_n 2, 1) := by decide +kernel
theorem d_Model_reckon_135 : decode b_Model_reckon 135 = .ok (.iand, 1) := by decide +kernel
theorem d_Model_reckon_136 : decode b_Model_reckon 136 = .ok (.ireturn, 1) := by decide +kernel
theorem d_Model_reckon_137 : decode b_Model_reckon 137 = .ok (.iload_n 1, 1) := by decide +kernel
theorem d_Model_reckon_138 : decode b_Model_reckon 138 = .ok (.iload_n 2, 1) := by decide +kernel
theorem d_Model_reckon_139 : decode b_Model_reckon 139 = .ok (.bipush 31, 2) := by decide +kernel
theorem d_Model_reckon_141 : decode b_Model_reckon 141 = .ok (.iand, 1) := by decide +kernel
theorem d_Model_reckon_142 : decode b_Model_reckon 142 = .ok (.ishl, 1) := by decide +kernel
theorem d_Model_reckon_143 : decode b_Model_reckon 143 = .ok (.ireturn, 1) := by decide +kernel
theorem d_Model_reckon_144 : decode b_Model_reckon 144 = .ok (.iload_n 1, 1) := by decide +kernel
theorem d_Model_reckon_145 : decode b_Model_reckon 145 = .ok (.iload_n 2, 1) := by decide +kernel
theorem d_Model_reckon_146 : decode b_Model_reckon 146 = .ok (.bipush 31, 2) := by decide +kernel
theorem d_Model_reckon_148 : decode b_Model_reckon 148 = .ok (.iand, 1) := by decide +kernel
theorem d_Model_reckon_149 : decode b_Model_reckon 149 = .ok (.iushr, 1) := by decide +kernel
theorem d_Model_reckon_150 : decode b_Model_reckon 150 = .ok (.ireturn, 1) := by decide +kernel
theorem d_Model_reckon_151 : decode b_Model_reckon 151 = .ok (.iload_n 1, 1) := by decide +kernel
theorem d_Model_reckon_152 : decode b_Model_reckon 152 = .ok (.iload_n 2, 1) := by decide +kernel
theorem d_Model_reckon_153 : decode b_Model_reckon 153 = .ok (.bipush 31, 2) := by decide +kernel
theorem d_Model_reckon_155 : decode b_Model_reckon 155 = .ok (.iand, 1) := by decide +kernel
theorem d_Model_reckon_156 : decode b_Model_reckon 156 = .ok (.ishr, 1) := by decide +kernel
theorem d_Model_reckon_157 : decode b_Model_reckon 157 = .ok (.ireturn, 1) := by decide +kernel
theorem d_Model_reckon_158 : decode b_Model_reckon 158 = .ok (.iload_n 0, 1) := by decide +kernel
theorem d_Model_reckon_159 : decode b_Model_reckon 159 = .ok (.iload_n 1, 1) := by decide +kernel
theorem d_Model_reckon_160 : decode b_Model_reckon 160 = .ok (.iload_n 2, 1) := by decide +kernel
theorem d_Model_reckon_161 : decode b_Model_reckon 161 = .ok (.invokestatic 84, 3) := by decide +kernel
theorem d_Model_reckon_164 : decode b_Model_reckon 164 = .ok (.ireturn, 1) := by decide +kernel
set_option maxHeartbeats 4000000 in
set_option maxRecDepth 100000 in
theorem c_Model_reckon (l : Launch) {dA : FieldType → ClassId} {D : va_G} {al : Nat → Nat} {ext : mv_Sh} {sk sv : Nat → Nat} (hi : mv_inj (mg dA D al ext)) (σ : mv_H) (o9 x9 y9 : Int32) : mv_C l y_Model_reckon (Cond.code y_Model_reckon b_Model_reckon 3 (Option.some Jvm.ClassFile.FieldType.int) :: ma) ({ frames := 1, cells := 0, slots := 0, locals := 30 }) (mg dA D al ext) (mK sk sv) [.int o9, .int x9, .int y9] σ (mv_Ri (fun v σ1 => σ1 = σ)) := by
  refine mv_C.ofV (cc := b_Model_reckon) (nL := 3) (ret := (Option.some Jvm.ClassFile.FieldType.int)) (by decide +kernel) rfl hi (Nat.le_of_ble_eq_true rfl) ?_
  intro p e s m below meth c B hNs hr hnm hno
  refine mv_iload_n (pc := 0) B d_Model_reckon_0 rfl 0 rfl ?_
  refine mv_tsw (pc := 1) B d_Model_reckon_1 (by decide) (by decide) ?_
  refine ⟨fun h1 => ?_, fun h1n18 => ?_⟩
  · skip
    refine mv_iload_n (pc := 92) B d_Model_reckon_92 rfl 1 rfl ?_
    refine mv_iload_n (pc := 93) B d_Model_reckon_93 rfl 2 rfl ?_
    refine mv_iadd (pc := 94) B d_Model_reckon_94 ?_
    exact mv_iret (pc := 95) B hr rfl d_Model_reckon_95 (Nat.le_refl _) (Nat.le_refl _) ⟨_, rfl, rfl⟩
  refine ⟨fun h1 => ?_, fun h1n19 => ?_⟩
  · skip
    refine mv_iload_n (pc := 100) B d_Model_reckon_100 rfl 1 rfl ?_
    refine mv_iload_n (pc := 101) B d_Model_reckon_101 rfl 2 rfl ?_
    refine mv_icmp_ge (pc := 102) (tgt := 109) B d_Model_reckon_102 rfl (fun h102 => ?_) (fun h102 => ?_)
    · skip
      refine mv_iconst (pc := 109) (v := 0) B d_Model_reckon_109 (by decide) ?_
      exact mv_iret (pc := 110) B hr rfl d_Model_reckon_110 (Nat.le_refl _) (Nat.le_refl _) ⟨_, rfl, rfl⟩
    · skip
      refine mv_iconst (pc := 105) (v := 1) B d_Model_reckon_105 (by decide) ?_
      refine mv_goto (pc := 106) (tgt := 110) B d_Model_reckon_106 rfl ?_
      exact mv_iret (pc := 110) B hr rfl d_Model_reckon_110 (Nat.le_refl _) (Nat.le_refl _) ⟨_, rfl, rfl⟩
  refine ⟨fun h1 => ?_, fun h1n20 => ?_⟩
  · skip
    refine mv_iload_n (pc := 111) B d_Model_reckon_111 rfl 1 rfl ?_
    refine mv_iload_n (pc := 112) B d_Model_reckon_112 rfl 2 rfl ?_
    refine mv_callSi (pc := 113) (n := 2) B (mK_ok sk sv) hNs (c_Model_less l hi _ _ _) rfl (ma_goodc kc_Model_less) (B.2.2.2.1 _ k_2465) (B.2.2.2.1 _ k_2466) (B.2.2.2.1 _ k_12) ⟨by decide +kernel, by decide +kernel, by decide +kernel⟩ rfl d_Model_reckon_113 rfl (Nat.le_of_ble_eq_true rfl) ⟨by decide, by decide⟩ ⟨by decide, by decide⟩ ⟨by decide, by decide⟩ (mv_noH hno _) (fun v113 σ113 h113 => ?_)
    obtain ⟨e113, z113⟩ := h113
    have e113 := e113.symm
    subst e113
    refine mv_if_eq (pc := 116) (tgt := 123) B d_Model_reckon_116 rfl (fun h116 => ?_) (fun h116 => ?_)
    · skip
      refine mv_iconst (pc := 123) (v := 0) B d_Model_reckon_123 (by decide) ?_
      exact mv_iret (pc := 124) B hr rfl d_Model_reckon_124 (Nat.le_refl _) (Nat.le_refl _) ⟨_, rfl, rfl⟩
    · skip
      refine mv_iconst (pc := 119) (v := 1) B d_Model_reckon_119 (by decide) ?_
      refine mv_goto (pc := 120) (tgt := 124) B d_Model_reckon_120 rfl ?_
      exact mv_iret (pc := 124) B hr rfl d_Model_reckon_124 (Nat.le_refl _) (Nat.le_refl _) ⟨_, rfl, rfl⟩
  refine ⟨fun h1 => ?_, fun h1n21 => ?_⟩
  · skip
    refine mv_iload_n (pc := 125) B d_Model_reckon_125 rfl 1 rfl ?_
    refine mv_iload_n (pc := 126) B d_Model_reckon_126 rfl 2 rfl ?_
    refine mv_ixor (pc := 127) B d_Model_reckon_127 ?_
    exact mv_iret (pc := 128) B hr rfl d_Model_reckon_128 (Nat.le_refl _) (Nat.le_refl _) ⟨_, rfl, rfl⟩
  refine ⟨fun h1 => ?_, fun h1n22 => ?_⟩
  · skip
    refine mv_iload_n (pc := 129) B d_Model_reckon_129 rfl 1 rfl ?_
    refine mv_iload_n (pc := 130) B d_Model_reckon_130 rfl 2 rfl ?_
    refine mv_ior (pc := 131) B d_Model_reckon_131 ?_
    exact mv_iret (pc := 132) B hr rfl d_Model_reckon_132 (Nat.le_refl _) (Nat.le_refl _) ⟨_, rfl, rfl⟩
  refine ⟨fun h1 => ?_, fun h1n23 => ?_⟩
  · skip
    refine mv_iload_n (pc := 133) B d_Model_reckon_133 rfl 1 rfl ?_
    refine mv_iload_n (pc := 134) B d_Model_reckon_134 rfl 2 rfl ?_
    refine mv_iand (pc := 135) B d_Model_reckon_135 ?_
    exact mv_iret (pc := 136) B hr rfl d_Model_reckon_136 (Nat.le_refl _) (Nat.le_refl _) ⟨_, rfl, rfl⟩
  refine ⟨fun h1 => ?_, fun h1n24 => ?_⟩
  · skip
    refine mv_iload_n (pc := 137) B d_Model_reckon_137 rfl 1 rfl ?_
    refine mv_iload_n (pc := 138) B d_Model_reckon_138 rfl 2 rfl ?_
    refine mv_bipush (pc := 139) (v := 31) B d_Model_reckon_139 (by decide) ?_
    refine mv_iand (pc := 141) B d_Model_reckon_141 ?_
    refine mv_ishl (pc := 142) B d_Model_reckon_142 ?_
    exact mv_iret (pc := 143) B hr rfl d_Model_reckon_143 (Nat.le_refl _) (Nat.le_refl _) ⟨_, rfl, rfl⟩
  refine ⟨fun h1 => ?_, fun h1n25 => ?_⟩
  · skip
    refine mv_iload_n (pc := 144) B d_Model_reckon_144 rfl 1 rfl ?_
    refine mv_iload_n (pc := 145) B d_Model_reckon_145 rfl 2 rfl ?_
    refine mv_bipush (pc := 146) (v := 31) B d_Model_reckon_146 (by decide) ?_
    refine mv_iand (pc := 148) B d_Model_reckon_148 ?_
    refine mv_iushr (pc := 149) B d_Model_reckon_149 ?_
    exact mv_iret (pc := 150) B hr rfl d_Model_reckon_150 (Nat.le_refl _) (Nat.le_refl _) ⟨_, rfl, rfl⟩
  refine ⟨fun h1 => ?_, fun h1n26 => ?_⟩
  · skip
    refine mv_iload_n (pc := 151) B d_Model_reckon_151 rfl 1 rfl ?_
    refine mv_iload_n (pc := 152) B d_Model_reckon_152 rfl 2 rfl ?_
    refine mv_bipush (pc := 153) (v := 31) B d_Model_reckon_153 (by decide) ?_
    refine mv_iand (pc := 155) B d_Model_reckon_155 ?_
    refine mv_ishr (pc := 156) B d_Model_reckon_156 ?_
    exact mv_iret (pc := 157) B hr rfl d_Model_reckon_157 (Nat.le_refl _) (Nat.le_refl _) ⟨_, rfl, rfl⟩
  refine ⟨fun h1 => ?_, fun h1n27 => ?_⟩
  · skip
    refine mv_iload_n (pc := 92) B d_Model_reckon_92 rfl 1 rfl ?_
    refine mv_iload_n (pc := 93) B d_Model_reckon_93 rfl 2 rfl ?_
    refine mv_iadd (pc := 94) B d_Model_reckon_94 ?_
    exact mv_iret (pc := 95) B hr rfl d_Model_reckon_95 (Nat.le_refl _) (Nat.le_refl _) ⟨_, rfl, rfl⟩
  refine ⟨fun h1 => ?_, fun h1n28 => ?_⟩
  · skip
    refine mv_iload_n (pc := 96) B d_Model_reckon_96 rfl 1 rfl ?_
    refine mv_iload_n (pc := 97) B d_Model_reckon_97 rfl 2 rfl ?_
    refine mv_isub (pc := 98) B d_Model_reckon_98 ?_
    exact mv_iret (pc := 99) B hr rfl d_Model_reckon_99 (Nat.le_refl _) (Nat.le_refl _) ⟨_, rfl, rfl⟩
  refine ⟨fun h1 => ?_, fun h1n29 => ?_⟩
  · skip
    refine mv_iload_n (pc := 137) B d_Model_reckon_137 rfl 1 rfl ?_
    refine mv_iload_n (pc := 138) B d_Model_reckon_138 rfl 2 rfl ?_
    refine mv_bipush (pc := 139) (v := 31) B d_Model_reckon_139 (by decide) ?_
    refine mv_iand (pc := 141) B d_Model_reckon_141 ?_
    refine mv_ishl (pc := 142) B d_Model_reckon_142 ?_
    exact mv_iret (pc := 143) B hr rfl d_Model_reckon_143 (Nat.le_refl _) (Nat.le_refl _) ⟨_, rfl, rfl⟩
  refine ⟨fun h1 => ?_, fun h1n30 => ?_⟩
  · skip
    refine mv_iload_n (pc := 100) B d_Model_reckon_100 rfl 1 rfl ?_
    refine mv_iload_n (pc := 101) B d_Model_reckon_101 rfl 2 rfl ?_
    refine mv_icmp_ge (pc := 102) (tgt := 109) B d_Model_reckon_102 rfl (fun h102 => ?_) (fun h102 => ?_)
    · skip
      refine mv_iconst (pc := 109) (v := 0) B d_Model_reckon_109 (by decide) ?_
      exact mv_iret (pc := 110) B hr rfl d_Model_reckon_110 (Nat.le_refl _) (Nat.le_refl _) ⟨_, rfl, rfl⟩
    · skip
      refine mv_iconst (pc := 105) (v := 1) B d_Model_reckon_105 (by decide) ?_
      refine mv_goto (pc := 106) (tgt := 110) B d_Model_reckon_106 rfl ?_
      exact mv_iret (pc := 110) B hr rfl d_Model_reckon_110 (Nat.le_refl _) (Nat.le_refl _) ⟨_, rfl, rfl⟩
  refine ⟨fun h1 => ?_, fun h1n31 => ?_⟩
  · skip
    refine mv_iload_n (pc := 111) B d_Model_reckon_111 rfl 1 rfl ?_
    refine mv_iload_n (pc := 112) B d_Model_reckon_112 rfl 2 rfl ?_
    refine mv_callSi (pc := 113) (n := 2) B (mK_ok sk sv) hNs (c_Model_less l hi _ _ _) rfl (ma_goodc kc_Model_less) (B.2.2.2.1 _ k_2465) (B.2.2.2.1 _ k_2466) (B.2.2.2.1 _ k_12) ⟨by decide +kernel, by decide +kernel, by decide +kernel⟩ rfl d_Model_reckon_113 rfl (Nat.le_of_ble_eq_true rfl) ⟨by decide, by decide⟩ ⟨by decide, by decide⟩ ⟨by decide, by decide⟩ (mv_noH hno _) (fun v113 σ113 h113 => ?_)
    obtain ⟨e113, z113⟩ := h113
    have e113 := e113.symm
    subst e113
    refine mv_if_eq (pc := 116) (tgt := 123) B d_Model_reckon_116 rfl (fun h116 => ?_) (fun h116 => ?_)
    · skip
      refine mv_iconst (pc := 123) (v := 0) B d_Model_reckon_123 (by decide) ?_
      exact mv_iret (pc := 124) B hr rfl d_Model_reckon_124 (Nat.le_refl _) (Nat.le_refl _) ⟨_, rfl, rfl⟩
    · skip
      refine mv_iconst (pc := 119) (v := 1) B d_Model_reckon_119 (by decide) ?_
      refine mv_goto (pc := 120) (tgt := 124) B d_Model_reckon_120 rfl ?_
      exact mv_iret (pc := 124) B hr rfl d_Model_reckon_124 (Nat.le_refl _) (Nat.le_refl _) ⟨_, rfl, rfl⟩
  refine ⟨fun h1 => ?_, fun h1n32 => ?_⟩
  · skip
    refine mv_iload_n (pc := 125) B d_Model_reckon_125 rfl 1 rfl ?_
    refine mv_iload_n (pc := 126) B d_Model_reckon_126 rfl 2 rfl ?_
    refine mv_ixor (pc := 127) B d_Model_reckon_127 ?_
    exact mv_iret (pc := 128) B hr rfl d_Model_reckon_128 (Nat.le_refl _) (Nat.le_refl _) ⟨_, rfl, rfl⟩
  refine ⟨fun h1 => ?_, fun h1n33 => ?_⟩
  · skip
    refine mv_iload_n (pc := 144) B d_Model_reckon_144 rfl 1 rfl ?_
    refine mv_iload_n (pc := 145) B d_Model_reckon_145 rfl 2 rfl ?_
    refine mv_bipush (pc := 146) (v := 31) B d_Model_reckon_146 (by decide) ?_
    refine mv_iand (pc := 148) B d_Model_reckon_148 ?_
    refine mv_iushr (pc := 149) B d_Model_reckon_149 ?_
    exact mv_iret (pc := 150) B hr rfl d_Model_reckon_150 (Nat.le_refl _) (Nat.le_refl _) ⟨_, rfl, rfl⟩
  refine ⟨fun h1 => ?_, fun h1n34 => ?_⟩
  · skip
    refine mv_iload_n (pc := 151) B d_Model_reckon_151 rfl 1 rfl ?_
    refine mv_iload_n (pc := 152) B d_Model_reckon_152 rfl 2 rfl ?_
    refine mv_bipush (pc := 153) (v := 31) B d_Model_reckon_153 (by decide) ?_
    refine mv_iand (pc := 155) B d_Model_reckon_155 ?_
    refine mv_ishr (pc := 156) B d_Model_reckon_156 ?_
    exact mv_iret (pc := 157) B hr rfl d_Model_reckon_157 (Nat.le_refl _) (Nat.le_refl _) ⟨_, rfl, rfl⟩
  refine ⟨fun h1 => ?_, fun h1n35 => ?_⟩
  · skip
    refine mv_iload_n (pc := 129) B d_Model_reckon_129 rfl 1 rfl ?_
    refine mv_iload_n (pc := 130) B d_Model_reckon_130 rfl 2 rfl ?_
    refine mv_ior (pc := 131) B d_Model_reckon_131 ?_
    exact mv_iret (pc := 132) B hr rfl d_Model_reckon_132 (Nat.le_refl _) (Nat.le_refl _) ⟨_, rfl, rfl⟩
  refine ⟨fun h1 => ?_, fun h1n36 => ?_⟩
  · skip
    refine mv_iload_n (pc := 133) B d_Model_reckon_133 rfl 1 rfl ?_
    refine mv_iload_n (pc := 134) B d_Model_reckon_134 rfl 2 rfl ?_
    refine mv_iand (pc := 135) B d_Model_reckon_135 ?_
    exact mv_iret (pc := 136) B hr rfl d_Model_reckon_136 (Nat.le_refl _) (Nat.le_refl _) ⟨_, rfl, rfl⟩
  show mv_V _ _ _ _ _ _ _ _ _ _ _ _ _ _ _ _ 158 _ _
  refine mv_iload_n (pc := 158) B d_Model_reckon_158 rfl 0 rfl ?_
  refine mv_iload_n (pc := 159) B d_Model_reckon_159 rfl 1 rfl ?_
  refine mv_iload_n (pc := 160) B d_Model_reckon_160 rfl 2 rfl ?_
  refine mv_callSi (pc := 161) (n := 3) B (mK_ok sk sv) hNs (c_Model_multiply l hi _ _ _ _) rfl (ma_goodc kc_Model_multiply) (B.2.2.2.1 _ k_2489) (B.2.2.2.1 _ k_2490) (B.2.2.2.1 _ k_12) ⟨by decide +kernel, by decide +kernel, by decide +kernel⟩ rfl d_Model_reckon_161 rfl (Nat.le_of_ble_eq_true rfl) ⟨by decide, by decide⟩ ⟨by decide, by decide⟩ ⟨by decide, by decide⟩ (mv_noH hno _) (fun v161 σ161 h161 => ?_)
  have e161 := h161.symm
  subst e161
  exact mv_iret (pc := 164) B hr rfl d_Model_reckon_164 (Nat.le_refl _) (Nat.le_refl _) ⟨_, rfl, rfl⟩
def y_Model_inMemory : MethodName := ⟨"MachineLoomModel", "inMemory", "(II)Z"⟩
abbrev b_Model_inMemory : ByteArray := prog_14_method_18_code
theorem kc_Model_inMemory : Cond.code y_Model_inMemory b_Model_inMemory 2 (Option.some Jvm.ClassFile.FieldType.boolean) ∈ ma := ma_of (tb_11 _ (List.mem_of_getElem? (i := 78) rfl)) rfl
theorem k_1815 : (Jvm.Cond.constant "MachineLoomModel" (7 : Nat) (32768 : Int32)) ∈ ma := ma_of (tb_8 _ (List.mem_of_getElem? (i := 135) rfl)) rfl
theorem k_2391 : (Jvm.Cond.methodLink "MachineLoomModel" (66 : Nat) ({ cls := "MachineLoomModel", name := "in", desc := "(JJJ)Z" } : Jvm.MethodName)) ∈ ma := ma_of (tb_10 _ (List.mem_of_getElem? (i := 231) rfl)) rfl
theorem d_Model_inMemory_0 : decode b_Model_inMemory 0 = .ok (.iload_n 0, 1) := by decide +kernel
theorem d_Model_inMemory_1 : decode b_Model_inMemory 1 = .ok (.i2l, 1) := by decide +kernel
theorem d_Model_inMemory_2 : decode b_Model_inMemory 2 = .ok (.lconst 0, 1) := by decide +kernel
theorem d_Model_inMemory_3 : decode b_Model_inMemory 3 = .ok (.ldc 7, 2) := by decide +kernel
theorem d_Model_inMemory_5 : decode b_Model_inMemory 5 = .ok (.iload_n 1, 1) := by decide +kernel
theorem d_Model_inMemory_6 : decode b_Model_inMemory 6 = .ok (.isub, 1) := by decide +kernel
theorem d_Model_inMemory_7 : decode b_Model_inMemory 7 = .ok (.i2l, 1) := by decide +kernel
theorem d_Model_inMemory_8 : decode b_Model_inMemory 8 = .ok (.invokestatic 66, 3) := by decide +kernel
theorem d_Model_inMemory_11 : decode b_Model_inMemory 11 = .ok (.ireturn, 1) := by decide +kernel
set_option maxHeartbeats 4000000 in
set_option maxRecDepth 100000 in
theorem c_Model_inMemory (l : Launch) {dA : FieldType → ClassId} {D : va_G} {al : Nat → Nat} {ext : mv_Sh} {sk sv : Nat → Nat} (hi : mv_inj (mg dA D al ext)) (σ : mv_H) (x9 n9 : Int32) (hn0 : 0 ≤ n9.toInt) (hn4 : n9.toInt ≤ 4) : mv_C l y_Model_inMemory (Cond.code y_Model_inMemory b_Model_inMemory 2 (Option.some Jvm.ClassFile.FieldType.boolean) :: ma) ({ frames := 1, cells := 0, slots := 0, locals := 25 }) (mg dA D al ext) (mK sk sv) [.int x9, .int n9] σ (mv_Ri (fun v σ1 => σ1 = σ ∧ (v = 0 ∨ (v = 1 ∧ 0 ≤ x9.toInt ∧ x9.toInt + n9.toInt ≤ 32768)))) := by
  refine mv_C.ofV (cc := b_Model_inMemory) (nL := 2) (ret := (Option.some Jvm.ClassFile.FieldType.boolean)) (by decide +kernel) rfl hi (Nat.le_of_ble_eq_true rfl) ?_
  intro p e s m below meth c B hNs hr hnm hno
  refine mv_iload_n (pc := 0) B d_Model_inMemory_0 rfl 0 rfl ?_
  refine mv_i2l (pc := 1) B d_Model_inMemory_1 ?_
  refine mv_lconst (pc := 2) (v := 0) B d_Model_inMemory_2 (by decide) ?_
  refine mv_ldc (pc := 3) (v := 32768) B (B.2.2.2.1 _ k_1815) d_Model_inMemory_3 ?_
  refine mv_iload_n (pc := 5) B d_Model_inMemory_5 rfl 1 rfl ?_
  refine mv_isub (pc := 6) B d_Model_inMemory_6 ?_
  refine mv_i2l (pc := 7) B d_Model_inMemory_7 ?_
  refine mv_callSi (pc := 8) (n := 3) B (mK_ok sk sv) hNs (c_Model_in l hi _ _ _ _) rfl (ma_goodc kc_Model_in) (B.2.2.2.1 _ k_2391) (B.2.2.2.1 _ k_2208) (B.2.2.2.1 _ k_12) ⟨by decide +kernel, by decide +kernel, by decide +kernel⟩ rfl d_Model_inMemory_8 rfl (Nat.le_of_ble_eq_true rfl) ⟨by decide, by decide⟩ ⟨by decide, by decide⟩ ⟨by decide, by decide⟩ (mv_noH hno _) (fun v8 σ8 h8 => ?_)
  obtain ⟨e8, z8⟩ := h8
  have e8 := e8.symm
  subst e8
  have w9 : (32768 - n9).toInt = 32768 - n9.toInt := i32_sub (x := 32768) (y := n9) (by show -2147483648 ≤ (32768 : Int) - n9.toInt; omega) (by show (32768 : Int) - n9.toInt < 2147483648; omega)
  have z9 : v8 = 0 ∨ (v8 = 1 ∧ 0 ≤ x9.toInt ∧ x9.toInt + n9.toInt ≤ 32768) := by
    rcases z8 with z | ⟨z, z1, z2⟩
    · exact Or.inl z
    · rw [lg_toInt, lg_toInt, w9] at z2
      have z1 : (0 : Int) ≤ x9.toInt := by rw [← lg_toInt]; exact z1
      exact Or.inr ⟨z, z1, by omega⟩
  exact mv_iret (pc := 11) B hr (by rcases z9 with z | z; (rw [z]; rfl); (rw [z.1]; rfl)) d_Model_inMemory_11 (Nat.le_refl _) (Nat.le_refl _) ⟨_, rfl, rfl, z9⟩
def y_Model_shippedField : MethodName := ⟨"MachineLoomModel", "shippedField", "(III)J"⟩
abbrev b_Model_shippedField : ByteArray := prog_14_method_24_code
theorem kc_Model_shippedField : Cond.code y_Model_shippedField b_Model_shippedField 7 (Option.some Jvm.ClassFile.FieldType.long) ∈ ma := ma_of (tb_10 _ (List.mem_of_getElem? (i := 228) rfl)) rfl
theorem k_2394 : (Jvm.Cond.constantLong "MachineLoomModel" (122 : Nat) (37 : Int64)) ∈ ma := ma_of (tb_10 _ (List.mem_of_getElem? (i := 234) rfl)) rfl
theorem k_2395 : (Jvm.Cond.constantLong "MachineLoomModel" (124 : Nat) (39 : Int64)) ∈ ma := ma_of (tb_10 _ (List.mem_of_getElem? (i := 235) rfl)) rfl
theorem k_2396 : (Jvm.Cond.constantLong "MachineLoomModel" (126 : Nat) (-1 : Int64)) ∈ ma := ma_of (tb_10 _ (List.mem_of_getElem? (i := 236) rfl)) rfl
theorem k_2401 : (Jvm.Cond.constantLong "MachineLoomModel" (136 : Nat) (24 : Int64)) ∈ ma := ma_of (tb_11 _ (List.mem_of_getElem? (i := 1) rfl)) rfl
theorem k_2402 : (Jvm.Cond.constantLong "MachineLoomModel" (138 : Nat) (26 : Int64)) ∈ ma := ma_of (tb_11 _ (List.mem_of_getElem? (i := 2) rfl)) rfl
theorem k_2397 : (Jvm.Cond.constantLong "MachineLoomModel" (128 : Nat) (10 : Int64)) ∈ ma := ma_of (tb_10 _ (List.mem_of_getElem? (i := 237) rfl)) rfl
theorem k_2398 : (Jvm.Cond.constantLong "MachineLoomModel" (130 : Nat) (14 : Int64)) ∈ ma := ma_of (tb_10 _ (List.mem_of_getElem? (i := 238) rfl)) rfl
theorem k_2399 : (Jvm.Cond.constantLong "MachineLoomModel" (132 : Nat) (18 : Int64)) ∈ ma := ma_of (tb_10 _ (List.mem_of_getElem? (i := 239) rfl)) rfl
theorem k_2400 : (Jvm.Cond.constantLong "MachineLoomModel" (134 : Nat) (23 : Int64)) ∈ ma := ma_of (tb_11 _ (List.mem_of_getElem? (i := 0) rfl)) rfl
theorem k_2389 : (Jvm.Cond.constantLong "MachineLoomModel" (114 : Nat) (4 : Int64)) ∈ ma := ma_of (tb_10 _ (List.mem_of_getElem? (i := 229) rfl)) rfl
theorem k_2390 : (Jvm.Cond.constantLong "MachineLoomModel" (116 : Nat) (9 : Int64)) ∈ ma := ma_of (tb_10 _ (List.mem_of_getElem? (i := 230) rfl)) rfl
theorem k_2392 : (Jvm.Cond.constantLong "MachineLoomModel" (118 : Nat) (15 : Int64)) ∈ ma := ma_of (tb_10 _ (List.mem_of_getElem? (i := 232) rfl)) rfl
theorem k_2393 : (Jvm.Cond.constantLong "MachineLoomModel" (120 : Nat) (17 : Int64)) ∈ ma := ma_of (tb_10 _ (List.mem_of_getElem? (i := 233) rfl)) rfl
theorem d_Model_shippedField_0 : decode b_Model_shippedField 0 = .ok (.iload_n 0, 1) := by decide +kernel
theorem d_Model_shippedField_1 : decode b_Model_shippedField 1 = .ok (.i2l, 1) := by decide +kernel
theorem d_Model_shippedField_2 : decode b_Model_shippedField 2 = .ok (.ldc2_w 114, 3) := by decide +kernel
theorem d_Model_shippedField_5 : decode b_Model_shippedField 5 = .ok (.ldc2_w 116, 3) := by decide +kernel
theorem d_Model_shippedField_8 : decode b_Model_shippedField 8 = .ok (.invokestatic 66, 3) := by decide +kernel
theorem d_Model_shippedField_11 : decode b_Model_shippedField 11 = .ok (.istore_n 3, 1) := by decide +kernel
theorem d_Model_shippedField_12 : decode b_Model_shippedField 12 = .ok (.iload_n 0, 1) := by decide +kernel
theorem d_Model_shippedField_13 : decode b_Model_shippedField 13 = .ok (.i2l, 1) := by decide +kernel
theorem d_Model_shippedField_14 : decode b_Model_shippedField 14 = .ok (.ldc2_w 118, 3) := by decide +kernel
theorem d_Model_shippedField_17 : decode b_Model_shippedField 17 = .ok (.ldc2_w 120, 3) := by decide +kernel
theorem d_Model_shippedField_20 : decode b_Model_shippedField 20 = .ok (.invokestatic 66, 3) := by decide +kernel
theorem d_Model_shippedField_23 : decode b_Model_shippedField 23 = .ok (.istore 4, 2) := by decide +kernel
theorem d_Model_shippedField_25 : decode b_Model_shippedField 25 = .ok (.iload_n 0, 1) := by decide +kernel
theorem d_Model_shippedField_26 : decode b_Model_shippedField 26 = .ok (.iconst 2, 1) := by decide +kernel
theorem d_Model_shippedField_27 : decode b_Model_shippedField 27 = .ok (.if_icmp .ge (7), 3) := by decide +kernel
theorem d_Model_shippedField_30 : decode b_Model_shippedField 30 = .ok (.iconst 1, 1) := by decide +kernel
theorem d_Model_shippedField_31 : decode b_Model_shippedField 31 = .ok (.goto (4), 3) := by decide +kernel
theorem d_Model_shippedField_34 : decode b_Model_shippedField 34 = .ok (.iconst 0, 1) := by decide +kernel
theorem d_Model_shippedField_35 : decode b_Model_shippedField 35 = .ok (.istore 5, 2) := by decide +kernel
theorem d_Model_shippedField_37 : decode b_Model_shippedField 37 = .ok (.iload_n 0, 1) := by decide +kernel
theorem d_Model_shippedField_38 : decode b_Model_shippedField 38 = .ok (.bipush 27, 2) := by decide +kernel
theorem d_Model_shippedField_40 : decode b_Model_shippedField 40 = .ok (.if_icmp .lt (25), 3) := by decide +kernel
theorem d_Model_shippedField_43 : decode b_Model_shippedField 43 = .ok (.iload_n 0, 1) := by decide +kernel
theorem d_Model_shippedField_44 : decode b_Model_shippedField 44 = .ok (.bipush 37, 2) := by decide +kernel
theorem d_Model_shippedField_46 : decode b_Model_shippedField 46 = .ok (.if_icmp .eq (19), 3) := by decide +kernel
theorem d_Model_shippedField_49 : decode b_Model_shippedField 49 = .ok (.iload_n 0, 1) := by decide +kernel
theorem d_Model_shippedField_50 : decode b_Model_shippedField 50 = .ok (.bipush 38, 2) := by decide +kernel
theorem d_Model_shippedField_52 : decode b_Model_shippedField 52 = .ok (.if_icmp .eq (13), 3) := by decide +kernel
theorem d_Model_shippedField_55 : decode b_Model_shippedField 55 = .ok (.iload_n 0, 1) := by decide +kernel
theorem d_Model_shippedField_56 : decode b_Model_shippedField 56 = .ok (.bipush 39, 2) := by decide +kernel
theorem d_Model_shippedField_58 : decode b_Model_shippedField 58 = .ok (.if_icmp .eq (7), 3) := by decide +kernel
theorem d_Model_shippedField_61 : decode b_Model_shippedField 61 = .ok (.iconst 1, 1) := by decide +kernel
theorem d_Model_shippedField_62 : decode b_Model_shippedField 62 = .ok (.goto (4), 3) := by decide +kernel
theorem d_Model_shippedField_65 : decode b_Model_shippedField 65 = .ok (.iconst 0, 1) := by decide +kernel
theorem d_Model_shippedField_66 : decode b_Model_shippedField 66 = .ok (.istore 6, 2) := by decide +kernel
theorem d_Model_shippedField_68 : decode b_Model_shippedField 68 = .ok (.iload_n 0, 1) := by decide +kernel
theorem d_Model_shippedField_69 : decode b_Model_shippedField 69 = .ok (.i2l, 1) := by decide +kernel
theorem d_Model_shippedField_70 : decode b_Model_shippedField 70 = .ok (.ldc2_w 122, 3) := by decide +kernel
theorem d_Model_shippedField_73 : decode b_Model_shippedField 73 = .ok (.ldc2_w 124, 3) := by decide +kernel
theorem d_Model_shippedField_76 : decode b_Model_shippedField 76 = .ok (.invokestatic 66, 3) := by decide +kernel
theorem d_Model_shippedField_79 : decode b_Model_shippedField 79 = .ok (.ifCond .eq (7), 3) := by decide +kernel
theorem d_Model_shippedField_82 : decode b_Model_shippedField 82 = .ok (.ldc2_w 126, 3) := by decide +kernel
theorem d_Model_shippedField_85 : decode b_Model_shippedField 85 = .ok (.lreturn, 1) := by decide +kernel
theorem d_Model_shippedField_86 : decode b_Model_shippedField 86 = .ok (.iload_n 1, 1) := by decide +kernel
theorem d_Model_shippedField_87 : decode b_Model_shippedField 87 = .ok (.tableswitch (419) (97) (116) #[287, 308, 345, 93, 382, 419, 419, 257, 169, 236, 419, 419, 419, 419, 419, 419, 419, 419, 118, 139], 93) := by decide +kernel
theorem d_Model_shippedField_180 : decode b_Model_shippedField 180 = .ok (.iload_n 3, 1) := by decide +kernel
theorem d_Model_shippedField_181 : decode b_Model_shippedField 181 = .ok (.ifCond .ne (8), 3) := by decide +kernel
theorem d_Model_shippedField_184 : decode b_Model_shippedField 184 = .ok (.iload 4, 2) := by decide +kernel
theorem d_Model_shippedField_186 : decode b_Model_shippedField 186 = .ok (.ifCond .eq (9), 3) := by decide +kernel
theorem d_Model_shippedField_189 : decode b_Model_shippedField 189 = .ok (.ldc2_w 126, 3) := by decide +kernel
theorem d_Model_shippedField_192 : decode b_Model_shippedField 192 = .ok (.goto (12), 3) := by decide +kernel
theorem d_Model_shippedField_195 : decode b_Model_shippedField 195 = .ok (.iload_n 2, 1) := by decide +kernel
theorem d_Model_shippedField_196 : decode b_Model_shippedField 196 = .ok (.bipush 11, 2) := by decide +kernel
theorem d_Model_shippedField_198 : decode b_Model_shippedField 198 = .ok (.bipush 7, 2) := by decide +kernel
theorem d_Model_shippedField_200 : decode b_Model_shippedField 200 = .ok (.invokestatic 44, 3) := by decide +kernel
theorem d_Model_shippedField_203 : decode b_Model_shippedField 203 = .ok (.i2l, 1) := by decide +kernel
theorem d_Model_shippedField_204 : decode b_Model_shippedField 204 = .ok (.lreturn, 1) := by decide +kernel
theorem d_Model_shippedField_205 : decode b_Model_shippedField 205 = .ok (.iload_n 0, 1) := by decide +kernel
theorem d_Model_shippedField_206 : decode b_Model_shippedField 206 = .ok (.iconst 3, 1) := by decide +kernel
theorem d_Model_shippedField_207 : decode b_Model_shippedField 207 = .ok (.if_icmp .ge (9), 3) := by decide +kernel
theorem d_Model_shippedField_210 : decode b_Model_shippedField 210 = .ok (.ldc2_w 126, 3) := by decide +kernel
theorem d_Model_shippedField_213 : decode b_Model_shippedField 213 = .ok (.goto (12), 3) := by decide +kernel
theorem d_Model_shippedField_216 : decode b_Model_shippedField 216 = .ok (.iload_n 2, 1) := by decide +kernel
theorem d_Model_shippedField_217 : decode b_Model_shippedField 217 = .ok (.bipush 19, 2) := by decide +kernel
theorem d_Model_shippedField_219 : decode b_Model_shippedField 219 = .ok (.bipush 15, 2) := by decide +kernel
theorem d_Model_shippedField_221 : decode b_Model_shippedField 221 = .ok (.invokestatic 44, 3) := by decide +kernel
theorem d_Model_shippedField_224 : decode b_Model_shippedField 224 = .ok (.i2l, 1) := by decide +kernel
theorem d_Model_shippedField_225 : decode b_Model_shippedField 225 = .ok (.lreturn, 1) := by decide +kernel
theorem d_Model_shippedField_226 : decode b_Model_shippedField 226 = .ok (.iload_n 3, 1) := by decide +kernel
theorem d_Model_shippedField_227 : decode b_Model_shippedField 227 = .ok (.ifCond .ne (13), 3) := by decide +kernel
theorem d_Model_shippedField_230 : decode b_Model_shippedField 230 = .ok (.iload 4, 2) := by decide +kernel
theorem d_Model_shippedField_232 : decode b_Model_shippedField 232 = .ok (.ifCond .ne (8), 3) := by decide +kernel
theorem d_Model_shippedField_235 : decode b_Model_shippedField 235 = .ok (.iload 6, 2) := by decide +kernel
theorem d_Model_shippedField_237 : decode b_Model_shippedField 237 = .ok (.ifCond .eq (15), 3) := by decide +kernel
theorem d_Model_shippedField_240 : decode b_Model_shippedField 240 = .ok (.iload_n 2, 1) := by decide +kernel
theorem d_Model_shippedField_241 : decode b_Model_shippedField 241 = .ok (.bipush 24, 2) := by decide +kernel
theorem d_Model_shippedField_243 : decode b_Model_shippedField 243 = .ok (.bipush 20, 2) := by decide +kernel
theorem d_Model_shippedField_245 : decode b_Model_shippedField 245 = .ok (.invokestatic 44, 3) := by decide +kernel
theorem d_Model_shippedField_248 : decode b_Model_shippedField 248 = .ok (.i2l, 1) := by decide +kernel
theorem d_Model_shippedField_249 : decode b_Model_shippedField 249 = .ok (.goto (6), 3) := by decide +kernel
theorem d_Model_shippedField_252 : decode b_Model_shippedField 252 = .ok (.ldc2_w 126, 3) := by decide +kernel
theorem d_Model_shippedField_255 : decode b_Model_shippedField 255 = .ok (.lreturn, 1) := by decide +kernel
theorem d_Model_shippedField_256 : decode b_Model_shippedField 256 = .ok (.iload 5, 2) := by decide +kernel
theorem d_Model_shippedField_258 : decode b_Model_shippedField 258 = .ok (.ifCond .eq (9), 3) := by decide +kernel
theorem d_Model_shippedField_261 : decode b_Model_shippedField 261 = .ok (.iload_n 2, 1) := by decide +kernel
theorem d_Model_shippedField_262 : decode b_Model_shippedField 262 = .ok (.bipush 12, 2) := by decide +kernel
theorem d_Model_shippedField_264 : decode b_Model_shippedField 264 = .ok (.iushr, 1) := by decide +kernel
theorem d_Model_shippedField_265 : decode b_Model_shippedField 265 = .ok (.i2l, 1) := by decide +kernel
theorem d_Model_shippedField_266 : decode b_Model_shippedField 266 = .ok (.lreturn, 1) := by decide +kernel
theorem d_Model_shippedField_267 : decode b_Model_shippedField 267 = .ok (.iload 4, 2) := by decide +kernel
theorem d_Model_shippedField_269 : decode b_Model_shippedField 269 = .ok (.ifCond .eq (9), 3) := by decide +kernel
theorem d_Model_shippedField_272 : decode b_Model_shippedField 272 = .ok (.iload_n 2, 1) := by decide +kernel
theorem d_Model_shippedField_273 : decode b_Model_shippedField 273 = .ok (.bipush 25, 2) := by decide +kernel
theorem d_Model_shippedField_275 : decode b_Model_shippedField 275 = .ok (.iushr, 1) := by decide +kernel
theorem d_Model_shippedField_276 : decode b_Model_shippedField 276 = .ok (.i2l, 1) := by decide +kernel
theorem d_Model_shippedField_277 : decode b_Model_shippedField 277 = .ok (.lreturn, 1) := by decide +kernel
theorem d_Model_shippedField_278 : decode b_Model_shippedField 278 = .ok (.iload_n 0, 1) := by decide +kernel
theorem d_Model_shippedField_279 : decode b_Model_shippedField 279 = .ok (.iconst 3, 1) := by decide +kernel
theorem d_Model_shippedField_280 : decode b_Model_shippedField 280 = .ok (.if_icmp .eq (31), 3) := by decide +kernel
theorem d_Model_shippedField_283 : decode b_Model_shippedField 283 = .ok (.iload_n 0, 1) := by decide +kernel
theorem d_Model_shippedField_284 : decode b_Model_shippedField 284 = .ok (.i2l, 1) := by decide +kernel
theorem d_Model_shippedField_285 : decode b_Model_shippedField 285 = .ok (.ldc2_w 128, 3) := by decide +kernel
theorem d_Model_shippedField_288 : decode b_Model_shippedField 288 = .ok (.ldc2_w 130, 3) := by decide +kernel
theorem d_Model_shippedField_291 : decode b_Model_shippedField 291 = .ok (.invokestatic 66, 3) := by decide +kernel
theorem d_Model_shippedField_294 : decode b_Model_shippedField 294 = .ok (.ifCond .ne (17), 3) := by decide +kernel
theorem d_Model_shippedField_297 : decode b_Model_shippedField 297 = .ok (.iload_n 0, 1) := by decide +kernel
theorem d_Model_shippedField_298 : decode b_Model_shippedField 298 = .ok (.i2l, 1) := by decide +kernel
theorem d_Model_shippedField_299 : decode b_Model_shippedField 299 = .ok (.ldc2_w 132, 3) := by decide +kernel
theorem d_Model_shippedField_302 : decode b_Model_shippedField 302 = .ok (.ldc2_w 134, 3) := by decide +kernel
theorem d_Model_shippedField_305 : decode b_Model_shippedField 305 = .ok (.invokestatic 66, 3) := by decide +kernel
theorem d_Model_shippedField_308 : decode b_Model_shippedField 308 = .ok (.ifCond .eq (11), 3) := by decide +kernel
theorem d_Model_shippedField_311 : decode b_Model_shippedField 311 = .ok (.iload_n 2, 1) := by decide +kernel
theorem d_Model_shippedField_312 : decode b_Model_shippedField 312 = .ok (.bipush 20, 2) := by decide +kernel
theorem d_Model_shippedField_314 : decode b_Model_shippedField 314 = .ok (.iushr, 1) := by decide +kernel
theorem d_Model_shippedField_315 : decode b_Model_shippedField 315 = .ok (.i2l, 1) := by decide +kernel
theorem d_Model_shippedField_316 : decode b_Model_shippedField 316 = .ok (.goto (6), 3) := by decide +kernel
theorem d_Model_shippedField_319 : decode b_Model_shippedField 319 = .ok (.ldc2_w 126, 3) := by decide +kernel
theorem d_Model_shippedField_322 : decode b_Model_shippedField 322 = .ok (.lreturn, 1) := by decide +kernel
theorem d_Model_shippedField_323 : decode b_Model_shippedField 323 = .ok (.iload 4, 2) := by decide +kernel
theorem d_Model_shippedField_325 : decode b_Model_shippedField 325 = .ok (.ifCond .eq (15), 3) := by decide +kernel
theorem d_Model_shippedField_328 : decode b_Model_shippedField 328 = .ok (.iload_n 2, 1) := by decide +kernel
theorem d_Model_shippedField_329 : decode b_Model_shippedField 329 = .ok (.bipush 11, 2) := by decide +kernel
theorem d_Model_shippedField_331 : decode b_Model_shippedField 331 = .ok (.bipush 7, 2) := by decide +kernel
theorem d_Model_shippedField_333 : decode b_Model_shippedField 333 = .ok (.invokestatic 44, 3) := by decide +kernel
theorem d_Model_shippedField_336 : decode b_Model_shippedField 336 = .ok (.i2l, 1) := by decide +kernel
theorem d_Model_shippedField_337 : decode b_Model_shippedField 337 = .ok (.goto (6), 3) := by decide +kernel
theorem d_Model_shippedField_340 : decode b_Model_shippedField 340 = .ok (.ldc2_w 126, 3) := by decide +kernel
theorem d_Model_shippedField_343 : decode b_Model_shippedField 343 = .ok (.lreturn, 1) := by decide +kernel
theorem d_Model_shippedField_344 : decode b_Model_shippedField 344 = .ok (.iload_n 0, 1) := by decide +kernel
theorem d_Model_shippedField_345 : decode b_Model_shippedField 345 = .ok (.i2l, 1) := by decide +kernel
theorem d_Model_shippedField_346 : decode b_Model_shippedField 346 = .ok (.ldc2_w 136, 3) := by decide +kernel
theorem d_Model_shippedField_349 : decode b_Model_shippedField 349 = .ok (.ldc2_w 138, 3) := by decide +kernel
theorem d_Model_shippedField_352 : decode b_Model_shippedField 352 = .ok (.invokestatic 66, 3) := by decide +kernel
theorem d_Model_shippedField_355 : decode b_Model_shippedField 355 = .ok (.ifCond .eq (15), 3) := by decide +kernel
theorem d_Model_shippedField_358 : decode b_Model_shippedField 358 = .ok (.iload_n 2, 1) := by decide +kernel
theorem d_Model_shippedField_359 : decode b_Model_shippedField 359 = .ok (.bipush 24, 2) := by decide +kernel
theorem d_Model_shippedField_361 : decode b_Model_shippedField 361 = .ok (.bipush 20, 2) := by decide +kernel
theorem d_Model_shippedField_363 : decode b_Model_shippedField 363 = .ok (.invokestatic 44, 3) := by decide +kernel
theorem d_Model_shippedField_366 : decode b_Model_shippedField 366 = .ok (.i2l, 1) := by decide +kernel
theorem d_Model_shippedField_367 : decode b_Model_shippedField 367 = .ok (.goto (6), 3) := by decide +kernel
theorem d_Model_shippedField_370 : decode b_Model_shippedField 370 = .ok (.ldc2_w 126, 3) := by decide +kernel
theorem d_Model_shippedField_373 : decode b_Model_shippedField 373 = .ok (.lreturn, 1) := by decide +kernel
theorem d_Model_shippedField_374 : decode b_Model_shippedField 374 = .ok (.iload_n 3, 1) := by decide +kernel
theorem d_Model_shippedField_375 : decode b_Model_shippedField 375 = .ok (.ifCond .ne (8), 3) := by decide +kernel
theorem d_Model_shippedField_378 : decode b_Model_shippedField 378 = .ok (.iload_n 0, 1) := by decide +kernel
theorem d_Model_shippedField_379 : decode b_Model_shippedField 379 = .ok (.iconst 2, 1) := by decide +kernel
theorem d_Model_shippedField_380 : decode b_Model_shippedField 380 = .ok (.if_icmp .ne (11), 3) := by decide +kernel
theorem d_Model_shippedField_383 : decode b_Model_shippedField 383 = .ok (.iload_n 2, 1) := by decide +kernel
theorem d_Model_shippedField_384 : decode b_Model_shippedField 384 = .ok (.bipush 31, 2) := by decide +kernel
theorem d_Model_shippedField_386 : decode b_Model_shippedField 386 = .ok (.iushr, 1) := by decide +kernel
theorem d_Model_shippedField_387 : decode b_Model_shippedField 387 = .ok (.i2l, 1) := by decide +kernel
theorem d_Model_shippedField_388 : decode b_Model_shippedField 388 = .ok (.goto (6), 3) := by decide +kernel
theorem d_Model_shippedField_391 : decode b_Model_shippedField 391 = .ok (.ldc2_w 126, 3) := by decide +kernel
theorem d_Model_shippedField_394 : decode b_Model_shippedField 394 = .ok (.lreturn, 1) := by decide +kernel
theorem d_Model_shippedField_395 : decode b_Model_shippedField 395 = .ok (.iload_n 3, 1) := by decide +kernel
theorem d_Model_shippedField_396 : decode b_Model_shippedField 396 = .ok (.ifCond .eq (15), 3) := by decide +kernel
theorem d_Model_shippedField_399 : decode b_Model_shippedField 399 = .ok (.iload_n 2, 1) := by decide +kernel
theorem d_Model_shippedField_400 : decode b_Model_shippedField 400 = .ok (.bipush 30, 2) := by decide +kernel
theorem d_Model_shippedField_402 : decode b_Model_shippedField 402 = .ok (.bipush 25, 2) := by decide +kernel
theorem d_Model_shippedField_404 : decode b_Model_shippedField 404 = .ok (.invokestatic 44, 3) := by decide +kernel
theorem d_Model_shippedField_407 : decode b_Model_shippedField 407 = .ok (.i2l, 1) := by decide +kernel
theorem d_Model_shippedField_408 : decode b_Model_shippedField 408 = .ok (.goto (23), 3) := by decide +kernel
theorem d_Model_shippedField_411 : decode b_Model_shippedField 411 = .ok (.iload_n 0, 1) := by decide +kernel
theorem d_Model_shippedField_412 : decode b_Model_shippedField 412 = .ok (.iconst 2, 1) := by decide +kernel
theorem d_Model_shippedField_413 : decode b_Model_shippedField 413 = .ok (.if_icmp .ne (15), 3) := by decide +kernel
theorem d_Model_shippedField_416 : decode b_Model_shippedField 416 = .ok (.iload_n 2, 1) := by decide +kernel
theorem d_Model_shippedField_417 : decode b_Model_shippedField 417 = .ok (.bipush 30, 2) := by decide +kernel
theorem d_Model_shippedField_419 : decode b_Model_shippedField 419 = .ok (.bipush 21, 2) := by decide +kernel
theorem d_Model_shippedField_421 : decode b_Model_shippedField 421 = .ok (.invokestatic 44, 3) := by decide +kernel
theorem d_Model_shippedField_424 : decode b_Model_shippedField 424 = .ok (.i2l, 1) := by decide +kernel
theorem d_Model_shippedField_425 : decode b_Model_shippedField 425 = .ok (.goto (6), 3) := by decide +kernel
theorem d_Model_shippedField_428 : decode b_Model_shippedField 428 = .ok (.ldc2_w 126, 3) := by decide +kernel
theorem d_Model_shippedField_431 : decode b_Model_shippedField 431 = .ok (.lreturn, 1) := by decide +kernel
theorem d_Model_shippedField_432 : decode b_Model_shippedField 432 = .ok (.iload_n 3, 1) := by decide +kernel
theorem d_Model_shippedField_433 : decode b_Model_shippedField 433 = .ok (.ifCond .eq (15), 3) := by decide +kernel
theorem d_Model_shippedField_436 : decode b_Model_shippedField 436 = .ok (.iload_n 2, 1) := by decide +kernel
theorem d_Model_shippedField_437 : decode b_Model_shippedField 437 = .ok (.bipush 11, 2) := by decide +kernel
theorem d_Model_shippedField_439 : decode b_Model_shippedField 439 = .ok (.bipush 8, 2) := by decide +kernel
theorem d_Model_shippedField_441 : decode b_Model_shippedField 441 = .ok (.invokestatic 44, 3) := by decide +kernel
theorem d_Model_shippedField_444 : decode b_Model_shippedField 444 = .ok (.i2l, 1) := by decide +kernel
theorem d_Model_shippedField_445 : decode b_Model_shippedField 445 = .ok (.goto (23), 3) := by decide +kernel
theorem d_Model_shippedField_448 : decode b_Model_shippedField 448 = .ok (.iload_n 0, 1) := by decide +kernel
theorem d_Model_shippedField_449 : decode b_Model_shippedField 449 = .ok (.iconst 2, 1) := by decide +kernel
theorem d_Model_shippedField_450 : decode b_Model_shippedField 450 = .ok (.if_icmp .ne (15), 3) := by decide +kernel
theorem d_Model_shippedField_453 : decode b_Model_shippedField 453 = .ok (.iload_n 2, 1) := by decide +kernel
theorem d_Model_shippedField_454 : decode b_Model_shippedField 454 = .ok (.bipush 20, 2) := by decide +kernel
theorem d_Model_shippedField_456 : decode b_Model_shippedField 456 = .ok (.bipush 20, 2) := by decide +kernel
theorem d_Model_shippedField_458 : decode b_Model_shippedField 458 = .ok (.invokestatic 44, 3) := by decide +kernel
theorem d_Model_shippedField_461 : decode b_Model_shippedField 461 = .ok (.i2l, 1) := by decide +kernel
theorem d_Model_shippedField_462 : decode b_Model_shippedField 462 = .ok (.goto (6), 3) := by decide +kernel
theorem d_Model_shippedField_465 : decode b_Model_shippedField 465 = .ok (.ldc2_w 126, 3) := by decide +kernel
theorem d_Model_shippedField_468 : decode b_Model_shippedField 468 = .ok (.lreturn, 1) := by decide +kernel
theorem d_Model_shippedField_469 : decode b_Model_shippedField 469 = .ok (.iload_n 3, 1) := by decide +kernel
theorem d_Model_shippedField_470 : decode b_Model_shippedField 470 = .ok (.ifCond .eq (15), 3) := by decide +kernel
theorem d_Model_shippedField_473 : decode b_Model_shippedField 473 = .ok (.iload_n 2, 1) := by decide +kernel
theorem d_Model_shippedField_474 : decode b_Model_shippedField 474 = .ok (.bipush 7, 2) := by decide +kernel
theorem d_Model_shippedField_476 : decode b_Model_shippedField 476 = .ok (.bipush 7, 2) := by decide +kernel
theorem d_Model_shippedField_478 : decode b_Model_shippedField 478 = .ok (.invokestatic 44, 3) := by decide +kernel
theorem d_Model_shippedField_481 : decode b_Model_shippedField 481 = .ok (.i2l, 1) := by decide +kernel
theorem d_Model_shippedField_482 : decode b_Model_shippedField 482 = .ok (.goto (23), 3) := by decide +kernel
theorem d_Model_shippedField_485 : decode b_Model_shippedField 485 = .ok (.iload_n 0, 1) := by decide +kernel
theorem d_Model_shippedField_486 : decode b_Model_shippedField 486 = .ok (.iconst 2, 1) := by decide +kernel
theorem d_Model_shippedField_487 : decode b_Model_shippedField 487 = .ok (.if_icmp .ne (15), 3) := by decide +kernel
theorem d_Model_shippedField_490 : decode b_Model_shippedField 490 = .ok (.iload_n 2, 1) := by decide +kernel
theorem d_Model_shippedField_491 : decode b_Model_shippedField 491 = .ok (.bipush 19, 2) := by decide +kernel
theorem d_Model_shippedField_493 : decode b_Model_shippedField 493 = .ok (.bipush 12, 2) := by decide +kernel
theorem d_Model_shippedField_495 : decode b_Model_shippedField 495 = .ok (.invokestatic 44, 3) := by decide +kernel
theorem d_Model_shippedField_498 : decode b_Model_shippedField 498 = .ok (.i2l, 1) := by decide +kernel
theorem d_Model_shippedField_499 : decode b_Model_shippedField 499 = .ok (.goto (6), 3) := by decide +kernel
theorem d_Model_shippedField_502 : decode b_Model_shippedField 502 = .ok (.ldc2_w 126, 3) := by decide +kernel
theorem d_Model_shippedField_505 : decode b_Model_shippedField 505 = .ok (.lreturn, 1) := by decide +kernel
theorem d_Model_shippedField_506 : decode b_Model_shippedField 506 = .ok (.ldc2_w 126, 3) := by decide +kernel
theorem d_Model_shippedField_509 : decode b_Model_shippedField 509 = .ok (.lreturn, 1) := by decide +kernel
set_option maxHeartbeats 4000000 in
set_option maxRecDepth 100000 in
theorem c_Model_shippedField (l : Launch) {dA : FieldType → ClassId} {D : va_G} {al : Nat → Nat} {ext : mv_Sh} {sk sv : Nat → Nat} (hi : mv_inj (mg dA D al ext)) (σ : mv_H) (o9 c9 w : Int32) : mv_C l y_Model_shippedField (Cond.code y_Model_shippedField b_Model_shippedField 7 (Option.some Jvm.ClassFile.FieldType.long) :: ma) ({ frames := 1, cells := 0, slots := 0, locals := 25 }) (mg dA D al ext) (mK sk sv) [.int o9, .int c9, .int w] σ (mv_Rl (fun v σ1 => σ1 = σ)) := by
  refine mv_C.ofV (cc := b_Model_shippedField) (nL := 7) (ret := (Option.some Jvm.ClassFile.FieldType.long)) (by decide +kernel) rfl hi (Nat.le_of_ble_eq_true rfl) ?_
  intro p e s m below meth c B hNs hr hnm hno
  have j66 : ∀ (u9 : Int32) (s9 : Int32) (b9 : Int32) (r9 : Int32) , mv_V p l e ({ frames := 1, cells := 0, slots := 0, locals := 25 }) s m ([.int o9, .int c9, .int w] : List Value).toArray below meth c (mg dA D al ext) 7 0 0 (mv_Q (mg dA D al ext) below s 0 0 (mv_Rl (fun v σ1 => σ1 = σ))) σ 66 [(5, .int u9), (4, .int s9), (3, .int b9), (0, .int o9), (1, .int c9), (2, .int w)] [.int r9] := by
    intro u9 s9 b9 r9
    refine mv_istore (pc := 66) B d_Model_shippedField_66 (by decide) rfl ?_
    refine mv_iload_n (pc := 68) B d_Model_shippedField_68 rfl 4 rfl ?_
    refine mv_i2l (pc := 69) B d_Model_shippedField_69 ?_
    refine mv_ldc2 (pc := 70) (v := 37) B (B.2.2.2.1 _ k_2394) d_Model_shippedField_70 ?_
    refine mv_ldc2 (pc := 73) (v := 39) B (B.2.2.2.1 _ k_2395) d_Model_shippedField_73 ?_
    refine mv_callSi (pc := 76) (n := 3) B (mK_ok sk sv) hNs (c_Model_in l hi _ _ _ _) rfl (ma_goodc kc_Model_in) (B.2.2.2.1 _ k_2391) (B.2.2.2.1 _ k_2208) (B.2.2.2.1 _ k_12) ⟨by decide +kernel, by decide +kernel, by decide +kernel⟩ rfl d_Model_shippedField_76 rfl (Nat.le_of_ble_eq_true rfl) ⟨by decide, by decide⟩ ⟨by decide, by decide⟩ ⟨by decide, by decide⟩ (mv_noH hno _) (fun v76 σ76 h76 => ?_)
    obtain ⟨e76, z76⟩ := h76
    have e76 := e76.symm
    subst e76
    clear z76
    refine mv_if_eq (pc := 79) (tgt := 86) B d_Model_shippedField_79 rfl (fun h79 => ?_) (fun h79 => ?_)
    · skip
      refine mv_iload_n (pc := 86) B d_Model_shippedField_86 rfl 5 rfl ?_
      refine mv_tsw (pc := 87) B d_Model_shippedField_87 (by decide) (by decide) ?_
      refine ⟨fun h87 => ?_, fun h87n97 => ?_⟩
      · skip
        refine mv_iload_n (pc := 374) B d_Model_shippedField_374 rfl 3 rfl ?_
        refine mv_if_ne (pc := 375) (tgt := 383) B d_Model_shippedField_375 rfl (fun h375 => ?_) (fun h375 => ?_)
        · skip
          refine mv_iload_n (pc := 383) B d_Model_shippedField_383 rfl 6 rfl ?_
          refine mv_bipush (pc := 384) (v := 31) B d_Model_shippedField_384 (by decide) ?_
          refine mv_iushr (pc := 386) B d_Model_shippedField_386 ?_
          refine mv_i2l (pc := 387) B d_Model_shippedField_387 ?_
          refine mv_goto (pc := 388) (tgt := 394) B d_Model_shippedField_388 rfl ?_
          exact mv_lret (pc := 394) B hr d_Model_shippedField_394 (Nat.le_refl _) (Nat.le_refl _) ⟨_, rfl, rfl⟩
        · skip
          refine mv_iload_n (pc := 378) B d_Model_shippedField_378 rfl 4 rfl ?_
          refine mv_iconst (pc := 379) (v := 2) B d_Model_shippedField_379 (by decide) ?_
          refine mv_icmp_ne (pc := 380) (tgt := 391) B d_Model_shippedField_380 rfl (fun h380 => ?_) (fun h380 => ?_)
          · skip
            refine mv_ldc2 (pc := 391) (v := -1) B (B.2.2.2.1 _ k_2396) d_Model_shippedField_391 ?_
            exact mv_lret (pc := 394) B hr d_Model_shippedField_394 (Nat.le_refl _) (Nat.le_refl _) ⟨_, rfl, rfl⟩
          · skip
            refine mv_iload_n (pc := 383) B d_Model_shippedField_383 rfl 6 rfl ?_
            refine mv_bipush (pc := 384) (v := 31) B d_Model_shippedField_384 (by decide) ?_
            refine mv_iushr (pc := 386) B d_Model_shippedField_386 ?_
            refine mv_i2l (pc := 387) B d_Model_shippedField_387 ?_
            refine mv_goto (pc := 388) (tgt := 394) B d_Model_shippedField_388 rfl ?_
            exact mv_lret (pc := 394) B hr d_Model_shippedField_394 (Nat.le_refl _) (Nat.le_refl _) ⟨_, rfl, rfl⟩
      refine ⟨fun h87 => ?_, fun h87n98 => ?_⟩
      · skip
        refine mv_iload_n (pc := 395) B d_Model_shippedField_395 rfl 3 rfl ?_
        refine mv_if_eq (pc := 396) (tgt := 411) B d_Model_shippedField_396 rfl (fun h396 => ?_) (fun h396 => ?_)
        · skip
          refine mv_iload_n (pc := 411) B d_Model_shippedField_411 rfl 4 rfl ?_
          refine mv_iconst (pc := 412) (v := 2) B d_Model_shippedField_412 (by decide) ?_
          refine mv_icmp_ne (pc := 413) (tgt := 428) B d_Model_shippedField_413 rfl (fun h413 => ?_) (fun h413 => ?_)
          · skip
            refine mv_ldc2 (pc := 428) (v := -1) B (B.2.2.2.1 _ k_2396) d_Model_shippedField_428 ?_
            exact mv_lret (pc := 431) B hr d_Model_shippedField_431 (Nat.le_refl _) (Nat.le_refl _) ⟨_, rfl, rfl⟩
          · skip
            refine mv_iload_n (pc := 416) B d_Model_shippedField_416 rfl 6 rfl ?_
            refine mv_bipush (pc := 417) (v := 30) B d_Model_shippedField_417 (by decide) ?_
            refine mv_bipush (pc := 419) (v := 21) B d_Model_shippedField_419 (by decide) ?_
            refine mv_callSi (pc := 421) (n := 3) B (mK_ok sk sv) hNs (c_Model_piece l hi _ _ _ _) rfl (ma_goodc kc_Model_piece) (B.2.2.2.1 _ k_2360) (B.2.2.2.1 _ k_2361) (B.2.2.2.1 _ k_12) ⟨by decide +kernel, by decide +kernel, by decide +kernel⟩ rfl d_Model_shippedField_421 rfl (Nat.le_of_ble_eq_true rfl) ⟨by decide, by decide⟩ ⟨by decide, by decide⟩ ⟨by decide, by decide⟩ (mv_noH hno _) (fun v421 σ421 h421 => ?_)
            obtain ⟨e421, z421⟩ := h421
            have e421 := e421.symm
            subst e421
            clear z421
            refine mv_i2l (pc := 424) B d_Model_shippedField_424 ?_
            refine mv_goto (pc := 425) (tgt := 431) B d_Model_shippedField_425 rfl ?_
            exact mv_lret (pc := 431) B hr d_Model_shippedField_431 (Nat.le_refl _) (Nat.le_refl _) ⟨_, rfl, rfl⟩
        · skip
          refine mv_iload_n (pc := 399) B d_Model_shippedField_399 rfl 6 rfl ?_
          refine mv_bipush (pc := 400) (v := 30) B d_Model_shippedField_400 (by decide) ?_
          refine mv_bipush (pc := 402) (v := 25) B d_Model_shippedField_402 (by decide) ?_
          refine mv_callSi (pc := 404) (n := 3) B (mK_ok sk sv) hNs (c_Model_piece l hi _ _ _ _) rfl (ma_goodc kc_Model_piece) (B.2.2.2.1 _ k_2360) (B.2.2.2.1 _ k_2361) (B.2.2.2.1 _ k_12) ⟨by decide +kernel, by decide +kernel, by decide +kernel⟩ rfl d_Model_shippedField_404 rfl (Nat.le_of_ble_eq_true rfl) ⟨by decide, by decide⟩ ⟨by decide, by decide⟩ ⟨by decide, by decide⟩ (mv_noH hno _) (fun v404 σ404 h404 => ?_)
          obtain ⟨e404, z404⟩ := h404
          have e404 := e404.symm
          subst e404
          clear z404
          refine mv_i2l (pc := 407) B d_Model_shippedField_407 ?_
          refine mv_goto (pc := 408) (tgt := 431) B d_Model_shippedField_408 rfl ?_
          exact mv_lret (pc := 431) B hr d_Model_shippedField_431 (Nat.le_refl _) (Nat.le_refl _) ⟨_, rfl, rfl⟩
      refine ⟨fun h87 => ?_, fun h87n99 => ?_⟩
      · skip
        refine mv_iload_n (pc := 432) B d_Model_shippedField_432 rfl 3 rfl ?_
        refine mv_if_eq (pc := 433) (tgt := 448) B d_Model_shippedField_433 rfl (fun h433 => ?_) (fun h433 => ?_)
        · skip
          refine mv_iload_n (pc := 448) B d_Model_shippedField_448 rfl 4 rfl ?_
          refine mv_iconst (pc := 449) (v := 2) B d_Model_shippedField_449 (by decide) ?_
          refine mv_icmp_ne (pc := 450) (tgt := 465) B d_Model_shippedField_450 rfl (fun h450 => ?_) (fun h450 => ?_)
          · skip
            refine mv_ldc2 (pc := 465) (v := -1) B (B.2.2.2.1 _ k_2396) d_Model_shippedField_465 ?_
            exact mv_lret (pc := 468) B hr d_Model_shippedField_468 (Nat.le_refl _) (Nat.le_refl _) ⟨_, rfl, rfl⟩
          · skip
            refine mv_iload_n (pc := 453) B d_Model_shippedField_453 rfl 6 rfl ?_
            refine mv_bipush (pc := 454) (v := 20) B d_Model_shippedField_454 (by decide) ?_
            refine mv_bipush (pc := 456) (v := 20) B d_Model_shippedField_456 (by decide) ?_
            refine mv_callSi (pc := 458) (n := 3) B (mK_ok sk sv) hNs (c_Model_piece l hi _ _ _ _) rfl (ma_goodc kc_Model_piece) (B.2.2.2.1 _ k_2360) (B.2.2.2.1 _ k_2361) (B.2.2.2.1 _ k_12) ⟨by decide +kernel, by decide +kernel, by decide +kernel⟩ rfl d_Model_shippedField_458 rfl (Nat.le_of_ble_eq_true rfl) ⟨by decide, by decide⟩ ⟨by decide, by decide⟩ ⟨by decide, by decide⟩ (mv_noH hno _) (fun v458 σ458 h458 => ?_)
            obtain ⟨e458, z458⟩ := h458
            have e458 := e458.symm
            subst e458
            clear z458
            refine mv_i2l (pc := 461) B d_Model_shippedField_461 ?_
            refine mv_goto (pc := 462) (tgt := 468) B d_Model_shippedField_462 rfl ?_
            exact mv_lret (pc := 468) B hr d_Model_shippedField_468 (Nat.le_refl _) (Nat.le_refl _) ⟨_, rfl, rfl⟩
        · skip
          refine mv_iload_n (pc := 436) B d_Model_shippedField_436 rfl 6 rfl ?_
          refine mv_bipush (pc := 437) (v := 11) B d_Model_shippedField_437 (by decide) ?_
          refine mv_bipush (pc := 439) (v := 8) B d_Model_shippedField_439 (by decide) ?_
          refine mv_callSi (pc := 441) (n := 3) B (mK_ok sk sv) hNs (c_Model_piece l hi _ _ _ _) rfl (ma_goodc kc_Model_piece) (B.2.2.2.1 _ k_2360) (B.2.2.2.1 _ k_2361) (B.2.2.2.1 _ k_12) ⟨by decide +kernel, by decide +kernel, by decide +kernel⟩ rfl d_Model_shippedField_441 rfl (Nat.le_of_ble_eq_true rfl) ⟨by decide, by decide⟩ ⟨by decide, by decide⟩ ⟨by decide, by decide⟩ (mv_noH hno _) (fun v441 σ441 h441 => ?_)
          obtain ⟨e441, z441⟩ := h441
          have e441 := e441.symm
          subst e441
          clear z441
          refine mv_i2l (pc := 444) B d_Model_shippedField_444 ?_
          refine mv_goto (pc := 445) (tgt := 468) B d_Model_shippedField_445 rfl ?_
          exact mv_lret (pc := 468) B hr d_Model_shippedField_468 (Nat.le_refl _) (Nat.le_refl _) ⟨_, rfl, rfl⟩
      refine ⟨fun h87 => ?_, fun h87n100 => ?_⟩
      · skip
        refine mv_iload_n (pc := 180) B d_Model_shippedField_180 rfl 3 rfl ?_
        refine mv_if_ne (pc := 181) (tgt := 189) B d_Model_shippedField_181 rfl (fun h181 => ?_) (fun h181 => ?_)
        · skip
          refine mv_ldc2 (pc := 189) (v := -1) B (B.2.2.2.1 _ k_2396) d_Model_shippedField_189 ?_
          refine mv_goto (pc := 192) (tgt := 204) B d_Model_shippedField_192 rfl ?_
          exact mv_lret (pc := 204) B hr d_Model_shippedField_204 (Nat.le_refl _) (Nat.le_refl _) ⟨_, rfl, rfl⟩
        · skip
          refine mv_iload (pc := 184) B d_Model_shippedField_184 2 rfl ?_
          refine mv_if_eq (pc := 186) (tgt := 195) B d_Model_shippedField_186 rfl (fun h186 => ?_) (fun h186 => ?_)
          · skip
            refine mv_iload_n (pc := 195) B d_Model_shippedField_195 rfl 6 rfl ?_
            refine mv_bipush (pc := 196) (v := 11) B d_Model_shippedField_196 (by decide) ?_
            refine mv_bipush (pc := 198) (v := 7) B d_Model_shippedField_198 (by decide) ?_
            refine mv_callSi (pc := 200) (n := 3) B (mK_ok sk sv) hNs (c_Model_piece l hi _ _ _ _) rfl (ma_goodc kc_Model_piece) (B.2.2.2.1 _ k_2360) (B.2.2.2.1 _ k_2361) (B.2.2.2.1 _ k_12) ⟨by decide +kernel, by decide +kernel, by decide +kernel⟩ rfl d_Model_shippedField_200 rfl (Nat.le_of_ble_eq_true rfl) ⟨by decide, by decide⟩ ⟨by decide, by decide⟩ ⟨by decide, by decide⟩ (mv_noH hno _) (fun v200 σ200 h200 => ?_)
            obtain ⟨e200, z200⟩ := h200
            have e200 := e200.symm
            subst e200
            clear z200
            refine mv_i2l (pc := 203) B d_Model_shippedField_203 ?_
            exact mv_lret (pc := 204) B hr d_Model_shippedField_204 (Nat.le_refl _) (Nat.le_refl _) ⟨_, rfl, rfl⟩
          · skip
            refine mv_ldc2 (pc := 189) (v := -1) B (B.2.2.2.1 _ k_2396) d_Model_shippedField_189 ?_
            refine mv_goto (pc := 192) (tgt := 204) B d_Model_shippedField_192 rfl ?_
            exact mv_lret (pc := 204) B hr d_Model_shippedField_204 (Nat.le_refl _) (Nat.le_refl _) ⟨_, rfl, rfl⟩
      refine ⟨fun h87 => ?_, fun h87n101 => ?_⟩
      · skip
        refine mv_iload_n (pc := 469) B d_Model_shippedField_469 rfl 3 rfl ?_
        refine mv_if_eq (pc := 470) (tgt := 485) B d_Model_shippedField_470 rfl (fun h470 => ?_) (fun h470 => ?_)
        · skip
          refine mv_iload_n (pc := 485) B d_Model_shippedField_485 rfl 4 rfl ?_
          refine mv_iconst (pc := 486) (v := 2) B d_Model_shippedField_486 (by decide) ?_
          refine mv_icmp_ne (pc := 487) (tgt := 502) B d_Model_shippedField_487 rfl (fun h487 => ?_) (fun h487 => ?_)
          · skip
            refine mv_ldc2 (pc := 502) (v := -1) B (B.2.2.2.1 _ k_2396) d_Model_shippedField_502 ?_
            exact mv_lret (pc := 505) B hr d_Model_shippedField_505 (Nat.le_refl _) (Nat.le_refl _) ⟨_, rfl, rfl⟩
          · skip
            refine mv_iload_n (pc := 490) B d_Model_shippedField_490 rfl 6 rfl ?_
            refine mv_bipush (pc := 491) (v := 19) B d_Model_shippedField_491 (by decide) ?_
            refine mv_bipush (pc := 493) (v := 12) B d_Model_shippedField_493 (by decide) ?_
            refine mv_callSi (pc := 495) (n := 3) B (mK_ok sk sv) hNs (c_Model_piece l hi _ _ _ _) rfl (ma_goodc kc_Model_piece) (B.2.2.2.1 _ k_2360) (B.2.2.2.1 _ k_2361) (B.2.2.2.1 _ k_12) ⟨by decide +kernel, by decide +kernel, by decide +kernel⟩ rfl d_Model_shippedField_495 rfl (Nat.le_of_ble_eq_true rfl) ⟨by decide, by decide⟩ ⟨by decide, by decide⟩ ⟨by decide, by decide⟩ (mv_noH hno _) (fun v495 σ495 h495 => ?_)
            obtain ⟨e495, z495⟩ := h495
            have e495 := e495.symm
            subst e495
            clear z495
            refine mv_i2l (pc := 498) B d_Model_shippedField_498 ?_
            refine mv_goto (pc := 499) (tgt := 505) B d_Model_shippedField_499 rfl ?_
            exact mv_lret (pc := 505) B hr d_Model_shippedField_505 (Nat.le_refl _) (Nat.le_refl _) ⟨_, rfl, rfl⟩
        · skip
          refine mv_iload_n (pc := 473) B d_Model_shippedField_473 rfl 6 rfl ?_
          refine mv_bipush (pc := 474) (v := 7) B d_Model_shippedField_474 (by decide) ?_
          refine mv_bipush (pc := 476) (v := 7) B d_Model_shippedField_476 (by decide) ?_
          refine mv_callSi (pc := 478) (n := 3) B (mK_ok sk sv) hNs (c_Model_piece l hi _ _ _ _) rfl (ma_goodc kc_Model_piece) (B.2.2.2.1 _ k_2360) (B.2.2.2.1 _ k_2361) (B.2.2.2.1 _ k_12) ⟨by decide +kernel, by decide +kernel, by decide +kernel⟩ rfl d_Model_shippedField_478 rfl (Nat.le_of_ble_eq_true rfl) ⟨by decide, by decide⟩ ⟨by decide, by decide⟩ ⟨by decide, by decide⟩ (mv_noH hno _) (fun v478 σ478 h478 => ?_)
          obtain ⟨e478, z478⟩ := h478
          have e478 := e478.symm
          subst e478
          clear z478
          refine mv_i2l (pc := 481) B d_Model_shippedField_481 ?_
          refine mv_goto (pc := 482) (tgt := 505) B d_Model_shippedField_482 rfl ?_
          exact mv_lret (pc := 505) B hr d_Model_shippedField_505 (Nat.le_refl _) (Nat.le_refl _) ⟨_, rfl, rfl⟩
      refine ⟨fun h87 => ?_, fun h87n102 => ?_⟩
      · skip
        refine mv_ldc2 (pc := 506) (v := -1) B (B.2.2.2.1 _ k_2396) d_Model_shippedField_506 ?_
        exact mv_lret (pc := 509) B hr d_Model_shippedField_509 (Nat.le_refl _) (Nat.le_refl _) ⟨_, rfl, rfl⟩
      refine ⟨fun h87 => ?_, fun h87n103 => ?_⟩
      · skip
        refine mv_ldc2 (pc := 506) (v := -1) B (B.2.2.2.1 _ k_2396) d_Model_shippedField_506 ?_
        exact mv_lret (pc := 509) B hr d_Model_shippedField_509 (Nat.le_refl _) (Nat.le_refl _) ⟨_, rfl, rfl⟩
      refine ⟨fun h87 => ?_, fun h87n104 => ?_⟩
      · skip
        refine mv_iload_n (pc := 344) B d_Model_shippedField_344 rfl 4 rfl ?_
        refine mv_i2l (pc := 345) B d_Model_shippedField_345 ?_
        refine mv_ldc2 (pc := 346) (v := 24) B (B.2.2.2.1 _ k_2401) d_Model_shippedField_346 ?_
        refine mv_ldc2 (pc := 349) (v := 26) B (B.2.2.2.1 _ k_2402) d_Model_shippedField_349 ?_
        refine mv_callSi (pc := 352) (n := 3) B (mK_ok sk sv) hNs (c_Model_in l hi _ _ _ _) rfl (ma_goodc kc_Model_in) (B.2.2.2.1 _ k_2391) (B.2.2.2.1 _ k_2208) (B.2.2.2.1 _ k_12) ⟨by decide +kernel, by decide +kernel, by decide +kernel⟩ rfl d_Model_shippedField_352 rfl (Nat.le_of_ble_eq_true rfl) ⟨by decide, by decide⟩ ⟨by decide, by decide⟩ ⟨by decide, by decide⟩ (mv_noH hno _) (fun v352 σ352 h352 => ?_)
        obtain ⟨e352, z352⟩ := h352
        have e352 := e352.symm
        subst e352
        clear z352
        refine mv_if_eq (pc := 355) (tgt := 370) B d_Model_shippedField_355 rfl (fun h355 => ?_) (fun h355 => ?_)
        · skip
          refine mv_ldc2 (pc := 370) (v := -1) B (B.2.2.2.1 _ k_2396) d_Model_shippedField_370 ?_
          exact mv_lret (pc := 373) B hr d_Model_shippedField_373 (Nat.le_refl _) (Nat.le_refl _) ⟨_, rfl, rfl⟩
        · skip
          refine mv_iload_n (pc := 358) B d_Model_shippedField_358 rfl 6 rfl ?_
          refine mv_bipush (pc := 359) (v := 24) B d_Model_shippedField_359 (by decide) ?_
          refine mv_bipush (pc := 361) (v := 20) B d_Model_shippedField_361 (by decide) ?_
          refine mv_callSi (pc := 363) (n := 3) B (mK_ok sk sv) hNs (c_Model_piece l hi _ _ _ _) rfl (ma_goodc kc_Model_piece) (B.2.2.2.1 _ k_2360) (B.2.2.2.1 _ k_2361) (B.2.2.2.1 _ k_12) ⟨by decide +kernel, by decide +kernel, by decide +kernel⟩ rfl d_Model_shippedField_363 rfl (Nat.le_of_ble_eq_true rfl) ⟨by decide, by decide⟩ ⟨by decide, by decide⟩ ⟨by decide, by decide⟩ (mv_noH hno _) (fun v363 σ363 h363 => ?_)
          obtain ⟨e363, z363⟩ := h363
          have e363 := e363.symm
          subst e363
          clear z363
          refine mv_i2l (pc := 366) B d_Model_shippedField_366 ?_
          refine mv_goto (pc := 367) (tgt := 373) B d_Model_shippedField_367 rfl ?_
          exact mv_lret (pc := 373) B hr d_Model_shippedField_373 (Nat.le_refl _) (Nat.le_refl _) ⟨_, rfl, rfl⟩
      refine ⟨fun h87 => ?_, fun h87n105 => ?_⟩
      · skip
        refine mv_iload (pc := 256) B d_Model_shippedField_256 1 rfl ?_
        refine mv_if_eq (pc := 258) (tgt := 267) B d_Model_shippedField_258 rfl (fun h258 => ?_) (fun h258 => ?_)
        · skip
          refine mv_iload (pc := 267) B d_Model_shippedField_267 2 rfl ?_
          refine mv_if_eq (pc := 269) (tgt := 278) B d_Model_shippedField_269 rfl (fun h269 => ?_) (fun h269 => ?_)
          · skip
            refine mv_iload_n (pc := 278) B d_Model_shippedField_278 rfl 4 rfl ?_
            refine mv_iconst (pc := 279) (v := 3) B d_Model_shippedField_279 (by decide) ?_
            refine mv_icmp_eq (pc := 280) (tgt := 311) B d_Model_shippedField_280 rfl (fun h280 => ?_) (fun h280 => ?_)
            · skip
              refine mv_iload_n (pc := 311) B d_Model_shippedField_311 rfl 6 rfl ?_
              refine mv_bipush (pc := 312) (v := 20) B d_Model_shippedField_312 (by decide) ?_
              refine mv_iushr (pc := 314) B d_Model_shippedField_314 ?_
              refine mv_i2l (pc := 315) B d_Model_shippedField_315 ?_
              refine mv_goto (pc := 316) (tgt := 322) B d_Model_shippedField_316 rfl ?_
              exact mv_lret (pc := 322) B hr d_Model_shippedField_322 (Nat.le_refl _) (Nat.le_refl _) ⟨_, rfl, rfl⟩
            · skip
              refine mv_iload_n (pc := 283) B d_Model_shippedField_283 rfl 4 rfl ?_
              refine mv_i2l (pc := 284) B d_Model_shippedField_284 ?_
              refine mv_ldc2 (pc := 285) (v := 10) B (B.2.2.2.1 _ k_2397) d_Model_shippedField_285 ?_
              refine mv_ldc2 (pc := 288) (v := 14) B (B.2.2.2.1 _ k_2398) d_Model_shippedField_288 ?_
              refine mv_callSi (pc := 291) (n := 3) B (mK_ok sk sv) hNs (c_Model_in l hi _ _ _ _) rfl (ma_goodc kc_Model_in) (B.2.2.2.1 _ k_2391) (B.2.2.2.1 _ k_2208) (B.2.2.2.1 _ k_12) ⟨by decide +kernel, by decide +kernel, by decide +kernel⟩ rfl d_Model_shippedField_291 rfl (Nat.le_of_ble_eq_true rfl) ⟨by decide, by decide⟩ ⟨by decide, by decide⟩ ⟨by decide, by decide⟩ (mv_noH hno _) (fun v291 σ291 h291 => ?_)
              obtain ⟨e291, z291⟩ := h291
              have e291 := e291.symm
              subst e291
              clear z291
              refine mv_if_ne (pc := 294) (tgt := 311) B d_Model_shippedField_294 rfl (fun h294 => ?_) (fun h294 => ?_)
              · skip
                refine mv_iload_n (pc := 311) B d_Model_shippedField_311 rfl 6 rfl ?_
                refine mv_bipush (pc := 312) (v := 20) B d_Model_shippedField_312 (by decide) ?_
                refine mv_iushr (pc := 314) B d_Model_shippedField_314 ?_
                refine mv_i2l (pc := 315) B d_Model_shippedField_315 ?_
                refine mv_goto (pc := 316) (tgt := 322) B d_Model_shippedField_316 rfl ?_
                exact mv_lret (pc := 322) B hr d_Model_shippedField_322 (Nat.le_refl _) (Nat.le_refl _) ⟨_, rfl, rfl⟩
              · skip
                refine mv_iload_n (pc := 297) B d_Model_shippedField_297 rfl 4 rfl ?_
                refine mv_i2l (pc := 298) B d_Model_shippedField_298 ?_
                refine mv_ldc2 (pc := 299) (v := 18) B (B.2.2.2.1 _ k_2399) d_Model_shippedField_299 ?_
                refine mv_ldc2 (pc := 302) (v := 23) B (B.2.2.2.1 _ k_2400) d_Model_shippedField_302 ?_
                refine mv_callSi (pc := 305) (n := 3) B (mK_ok sk sv) hNs (c_Model_in l hi _ _ _ _) rfl (ma_goodc kc_Model_in) (B.2.2.2.1 _ k_2391) (B.2.2.2.1 _ k_2208) (B.2.2.2.1 _ k_12) ⟨by decide +kernel, by decide +kernel, by decide +kernel⟩ rfl d_Model_shippedField_305 rfl (Nat.le_of_ble_eq_true rfl) ⟨by decide, by decide⟩ ⟨by decide, by decide⟩ ⟨by decide, by decide⟩ (mv_noH hno _) (fun v305 σ305 h305 => ?_)
                obtain ⟨e305, z305⟩ := h305
                have e305 := e305.symm
                subst e305
                clear z305
                refine mv_if_eq (pc := 308) (tgt := 319) B d_Model_shippedField_308 rfl (fun h308 => ?_) (fun h308 => ?_)
                · skip
                  refine mv_ldc2 (pc := 319) (v := -1) B (B.2.2.2.1 _ k_2396) d_Model_shippedField_319 ?_
                  exact mv_lret (pc := 322) B hr d_Model_shippedField_322 (Nat.le_refl _) (Nat.le_refl _) ⟨_, rfl, rfl⟩
                · skip
                  refine mv_iload_n (pc := 311) B d_Model_shippedField_311 rfl 6 rfl ?_
                  refine mv_bipush (pc := 312) (v := 20) B d_Model_shippedField_312 (by decide) ?_
                  refine mv_iushr (pc := 314) B d_Model_shippedField_314 ?_
                  refine mv_i2l (pc := 315) B d_Model_shippedField_315 ?_
                  refine mv_goto (pc := 316) (tgt := 322) B d_Model_shippedField_316 rfl ?_
                  exact mv_lret (pc := 322) B hr d_Model_shippedField_322 (Nat.le_refl _) (Nat.le_refl _) ⟨_, rfl, rfl⟩
          · skip
            refine mv_iload_n (pc := 272) B d_Model_shippedField_272 rfl 6 rfl ?_
            refine mv_bipush (pc := 273) (v := 25) B d_Model_shippedField_273 (by decide) ?_
            refine mv_iushr (pc := 275) B d_Model_shippedField_275 ?_
            refine mv_i2l (pc := 276) B d_Model_shippedField_276 ?_
            exact mv_lret (pc := 277) B hr d_Model_shippedField_277 (Nat.le_refl _) (Nat.le_refl _) ⟨_, rfl, rfl⟩
        · skip
          refine mv_iload_n (pc := 261) B d_Model_shippedField_261 rfl 6 rfl ?_
          refine mv_bipush (pc := 262) (v := 12) B d_Model_shippedField_262 (by decide) ?_
          refine mv_iushr (pc := 264) B d_Model_shippedField_264 ?_
          refine mv_i2l (pc := 265) B d_Model_shippedField_265 ?_
          exact mv_lret (pc := 266) B hr d_Model_shippedField_266 (Nat.le_refl _) (Nat.le_refl _) ⟨_, rfl, rfl⟩
      refine ⟨fun h87 => ?_, fun h87n106 => ?_⟩
      · skip
        refine mv_iload (pc := 323) B d_Model_shippedField_323 2 rfl ?_
        refine mv_if_eq (pc := 325) (tgt := 340) B d_Model_shippedField_325 rfl (fun h325 => ?_) (fun h325 => ?_)
        · skip
          refine mv_ldc2 (pc := 340) (v := -1) B (B.2.2.2.1 _ k_2396) d_Model_shippedField_340 ?_
          exact mv_lret (pc := 343) B hr d_Model_shippedField_343 (Nat.le_refl _) (Nat.le_refl _) ⟨_, rfl, rfl⟩
        · skip
          refine mv_iload_n (pc := 328) B d_Model_shippedField_328 rfl 6 rfl ?_
          refine mv_bipush (pc := 329) (v := 11) B d_Model_shippedField_329 (by decide) ?_
          refine mv_bipush (pc := 331) (v := 7) B d_Model_shippedField_331 (by decide) ?_
          refine mv_callSi (pc := 333) (n := 3) B (mK_ok sk sv) hNs (c_Model_piece l hi _ _ _ _) rfl (ma_goodc kc_Model_piece) (B.2.2.2.1 _ k_2360) (B.2.2.2.1 _ k_2361) (B.2.2.2.1 _ k_12) ⟨by decide +kernel, by decide +kernel, by decide +kernel⟩ rfl d_Model_shippedField_333 rfl (Nat.le_of_ble_eq_true rfl) ⟨by decide, by decide⟩ ⟨by decide, by decide⟩ ⟨by decide, by decide⟩ (mv_noH hno _) (fun v333 σ333 h333 => ?_)
          obtain ⟨e333, z333⟩ := h333
          have e333 := e333.symm
          subst e333
          clear z333
          refine mv_i2l (pc := 336) B d_Model_shippedField_336 ?_
          refine mv_goto (pc := 337) (tgt := 343) B d_Model_shippedField_337 rfl ?_
          exact mv_lret (pc := 343) B hr d_Model_shippedField_343 (Nat.le_refl _) (Nat.le_refl _) ⟨_, rfl, rfl⟩
      refine ⟨fun h87 => ?_, fun h87n107 => ?_⟩
      · skip
        refine mv_ldc2 (pc := 506) (v := -1) B (B.2.2.2.1 _ k_2396) d_Model_shippedField_506 ?_
        exact mv_lret (pc := 509) B hr d_Model_shippedField_509 (Nat.le_refl _) (Nat.le_refl _) ⟨_, rfl, rfl⟩
      refine ⟨fun h87 => ?_, fun h87n108 => ?_⟩
      · skip
        refine mv_ldc2 (pc := 506) (v := -1) B (B.2.2.2.1 _ k_2396) d_Model_shippedField_506 ?_
        exact mv_lret (pc := 509) B hr d_Model_shippedField_509 (Nat.le_refl _) (Nat.le_refl _) ⟨_, rfl, rfl⟩
      refine ⟨fun h87 => ?_, fun h87n109 => ?_⟩
      · skip
        refine mv_ldc2 (pc := 506) (v := -1) B (B.2.2.2.1 _ k_2396) d_Model_shippedField_506 ?_
        exact mv_lret (pc := 509) B hr d_Model_shippedField_509 (Nat.le_refl _) (Nat.le_refl _) ⟨_, rfl, rfl⟩
      refine ⟨fun h87 => ?_, fun h87n110 => ?_⟩
      · skip
        refine mv_ldc2 (pc := 506) (v := -1) B (B.2.2.2.1 _ k_2396) d_Model_shippedField_506 ?_
        exact mv_lret (pc := 509) B hr d_Model_shippedField_509 (Nat.le_refl _) (Nat.le_refl _) ⟨_, rfl, rfl⟩
      refine ⟨fun h87 => ?_, fun h87n111 => ?_⟩
      · skip
        refine mv_ldc2 (pc := 506) (v := -1) B (B.2.2.2.1 _ k_2396) d_Model_shippedField_506 ?_
        exact mv_lret (pc := 509) B hr d_Model_shippedField_509 (Nat.le_refl _) (Nat.le_refl _) ⟨_, rfl, rfl⟩
      refine ⟨fun h87 => ?_, fun h87n112 => ?_⟩
      · skip
        refine mv_ldc2 (pc := 506) (v := -1) B (B.2.2.2.1 _ k_2396) d_Model_shippedField_506 ?_
        exact mv_lret (pc := 509) B hr d_Model_shippedField_509 (Nat.le_refl _) (Nat.le_refl _) ⟨_, rfl, rfl⟩
      refine ⟨fun h87 => ?_, fun h87n113 => ?_⟩
      · skip
        refine mv_ldc2 (pc := 506) (v := -1) B (B.2.2.2.1 _ k_2396) d_Model_shippedField_506 ?_
        exact mv_lret (pc := 509) B hr d_Model_shippedField_509 (Nat.le_refl _) (Nat.le_refl _) ⟨_, rfl, rfl⟩
      refine ⟨fun h87 => ?_, fun h87n114 => ?_⟩
      · skip
        refine mv_ldc2 (pc := 506) (v := -1) B (B.2.2.2.1 _ k_2396) d_Model_shippedField_506 ?_
        exact mv_lret (pc := 509) B hr d_Model_shippedField_509 (Nat.le_refl _) (Nat.le_refl _) ⟨_, rfl, rfl⟩
      refine ⟨fun h87 => ?_, fun h87n115 => ?_⟩
      · skip
        refine mv_iload_n (pc := 205) B d_Model_shippedField_205 rfl 4 rfl ?_
        refine mv_iconst (pc := 206) (v := 3) B d_Model_shippedField_206 (by decide) ?_
        refine mv_icmp_ge (pc := 207) (tgt := 216) B d_Model_shippedField_207 rfl (fun h207 => ?_) (fun h207 => ?_)
        · skip
          refine mv_iload_n (pc := 216) B d_Model_shippedField_216 rfl 6 rfl ?_
          refine mv_bipush (pc := 217) (v := 19) B d_Model_shippedField_217 (by decide) ?_
          refine mv_bipush (pc := 219) (v := 15) B d_Model_shippedField_219 (by decide) ?_
          refine mv_callSi (pc := 221) (n := 3) B (mK_ok sk sv) hNs (c_Model_piece l hi _ _ _ _) rfl (ma_goodc kc_Model_piece) (B.2.2.2.1 _ k_2360) (B.2.2.2.1 _ k_2361) (B.2.2.2.1 _ k_12) ⟨by decide +kernel, by decide +kernel, by decide +kernel⟩ rfl d_Model_shippedField_221 rfl (Nat.le_of_ble_eq_true rfl) ⟨by decide, by decide⟩ ⟨by decide, by decide⟩ ⟨by decide, by decide⟩ (mv_noH hno _) (fun v221 σ221 h221 => ?_)
          obtain ⟨e221, z221⟩ := h221
          have e221 := e221.symm
          subst e221
          clear z221
          refine mv_i2l (pc := 224) B d_Model_shippedField_224 ?_
          exact mv_lret (pc := 225) B hr d_Model_shippedField_225 (Nat.le_refl _) (Nat.le_refl _) ⟨_, rfl, rfl⟩
        · skip
          refine mv_ldc2 (pc := 210) (v := -1) B (B.2.2.2.1 _ k_2396) d_Model_shippedField_210 ?_
          refine mv_goto (pc := 213) (tgt := 225) B d_Model_shippedField_213 rfl ?_
          exact mv_lret (pc := 225) B hr d_Model_shippedField_225 (Nat.le_refl _) (Nat.le_refl _) ⟨_, rfl, rfl⟩
      refine ⟨fun h87 => ?_, fun h87n116 => ?_⟩
      · skip
        refine mv_iload_n (pc := 226) B d_Model_shippedField_226 rfl 3 rfl ?_
        refine mv_if_ne (pc := 227) (tgt := 240) B d_Model_shippedField_227 rfl (fun h227 => ?_) (fun h227 => ?_)
        · skip
          refine mv_iload_n (pc := 240) B d_Model_shippedField_240 rfl 6 rfl ?_
          refine mv_bipush (pc := 241) (v := 24) B d_Model_shippedField_241 (by decide) ?_
          refine mv_bipush (pc := 243) (v := 20) B d_Model_shippedField_243 (by decide) ?_
          refine mv_callSi (pc := 245) (n := 3) B (mK_ok sk sv) hNs (c_Model_piece l hi _ _ _ _) rfl (ma_goodc kc_Model_piece) (B.2.2.2.1 _ k_2360) (B.2.2.2.1 _ k_2361) (B.2.2.2.1 _ k_12) ⟨by decide +kernel, by decide +kernel, by decide +kernel⟩ rfl d_Model_shippedField_245 rfl (Nat.le_of_ble_eq_true rfl) ⟨by decide, by decide⟩ ⟨by decide, by decide⟩ ⟨by decide, by decide⟩ (mv_noH hno _) (fun v245 σ245 h245 => ?_)
          obtain ⟨e245, z245⟩ := h245
          have e245 := e245.symm
          subst e245
          clear z245
          refine mv_i2l (pc := 248) B d_Model_shippedField_248 ?_
          refine mv_goto (pc := 249) (tgt := 255) B d_Model_shippedField_249 rfl ?_
          exact mv_lret (pc := 255) B hr d_Model_shippedField_255 (Nat.le_refl _) (Nat.le_refl _) ⟨_, rfl, rfl⟩
        · skip
          refine mv_iload (pc := 230) B d_Model_shippedField_230 2 rfl ?_
          refine mv_if_ne (pc := 232) (tgt := 240) B d_Model_shippedField_232 rfl (fun h232 => ?_) (fun h232 => ?_)
          · skip
            refine mv_iload_n (pc := 240) B d_Model_shippedField_240 rfl 6 rfl ?_
            refine mv_bipush (pc := 241) (v := 24) B d_Model_shippedField_241 (by decide) ?_
            refine mv_bipush (pc := 243) (v := 20) B d_Model_shippedField_243 (by decide) ?_
            refine mv_callSi (pc := 245) (n := 3) B (mK_ok sk sv) hNs (c_Model_piece l hi _ _ _ _) rfl (ma_goodc kc_Model_piece) (B.2.2.2.1 _ k_2360) (B.2.2.2.1 _ k_2361) (B.2.2.2.1 _ k_12) ⟨by decide +kernel, by decide +kernel, by decide +kernel⟩ rfl d_Model_shippedField_245 rfl (Nat.le_of_ble_eq_true rfl) ⟨by decide, by decide⟩ ⟨by decide, by decide⟩ ⟨by decide, by decide⟩ (mv_noH hno _) (fun v245 σ245 h245 => ?_)
            obtain ⟨e245, z245⟩ := h245
            have e245 := e245.symm
            subst e245
            clear z245
            refine mv_i2l (pc := 248) B d_Model_shippedField_248 ?_
            refine mv_goto (pc := 249) (tgt := 255) B d_Model_shippedField_249 rfl ?_
            exact mv_lret (pc := 255) B hr d_Model_shippedField_255 (Nat.le_refl _) (Nat.le_refl _) ⟨_, rfl, rfl⟩
          · skip
            refine mv_iload (pc := 235) B d_Model_shippedField_235 0 rfl ?_
            refine mv_if_eq (pc := 237) (tgt := 252) B d_Model_shippedField_237 rfl (fun h237 => ?_) (fun h237 => ?_)
            · skip
              refine mv_ldc2 (pc := 252) (v := -1) B (B.2.2.2.1 _ k_2396) d_Model_shippedField_252 ?_
              exact mv_lret (pc := 255) B hr d_Model_shippedField_255 (Nat.le_refl _) (Nat.le_refl _) ⟨_, rfl, rfl⟩
            · skip
              refine mv_iload_n (pc := 240) B d_Model_shippedField_240 rfl 6 rfl ?_
              refine mv_bipush (pc := 241) (v := 24) B d_Model_shippedField_241 (by decide) ?_
              refine mv_bipush (pc := 243) (v := 20) B d_Model_shippedField_243 (by decide) ?_
              refine mv_callSi (pc := 245) (n := 3) B (mK_ok sk sv) hNs (c_Model_piece l hi _ _ _ _) rfl (ma_goodc kc_Model_piece) (B.2.2.2.1 _ k_2360) (B.2.2.2.1 _ k_2361) (B.2.2.2.1 _ k_12) ⟨by decide +kernel, by decide +kernel, by decide +kernel⟩ rfl d_Model_shippedField_245 rfl (Nat.le_of_ble_eq_true rfl) ⟨by decide, by decide⟩ ⟨by decide, by decide⟩ ⟨by decide, by decide⟩ (mv_noH hno _) (fun v245 σ245 h245 => ?_)
              obtain ⟨e245, z245⟩ := h245
              have e245 := e245.symm
              subst e245
              clear z245
              refine mv_i2l (pc := 248) B d_Model_shippedField_248 ?_
              refine mv_goto (pc := 249) (tgt := 255) B d_Model_shippedField_249 rfl ?_
              exact mv_lret (pc := 255) B hr d_Model_shippedField_255 (Nat.le_refl _) (Nat.le_refl _) ⟨_, rfl, rfl⟩
      show mv_V _ _ _ _ _ _ _ _ _ _ _ _ _ _ _ _ 506 _ _
      refine mv_ldc2 (pc := 506) (v := -1) B (B.2.2.2.1 _ k_2396) d_Model_shippedField_506 ?_
      exact mv_lret (pc := 509) B hr d_Model_shippedField_509 (Nat.le_refl _) (Nat.le_refl _) ⟨_, rfl, rfl⟩
    · skip
      refine mv_ldc2 (pc := 82) (v := -1) B (B.2.2.2.1 _ k_2396) d_Model_shippedField_82 ?_
      exact mv_lret (pc := 85) B hr d_Model_shippedField_85 (Nat.le_refl _) (Nat.le_refl _) ⟨_, rfl, rfl⟩
  have j35 : ∀ (u9 : Int32) (s9 : Int32) (b9 : Int32) , mv_V p l e ({ frames := 1, cells := 0, slots := 0, locals := 25 }) s m ([.int o9, .int c9, .int w] : List Value).toArray below meth c (mg dA D al ext) 7 0 0 (mv_Q (mg dA D al ext) below s 0 0 (mv_Rl (fun v σ1 => σ1 = σ))) σ 35 [(4, .int s9), (3, .int b9), (0, .int o9), (1, .int c9), (2, .int w)] [.int u9] := by
    intro u9 s9 b9
    refine mv_istore (pc := 35) B d_Model_shippedField_35 (by decide) rfl ?_
    refine mv_iload_n (pc := 37) B d_Model_shippedField_37 rfl 3 rfl ?_
    refine mv_bipush (pc := 38) (v := 27) B d_Model_shippedField_38 (by decide) ?_
    refine mv_icmp_lt (pc := 40) (tgt := 65) B d_Model_shippedField_40 rfl (fun h40 => ?_) (fun h40 => ?_)
    · skip
      refine mv_iconst (pc := 65) (v := 0) B d_Model_shippedField_65 (by decide) ?_
      refine mv_lpick [0, 1, 2, 3, 4, 5] rfl ?_
      exact j66 _ _ _ _
    · skip
      refine mv_iload_n (pc := 43) B d_Model_shippedField_43 rfl 3 rfl ?_
      refine mv_bipush (pc := 44) (v := 37) B d_Model_shippedField_44 (by decide) ?_
      refine mv_icmp_eq (pc := 46) (tgt := 65) B d_Model_shippedField_46 rfl (fun h46 => ?_) (fun h46 => ?_)
      · skip
        refine mv_iconst (pc := 65) (v := 0) B d_Model_shippedField_65 (by decide) ?_
        refine mv_lpick [0, 1, 2, 3, 4, 5] rfl ?_
        exact j66 _ _ _ _
      · skip
        refine mv_iload_n (pc := 49) B d_Model_shippedField_49 rfl 3 rfl ?_
        refine mv_bipush (pc := 50) (v := 38) B d_Model_shippedField_50 (by decide) ?_
        refine mv_icmp_eq (pc := 52) (tgt := 65) B d_Model_shippedField_52 rfl (fun h52 => ?_) (fun h52 => ?_)
        · skip
          refine mv_iconst (pc := 65) (v := 0) B d_Model_shippedField_65 (by decide) ?_
          refine mv_lpick [0, 1, 2, 3, 4, 5] rfl ?_
          exact j66 _ _ _ _
        · skip
          refine mv_iload_n (pc := 55) B d_Model_shippedField_55 rfl 3 rfl ?_
          refine mv_bipush (pc := 56) (v := 39) B d_Model_shippedField_56 (by decide) ?_
          refine mv_icmp_eq (pc := 58) (tgt := 65) B d_Model_shippedField_58 rfl (fun h58 => ?_) (fun h58 => ?_)
          · skip
            refine mv_iconst (pc := 65) (v := 0) B d_Model_shippedField_65 (by decide) ?_
            refine mv_lpick [0, 1, 2, 3, 4, 5] rfl ?_
            exact j66 _ _ _ _
          · skip
            refine mv_iconst (pc := 61) (v := 1) B d_Model_shippedField_61 (by decide) ?_
            refine mv_goto (pc := 62) (tgt := 66) B d_Model_shippedField_62 rfl ?_
            refine mv_lpick [0, 1, 2, 3, 4, 5] rfl ?_
            exact j66 _ _ _ _
  refine mv_iload_n (pc := 0) B d_Model_shippedField_0 rfl 0 rfl ?_
  refine mv_i2l (pc := 1) B d_Model_shippedField_1 ?_
  refine mv_ldc2 (pc := 2) (v := 4) B (B.2.2.2.1 _ k_2389) d_Model_shippedField_2 ?_
  refine mv_ldc2 (pc := 5) (v := 9) B (B.2.2.2.1 _ k_2390) d_Model_shippedField_5 ?_
  refine mv_callSi (pc := 8) (n := 3) B (mK_ok sk sv) hNs (c_Model_in l hi _ _ _ _) rfl (ma_goodc kc_Model_in) (B.2.2.2.1 _ k_2391) (B.2.2.2.1 _ k_2208) (B.2.2.2.1 _ k_12) ⟨by decide +kernel, by decide +kernel, by decide +kernel⟩ rfl d_Model_shippedField_8 rfl (Nat.le_of_ble_eq_true rfl) ⟨by decide, by decide⟩ ⟨by decide, by decide⟩ ⟨by decide, by decide⟩ (mv_noH hno _) (fun v8 σ8 h8 => ?_)
  obtain ⟨e8, z8⟩ := h8
  have e8 := e8.symm
  subst e8
  clear z8
  refine mv_istore_n (pc := 11) B d_Model_shippedField_11 rfl (by decide) rfl ?_
  refine mv_iload_n (pc := 12) B d_Model_shippedField_12 rfl 1 rfl ?_
  refine mv_i2l (pc := 13) B d_Model_shippedField_13 ?_
  refine mv_ldc2 (pc := 14) (v := 15) B (B.2.2.2.1 _ k_2392) d_Model_shippedField_14 ?_
  refine mv_ldc2 (pc := 17) (v := 17) B (B.2.2.2.1 _ k_2393) d_Model_shippedField_17 ?_
  refine mv_callSi (pc := 20) (n := 3) B (mK_ok sk sv) hNs (c_Model_in l hi _ _ _ _) rfl (ma_goodc kc_Model_in) (B.2.2.2.1 _ k_2391) (B.2.2.2.1 _ k_2208) (B.2.2.2.1 _ k_12) ⟨by decide +kernel, by decide +kernel, by decide +kernel⟩ rfl d_Model_shippedField_20 rfl (Nat.le_of_ble_eq_true rfl) ⟨by decide, by decide⟩ ⟨by decide, by decide⟩ ⟨by decide, by decide⟩ (mv_noH hno _) (fun v20 σ20 h20 => ?_)
  obtain ⟨e20, z20⟩ := h20
  have e20 := e20.symm
  subst e20
  clear z20
  refine mv_istore (pc := 23) B d_Model_shippedField_23 (by decide) rfl ?_
  refine mv_iload_n (pc := 25) B d_Model_shippedField_25 rfl 2 rfl ?_
  refine mv_iconst (pc := 26) (v := 2) B d_Model_shippedField_26 (by decide) ?_
  refine mv_icmp_ge (pc := 27) (tgt := 34) B d_Model_shippedField_27 rfl (fun h27 => ?_) (fun h27 => ?_)
  · skip
    refine mv_iconst (pc := 34) (v := 0) B d_Model_shippedField_34 (by decide) ?_
    refine mv_lpick [0, 1, 2, 3, 4] rfl ?_
    exact j35 _ _ _
  · skip
    refine mv_iconst (pc := 30) (v := 1) B d_Model_shippedField_30 (by decide) ?_
    refine mv_goto (pc := 31) (tgt := 35) B d_Model_shippedField_31 rfl ?_
    refine mv_lpick [0, 1, 2, 3, 4] rfl ?_
    exact j35 _ _ _
def y_Model_shippedOpen : MethodName := ⟨"MachineLoomModel", "shippedOpen", "(I)I"⟩
abbrev b_Model_shippedOpen : ByteArray := prog_14_method_41_code
theorem kc_Model_shippedOpen : Cond.code y_Model_shippedOpen b_Model_shippedOpen 1 (Option.some Jvm.ClassFile.FieldType.int) ∈ ma := ma_of (tb_11 _ (List.mem_of_getElem? (i := 196) rfl)) rfl
theorem d_Model_shippedOpen_0 : decode b_Model_shippedOpen 0 = .ok (.iload_n 0, 1) := by decide +kernel
theorem d_Model_shippedOpen_1 : decode b_Model_shippedOpen 1 = .ok (.iconst 3, 1) := by decide +kernel
theorem d_Model_shippedOpen_2 : decode b_Model_shippedOpen 2 = .ok (.if_icmp .ge (6), 3) := by decide +kernel
theorem d_Model_shippedOpen_5 : decode b_Model_shippedOpen 5 = .ok (.bipush 25, 2) := by decide +kernel
theorem d_Model_shippedOpen_7 : decode b_Model_shippedOpen 7 = .ok (.ireturn, 1) := by decide +kernel
theorem d_Model_shippedOpen_8 : decode b_Model_shippedOpen 8 = .ok (.iload_n 0, 1) := by decide +kernel
theorem d_Model_shippedOpen_9 : decode b_Model_shippedOpen 9 = .ok (.bipush 37, 2) := by decide +kernel
theorem d_Model_shippedOpen_11 : decode b_Model_shippedOpen 11 = .ok (.if_icmp .ne (6), 3) := by decide +kernel
theorem d_Model_shippedOpen_14 : decode b_Model_shippedOpen 14 = .ok (.bipush 22, 2) := by decide +kernel
theorem d_Model_shippedOpen_16 : decode b_Model_shippedOpen 16 = .ok (.ireturn, 1) := by decide +kernel
theorem d_Model_shippedOpen_17 : decode b_Model_shippedOpen 17 = .ok (.iload_n 0, 1) := by decide +kernel
theorem d_Model_shippedOpen_18 : decode b_Model_shippedOpen 18 = .ok (.bipush 38, 2) := by decide +kernel
theorem d_Model_shippedOpen_20 : decode b_Model_shippedOpen 20 = .ok (.if_icmp .eq (9), 3) := by decide +kernel
theorem d_Model_shippedOpen_23 : decode b_Model_shippedOpen 23 = .ok (.iload_n 0, 1) := by decide +kernel
theorem d_Model_shippedOpen_24 : decode b_Model_shippedOpen 24 = .ok (.bipush 39, 2) := by decide +kernel
theorem d_Model_shippedOpen_26 : decode b_Model_shippedOpen 26 = .ok (.if_icmp .ne (5), 3) := by decide +kernel
theorem d_Model_shippedOpen_29 : decode b_Model_shippedOpen 29 = .ok (.iconst 0, 1) := by decide +kernel
theorem d_Model_shippedOpen_30 : decode b_Model_shippedOpen 30 = .ok (.ireturn, 1) := by decide +kernel
theorem d_Model_shippedOpen_31 : decode b_Model_shippedOpen 31 = .ok (.iload_n 0, 1) := by decide +kernel
theorem d_Model_shippedOpen_32 : decode b_Model_shippedOpen 32 = .ok (.bipush 24, 2) := by decide +kernel
theorem d_Model_shippedOpen_34 : decode b_Model_shippedOpen 34 = .ok (.if_icmp .ge (8), 3) := by decide +kernel
theorem d_Model_shippedOpen_37 : decode b_Model_shippedOpen 37 = .ok (.bipush 22, 2) := by decide +kernel
theorem d_Model_shippedOpen_39 : decode b_Model_shippedOpen 39 = .ok (.goto (5), 3) := by decide +kernel
theorem d_Model_shippedOpen_42 : decode b_Model_shippedOpen 42 = .ok (.bipush 15, 2) := by decide +kernel
theorem d_Model_shippedOpen_44 : decode b_Model_shippedOpen 44 = .ok (.ireturn, 1) := by decide +kernel
set_option maxHeartbeats 4000000 in
set_option maxRecDepth 100000 in
theorem c_Model_shippedOpen (l : Launch) {dA : FieldType → ClassId} {D : va_G} {al : Nat → Nat} {ext : mv_Sh} {sk sv : Nat → Nat} (hi : mv_inj (mg dA D al ext)) (σ : mv_H) (o9 : Int32) : mv_C l y_Model_shippedOpen (Cond.code y_Model_shippedOpen b_Model_shippedOpen 1 (Option.some Jvm.ClassFile.FieldType.int) :: ma) ({ frames := 0, cells := 0, slots := 0, locals := 0 }) (mg dA D al ext) (mK sk sv) [.int o9] σ (mv_Ri (fun v σ1 => σ1 = σ)) := by
  refine mv_C.ofV (cc := b_Model_shippedOpen) (nL := 1) (ret := (Option.some Jvm.ClassFile.FieldType.int)) (by decide +kernel) rfl hi (Nat.le_of_ble_eq_true rfl) ?_
  intro p e s m below meth c B hNs hr hnm hno
  refine mv_iload_n (pc := 0) B d_Model_shippedOpen_0 rfl 0 rfl ?_
  refine mv_iconst (pc := 1) (v := 3) B d_Model_shippedOpen_1 (by decide) ?_
  refine mv_icmp_ge (pc := 2) (tgt := 8) B d_Model_shippedOpen_2 rfl (fun h2 => ?_) (fun h2 => ?_)
  · skip
    refine mv_iload_n (pc := 8) B d_Model_shippedOpen_8 rfl 0 rfl ?_
    refine mv_bipush (pc := 9) (v := 37) B d_Model_shippedOpen_9 (by decide) ?_
    refine mv_icmp_ne (pc := 11) (tgt := 17) B d_Model_shippedOpen_11 rfl (fun h11 => ?_) (fun h11 => ?_)
    · skip
      refine mv_iload_n (pc := 17) B d_Model_shippedOpen_17 rfl 0 rfl ?_
      refine mv_bipush (pc := 18) (v := 38) B d_Model_shippedOpen_18 (by decide) ?_
      refine mv_icmp_eq (pc := 20) (tgt := 29) B d_Model_shippedOpen_20 rfl (fun h20 => ?_) (fun h20 => ?_)
      · skip
        refine mv_iconst (pc := 29) (v := 0) B d_Model_shippedOpen_29 (by decide) ?_
        exact mv_iret (pc := 30) B hr rfl d_Model_shippedOpen_30 (Nat.le_refl _) (Nat.le_refl _) ⟨_, rfl, rfl⟩
      · skip
        refine mv_iload_n (pc := 23) B d_Model_shippedOpen_23 rfl 0 rfl ?_
        refine mv_bipush (pc := 24) (v := 39) B d_Model_shippedOpen_24 (by decide) ?_
        refine mv_icmp_ne (pc := 26) (tgt := 31) B d_Model_shippedOpen_26 rfl (fun h26 => ?_) (fun h26 => ?_)
        · skip
          refine mv_iload_n (pc := 31) B d_Model_shippedOpen_31 rfl 0 rfl ?_
          refine mv_bipush (pc := 32) (v := 24) B d_Model_shippedOpen_32 (by decide) ?_
          refine mv_icmp_ge (pc := 34) (tgt := 42) B d_Model_shippedOpen_34 rfl (fun h34 => ?_) (fun h34 => ?_)
          · skip
            refine mv_bipush (pc := 42) (v := 15) B d_Model_shippedOpen_42 (by decide) ?_
            exact mv_iret (pc := 44) B hr rfl d_Model_shippedOpen_44 (Nat.le_refl _) (Nat.le_refl _) ⟨_, rfl, rfl⟩
          · skip
            refine mv_bipush (pc := 37) (v := 22) B d_Model_shippedOpen_37 (by decide) ?_
            refine mv_goto (pc := 39) (tgt := 44) B d_Model_shippedOpen_39 rfl ?_
            exact mv_iret (pc := 44) B hr rfl d_Model_shippedOpen_44 (Nat.le_refl _) (Nat.le_refl _) ⟨_, rfl, rfl⟩
        · skip
          refine mv_iconst (pc := 29) (v := 0) B d_Model_shippedOpen_29 (by decide) ?_
          exact mv_iret (pc := 30) B hr rfl d_Model_shippedOpen_30 (Nat.le_refl _) (Nat.le_refl _) ⟨_, rfl, rfl⟩
    · skip
      refine mv_bipush (pc := 14) (v := 22) B d_Model_shippedOpen_14 (by decide) ?_
      exact mv_iret (pc := 16) B hr rfl d_Model_shippedOpen_16 (Nat.le_refl _) (Nat.le_refl _) ⟨_, rfl, rfl⟩
  · skip
    refine mv_bipush (pc := 5) (v := 25) B d_Model_shippedOpen_5 (by decide) ?_
    exact mv_iret (pc := 7) B hr rfl d_Model_shippedOpen_7 (Nat.le_refl _) (Nat.le_refl _) ⟨_, rfl, rfl⟩
def y_Model_set : MethodName := ⟨"MachineLoomModel", "set", "(II)V"⟩
abbrev b_Model_set : ByteArray := prog_14_method_15_code
theorem kc_Model_set : Cond.code y_Model_set b_Model_set 3 (Option.none : Option Jvm.ClassFile.FieldType) ∈ ma := ma_of (tb_11 _ (List.mem_of_getElem? (i := 33) rfl)) rfl
theorem k_2052 : (Jvm.Cond.fieldLink "MachineLoomModel" (21 : Nat) "MachineLoomModel" "x" "[I") ∈ ma := ma_of (tb_9 _ (List.mem_of_getElem? (i := 132) rfl)) rfl
theorem d_Model_set_0 : decode b_Model_set 0 = .ok (.iload_n 1, 1) := by decide +kernel
theorem d_Model_set_1 : decode b_Model_set 1 = .ok (.ifCond .eq (10), 3) := by decide +kernel
theorem d_Model_set_4 : decode b_Model_set 4 = .ok (.aload_n 0, 1) := by decide +kernel
theorem d_Model_set_5 : decode b_Model_set 5 = .ok (.getfield 21, 3) := by decide +kernel
theorem d_Model_set_8 : decode b_Model_set 8 = .ok (.iload_n 1, 1) := by decide +kernel
theorem d_Model_set_9 : decode b_Model_set 9 = .ok (.iload_n 2, 1) := by decide +kernel
theorem d_Model_set_10 : decode b_Model_set 10 = .ok (.iastore, 1) := by decide +kernel
theorem d_Model_set_11 : decode b_Model_set 11 = .ok (.return_, 1) := by decide +kernel
set_option maxHeartbeats 4000000 in
set_option maxRecDepth 100000 in
theorem c_Model_set (l : Launch) {dA : FieldType → ClassId} {D : va_G} {al : Nat → Nat} {ext : mv_Sh} {sk sv : Nat → Nat} (hi : mv_inj (mg dA D al ext)) (σ : mv_H) (hmr : mh (mv_r σ)) (r9 v9 : Int32) (hr0 : 0 ≤ r9.toInt ∧ r9.toInt < 32) : mv_C l y_Model_set (Cond.code y_Model_set b_Model_set 3 (Option.none : Option Jvm.ClassFile.FieldType) :: ma) ({ frames := 0, cells := 0, slots := 0, locals := 0 }) (mg dA D al ext) (mK sk sv) [.ref (al 70), .int r9, .int v9] σ (mv_Rv (fun σ1 => SM σ σ1)) := by
  refine mv_C.ofV (cc := b_Model_set) (nL := 3) (ret := (Option.none : Option Jvm.ClassFile.FieldType)) (by decide +kernel) rfl hi (Nat.le_of_ble_eq_true rfl) ?_
  intro p e s m below meth c B hNs hr hnm hno
  refine mv_iload_n (pc := 0) B d_Model_set_0 rfl 1 rfl ?_
  refine mv_if_eq (pc := 1) (tgt := 11) B d_Model_set_1 rfl (fun h1 => ?_) (fun h1 => ?_)
  · skip
    exact mv_vret (pc := 11) B hr d_Model_set_11 (Nat.le_refl _) (Nat.le_refl _) ⟨rfl, by first | exact Fx.rf | exact SM.x Fx.rf⟩
  · skip
    refine mv_aload_n (pc := 4) B d_Model_set_4 rfl 0 rfl ?_
    refine mv_getR (pc := 5) (ci := 11) (C := R_Model) (T := F_Model) (N := 16) B 7 rfl rfl (by decide) i_Model (B.2.2.2.1 _ k_2052) rfl (hmr _ 7 _ rfl) d_Model_set_5 ?_
    refine mv_iload_n (pc := 8) B d_Model_set_8 rfl 1 rfl ?_
    refine mv_iload_n (pc := 9) B d_Model_set_9 rfl 2 rfl ?_
    refine mv_iast (pc := 10) B rfl (i32_in hr0.1 hr0.2) d_Model_set_10 ?_
    exact mv_vret (pc := 11) B hr d_Model_set_11 (Nat.le_refl _) (Nat.le_refl _) ⟨rfl, by first | exact Fx.rf | exact SM.x Fx.rf⟩
def y_Model_jump : MethodName := ⟨"MachineLoomModel", "jump", "(I)I"⟩
abbrev b_Model_jump : ByteArray := prog_14_method_16_code
theorem kc_Model_jump : Cond.code y_Model_jump b_Model_jump 2 (Option.some Jvm.ClassFile.FieldType.int) ∈ ma := ma_of (tb_11 _ (List.mem_of_getElem? (i := 61) rfl)) rfl
theorem k_2051 : (Jvm.Cond.fieldLink "MachineLoomModel" (59 : Nat) "MachineLoomModel" "pc" "I") ∈ ma := ma_of (tb_9 _ (List.mem_of_getElem? (i := 131) rfl)) rfl
theorem d_Model_jump_0 : decode b_Model_jump 0 = .ok (.iload_n 1, 1) := by decide +kernel
theorem d_Model_jump_1 : decode b_Model_jump 1 = .ok (.iconst 4, 1) := by decide +kernel
theorem d_Model_jump_2 : decode b_Model_jump 2 = .ok (.irem, 1) := by decide +kernel
theorem d_Model_jump_3 : decode b_Model_jump 3 = .ok (.ifCond .eq (5), 3) := by decide +kernel
theorem d_Model_jump_6 : decode b_Model_jump 6 = .ok (.iconst 1, 1) := by decide +kernel
theorem d_Model_jump_7 : decode b_Model_jump 7 = .ok (.ireturn, 1) := by decide +kernel
theorem d_Model_jump_8 : decode b_Model_jump 8 = .ok (.aload_n 0, 1) := by decide +kernel
theorem d_Model_jump_9 : decode b_Model_jump 9 = .ok (.iload_n 1, 1) := by decide +kernel
theorem d_Model_jump_10 : decode b_Model_jump 10 = .ok (.putfield 59, 3) := by decide +kernel
theorem d_Model_jump_13 : decode b_Model_jump 13 = .ok (.iconst 0, 1) := by decide +kernel
theorem d_Model_jump_14 : decode b_Model_jump 14 = .ok (.ireturn, 1) := by decide +kernel
set_option maxHeartbeats 4000000 in
set_option maxRecDepth 100000 in
theorem c_Model_jump (l : Launch) {dA : FieldType → ClassId} {D : va_G} {al : Nat → Nat} {ext : mv_Sh} {sk sv : Nat → Nat} (hi : mv_inj (mg dA D al ext)) (σ : mv_H) (t9 : Int32) : mv_C l y_Model_jump (Cond.code y_Model_jump b_Model_jump 2 (Option.some Jvm.ClassFile.FieldType.int) :: ma) ({ frames := 0, cells := 0, slots := 0, locals := 0 }) (mg dA D al ext) (mK sk sv) [.ref (al 70), .int t9] σ (mv_Ri (fun v σ1 => SM σ σ1)) := by
  refine mv_C.ofV (cc := b_Model_jump) (nL := 2) (ret := (Option.some Jvm.ClassFile.FieldType.int)) (by decide +kernel) rfl hi (Nat.le_of_ble_eq_true rfl) ?_
  intro p e s m below meth c B hNs hr hnm hno
  refine mv_iload_n (pc := 0) B d_Model_jump_0 rfl 1 rfl ?_
  refine mv_iconst (pc := 1) (v := 4) B d_Model_jump_1 (by decide) ?_
  refine mv_irem (pc := 2) B d_Model_jump_2 (by decide) ?_
  refine mv_if_eq (pc := 3) (tgt := 8) B d_Model_jump_3 rfl (fun h3 => ?_) (fun h3 => ?_)
  · skip
    refine mv_aload_n (pc := 8) B d_Model_jump_8 rfl 0 rfl ?_
    refine mv_iload_n (pc := 9) B d_Model_jump_9 rfl 1 rfl ?_
    refine mv_putI (pc := 10) (ci := 11) (C := R_Model) (T := F_Model) (N := 16) B 6 rfl rfl (by decide) i_Model t_Model_ok n_Model (B.2.2.2.1 _ k_2051) rfl rfl rfl rfl d_Model_jump_10 ?_
    refine mv_iconst (pc := 13) (v := 0) B d_Model_jump_13 (by decide) ?_
    exact mv_iret (pc := 14) B hr rfl d_Model_jump_14 (Nat.le_refl _) (Nat.le_refl _) ⟨_, rfl, SM.si Fx.rf (by decide)⟩
  · skip
    refine mv_iconst (pc := 6) (v := 1) B d_Model_jump_6 (by decide) ?_
    exact mv_iret (pc := 7) B hr rfl d_Model_jump_7 (Nat.le_refl _) (Nat.le_refl _) ⟨_, rfl, Fx.rf⟩
def y_Model_load : MethodName := ⟨"MachineLoomModel", "load", "(II)I"⟩
abbrev b_Model_load : ByteArray := prog_14_method_19_code
theorem kc_Model_load : Cond.code y_Model_load b_Model_load 7 (Option.some Jvm.ClassFile.FieldType.int) ∈ ma := ma_of (tb_11 _ (List.mem_of_getElem? (i := 75) rfl)) rfl
theorem k_2430 : (Jvm.Cond.methodLink "MachineLoomModel" (77 : Nat) ({ cls := "MachineLoomModel", name := "set", desc := "(II)V" } : Jvm.MethodName)) ∈ ma := ma_of (tb_11 _ (List.mem_of_getElem? (i := 30) rfl)) rfl
theorem k_2432 : (Jvm.Cond.instanceMethod ({ cls := "MachineLoomModel", name := "set", desc := "(II)V" } : Jvm.MethodName)) ∈ ma := ma_of (tb_11 _ (List.mem_of_getElem? (i := 32) rfl)) rfl
theorem ks_125 : Cond.selects "MachineLoomModel" ⟨"MachineLoomModel", "set", "(II)V"⟩ ⟨"MachineLoomModel", "set", "(II)V"⟩ ∈ ma := ma_sel 125 rfl rfl
theorem k_2053 : (Jvm.Cond.fieldLink "MachineLoomModel" (25 : Nat) "MachineLoomModel" "m" "[B") ∈ ma := ma_of (tb_9 _ (List.mem_of_getElem? (i := 133) rfl)) rfl
theorem k_2455 : (Jvm.Cond.methodLink "MachineLoomModel" (70 : Nat) ({ cls := "MachineLoomModel", name := "immI", desc := "(I)I" } : Jvm.MethodName)) ∈ ma := ma_of (tb_11 _ (List.mem_of_getElem? (i := 55) rfl)) rfl
theorem k_2456 : (Jvm.Cond.static ({ cls := "MachineLoomModel", name := "immI", desc := "(I)I" } : Jvm.MethodName)) ∈ ma := ma_of (tb_11 _ (List.mem_of_getElem? (i := 56) rfl)) rfl
theorem k_2476 : (Jvm.Cond.methodLink "MachineLoomModel" (74 : Nat) ({ cls := "MachineLoomModel", name := "inMemory", desc := "(II)Z" } : Jvm.MethodName)) ∈ ma := ma_of (tb_11 _ (List.mem_of_getElem? (i := 76) rfl)) rfl
theorem k_2477 : (Jvm.Cond.static ({ cls := "MachineLoomModel", name := "inMemory", desc := "(II)Z" } : Jvm.MethodName)) ∈ ma := ma_of (tb_11 _ (List.mem_of_getElem? (i := 77) rfl)) rfl
theorem d_Model_load_0 : decode b_Model_load 0 = .ok (.iload_n 1, 1) := by decide +kernel
theorem d_Model_load_1 : decode b_Model_load 1 = .ok (.bipush 10, 2) := by decide +kernel
theorem d_Model_load_3 : decode b_Model_load 3 = .ok (.if_icmp .eq (9), 3) := by decide +kernel
theorem d_Model_load_6 : decode b_Model_load 6 = .ok (.iload_n 1, 1) := by decide +kernel
theorem d_Model_load_7 : decode b_Model_load 7 = .ok (.bipush 13, 2) := by decide +kernel
theorem d_Model_load_9 : decode b_Model_load 9 = .ok (.if_icmp .ne (7), 3) := by decide +kernel
theorem d_Model_load_12 : decode b_Model_load 12 = .ok (.iconst 1, 1) := by decide +kernel
theorem d_Model_load_13 : decode b_Model_load 13 = .ok (.goto (14), 3) := by decide +kernel
theorem d_Model_load_16 : decode b_Model_load 16 = .ok (.iload_n 1, 1) := by decide +kernel
theorem d_Model_load_17 : decode b_Model_load 17 = .ok (.bipush 12, 2) := by decide +kernel
theorem d_Model_load_19 : decode b_Model_load 19 = .ok (.if_icmp .ne (7), 3) := by decide +kernel
theorem d_Model_load_22 : decode b_Model_load 22 = .ok (.iconst 4, 1) := by decide +kernel
theorem d_Model_load_23 : decode b_Model_load 23 = .ok (.goto (4), 3) := by decide +kernel
theorem d_Model_load_26 : decode b_Model_load 26 = .ok (.iconst 2, 1) := by decide +kernel
theorem d_Model_load_27 : decode b_Model_load 27 = .ok (.istore_n 3, 1) := by decide +kernel
theorem d_Model_load_28 : decode b_Model_load 28 = .ok (.aload_n 0, 1) := by decide +kernel
theorem d_Model_load_29 : decode b_Model_load 29 = .ok (.getfield 21, 3) := by decide +kernel
theorem d_Model_load_32 : decode b_Model_load 32 = .ok (.iload_n 2, 1) := by decide +kernel
theorem d_Model_load_33 : decode b_Model_load 33 = .ok (.bipush 19, 2) := by decide +kernel
theorem d_Model_load_35 : decode b_Model_load 35 = .ok (.bipush 15, 2) := by decide +kernel
theorem d_Model_load_37 : decode b_Model_load 37 = .ok (.invokestatic 44, 3) := by decide +kernel
theorem d_Model_load_40 : decode b_Model_load 40 = .ok (.iaload, 1) := by decide +kernel
theorem d_Model_load_41 : decode b_Model_load 41 = .ok (.iload_n 2, 1) := by decide +kernel
theorem d_Model_load_42 : decode b_Model_load 42 = .ok (.invokestatic 70, 3) := by decide +kernel
theorem d_Model_load_45 : decode b_Model_load 45 = .ok (.iadd, 1) := by decide +kernel
theorem d_Model_load_46 : decode b_Model_load 46 = .ok (.istore 4, 2) := by decide +kernel
theorem d_Model_load_48 : decode b_Model_load 48 = .ok (.iconst 0, 1) := by decide +kernel
theorem d_Model_load_49 : decode b_Model_load 49 = .ok (.istore 5, 2) := by decide +kernel
theorem d_Model_load_51 : decode b_Model_load 51 = .ok (.iload 4, 2) := by decide +kernel
theorem d_Model_load_53 : decode b_Model_load 53 = .ok (.iload_n 3, 1) := by decide +kernel
theorem d_Model_load_54 : decode b_Model_load 54 = .ok (.invokestatic 74, 3) := by decide +kernel
theorem d_Model_load_57 : decode b_Model_load 57 = .ok (.ifCond .ne (6), 3) := by decide +kernel
theorem d_Model_load_60 : decode b_Model_load 60 = .ok (.bipush (-3), 2) := by decide +kernel
theorem d_Model_load_62 : decode b_Model_load 62 = .ok (.ireturn, 1) := by decide +kernel
theorem d_Model_load_63 : decode b_Model_load 63 = .ok (.iload_n 3, 1) := by decide +kernel
theorem d_Model_load_64 : decode b_Model_load 64 = .ok (.iconst 1, 1) := by decide +kernel
theorem d_Model_load_65 : decode b_Model_load 65 = .ok (.isub, 1) := by decide +kernel
theorem d_Model_load_66 : decode b_Model_load 66 = .ok (.istore 6, 2) := by decide +kernel
theorem d_Model_load_68 : decode b_Model_load 68 = .ok (.iload 6, 2) := by decide +kernel
theorem d_Model_load_70 : decode b_Model_load 70 = .ok (.ifCond .lt (31), 3) := by decide +kernel
theorem d_Model_load_73 : decode b_Model_load 73 = .ok (.iload 5, 2) := by decide +kernel
theorem d_Model_load_75 : decode b_Model_load 75 = .ok (.bipush 8, 2) := by decide +kernel
theorem d_Model_load_77 : decode b_Model_load 77 = .ok (.ishl, 1) := by decide +kernel
theorem d_Model_load_78 : decode b_Model_load 78 = .ok (.aload_n 0, 1) := by decide +kernel
theorem d_Model_load_79 : decode b_Model_load 79 = .ok (.getfield 25, 3) := by decide +kernel
theorem d_Model_load_82 : decode b_Model_load 82 = .ok (.iload 4, 2) := by decide +kernel
theorem d_Model_load_84 : decode b_Model_load 84 = .ok (.iload 6, 2) := by decide +kernel
theorem d_Model_load_86 : decode b_Model_load 86 = .ok (.iadd, 1) := by decide +kernel
theorem d_Model_load_87 : decode b_Model_load 87 = .ok (.baload, 1) := by decide +kernel
theorem d_Model_load_88 : decode b_Model_load 88 = .ok (.sipush 255, 3) := by decide +kernel
theorem d_Model_load_91 : decode b_Model_load 91 = .ok (.iand, 1) := by decide +kernel
theorem d_Model_load_92 : decode b_Model_load 92 = .ok (.ior, 1) := by decide +kernel
theorem d_Model_load_93 : decode b_Model_load 93 = .ok (.istore 5, 2) := by decide +kernel
theorem d_Model_load_95 : decode b_Model_load 95 = .ok (.iinc 6 (-1), 3) := by decide +kernel
theorem d_Model_load_98 : decode b_Model_load 98 = .ok (.goto (-30), 3) := by decide +kernel
theorem d_Model_load_101 : decode b_Model_load 101 = .ok (.aload_n 0, 1) := by decide +kernel
theorem d_Model_load_102 : decode b_Model_load 102 = .ok (.iload_n 2, 1) := by decide +kernel
theorem d_Model_load_103 : decode b_Model_load 103 = .ok (.bipush 11, 2) := by decide +kernel
theorem d_Model_load_105 : decode b_Model_load 105 = .ok (.bipush 7, 2) := by decide +kernel
theorem d_Model_load_107 : decode b_Model_load 107 = .ok (.invokestatic 44, 3) := by decide +kernel
theorem d_Model_load_110 : decode b_Model_load 110 = .ok (.iload_n 1, 1) := by decide +kernel
theorem d_Model_load_111 : decode b_Model_load 111 = .ok (.bipush 10, 2) := by decide +kernel
theorem d_Model_load_113 : decode b_Model_load 113 = .ok (.if_icmp .ne (9), 3) := by decide +kernel
theorem d_Model_load_116 : decode b_Model_load 116 = .ok (.iload 5, 2) := by decide +kernel
theorem d_Model_load_118 : decode b_Model_load 118 = .ok (.i2b, 1) := by decide +kernel
theorem d_Model_load_119 : decode b_Model_load 119 = .ok (.goto (17), 3) := by decide +kernel
theorem d_Model_load_122 : decode b_Model_load 122 = .ok (.iload_n 1, 1) := by decide +kernel
theorem d_Model_load_123 : decode b_Model_load 123 = .ok (.bipush 11, 2) := by decide +kernel
theorem d_Model_load_125 : decode b_Model_load 125 = .ok (.if_icmp .ne (9), 3) := by decide +kernel
theorem d_Model_load_128 : decode b_Model_load 128 = .ok (.iload 5, 2) := by decide +kernel
theorem d_Model_load_130 : decode b_Model_load 130 = .ok (.i2s, 1) := by decide +kernel
theorem d_Model_load_131 : decode b_Model_load 131 = .ok (.goto (5), 3) := by decide +kernel
theorem d_Model_load_134 : decode b_Model_load 134 = .ok (.iload 5, 2) := by decide +kernel
theorem d_Model_load_136 : decode b_Model_load 136 = .ok (.invokevirtual 77, 3) := by decide +kernel
theorem d_Model_load_139 : decode b_Model_load 139 = .ok (.iconst 0, 1) := by decide +kernel
theorem d_Model_load_140 : decode b_Model_load 140 = .ok (.ireturn, 1) := by decide +kernel
set_option maxHeartbeats 4000000 in
set_option maxRecDepth 100000 in
theorem c_Model_load (l : Launch) {dA : FieldType → ClassId} {D : va_G} {al : Nat → Nat} {ext : mv_Sh} {sk sv : Nat → Nat} (hi : mv_inj (mg dA D al ext)) (σ : mv_H) (hmr : mh (mv_r σ)) (o9 w : Int32) : mv_C l y_Model_load (Cond.code y_Model_load b_Model_load 7 (Option.some Jvm.ClassFile.FieldType.int) :: ma) ({ frames := 2, cells := 0, slots := 0, locals := 46 }) (mg dA D al ext) (mK sk sv) [.ref (al 70), .int o9, .int w] σ (mv_Ri (fun v σ1 => SM σ σ1)) := by
  refine mv_C.ofV (cc := b_Model_load) (nL := 7) (ret := (Option.some Jvm.ClassFile.FieldType.int)) (by decide +kernel) rfl hi (Nat.le_of_ble_eq_true rfl) ?_
  intro p e s m below meth c B hNs hr hnm hno
  have j27 : ∀ (n9 : Int32) (hn : 0 ≤ n9.toInt ∧ n9.toInt ≤ 4), mv_V p l e ({ frames := 2, cells := 0, slots := 0, locals := 46 }) s m ([.ref (al 70), .int o9, .int w] : List Value).toArray below meth c (mg dA D al ext) 7 0 0 (mv_Q (mg dA D al ext) below s 0 0 (mv_Ri (fun v σ1 => SM σ σ1))) σ 27 [(0, .ref (al 70)), (1, .int o9), (2, .int w)] [.int n9] := by
    intro n9 hn
    refine mv_istore_n (pc := 27) B d_Model_load_27 rfl (by decide) rfl ?_
    refine mv_aload_n (pc := 28) B d_Model_load_28 rfl 1 rfl ?_
    refine mv_getR (pc := 29) (ci := 11) (C := R_Model) (T := F_Model) (N := 16) B 7 rfl rfl (by decide) i_Model (B.2.2.2.1 _ k_2052) rfl (hmr _ 7 _ rfl) d_Model_load_29 ?_
    refine mv_iload_n (pc := 32) B d_Model_load_32 rfl 3 rfl ?_
    refine mv_bipush (pc := 33) (v := 19) B d_Model_load_33 (by decide) ?_
    refine mv_bipush (pc := 35) (v := 15) B d_Model_load_35 (by decide) ?_
    refine mv_callSi (pc := 37) (n := 3) B (mK_ok sk sv) hNs (c_Model_piece l hi _ _ _ _) rfl (ma_goodc kc_Model_piece) (B.2.2.2.1 _ k_2360) (B.2.2.2.1 _ k_2361) (B.2.2.2.1 _ k_12) ⟨by decide +kernel, by decide +kernel, by decide +kernel⟩ rfl d_Model_load_37 rfl (Nat.le_of_ble_eq_true rfl) ⟨by decide, by decide⟩ ⟨by decide, by decide⟩ ⟨by decide, by decide⟩ (mv_noH hno _) (fun v37 σ37 h37 => ?_)
    obtain ⟨e37, z37⟩ := h37
    have e37 := e37.symm
    subst e37
    have z37 := p5_of z37 (by decide)
    refine mv_iald (pc := 40) B rfl (i32_in z37.1 z37.2) d_Model_load_40 ?_
    refine mv_iload_n (pc := 41) B d_Model_load_41 rfl 3 rfl ?_
    refine mv_callSi (pc := 42) (n := 1) B (mK_ok sk sv) hNs (c_Model_immI l hi _ _) rfl (ma_goodc kc_Model_immI) (B.2.2.2.1 _ k_2455) (B.2.2.2.1 _ k_2456) (B.2.2.2.1 _ k_12) ⟨by decide +kernel, by decide +kernel, by decide +kernel⟩ rfl d_Model_load_42 rfl (Nat.le_of_ble_eq_true rfl) ⟨by decide, by decide⟩ ⟨by decide, by decide⟩ ⟨by decide, by decide⟩ (mv_noH hno _) (fun v42 σ42 h42 => ?_)
    have e42 := h42.symm
    subst e42
    refine mv_iadd (pc := 45) B d_Model_load_45 ?_
    refine mv_topi (fun p9 ep9 => ?_)
    clear ep9
    refine mv_istore (pc := 46) B d_Model_load_46 (by decide) rfl ?_
    refine mv_iconst (pc := 48) (v := 0) B d_Model_load_48 (by decide) ?_
    refine mv_istore (pc := 49) B d_Model_load_49 (by decide) rfl ?_
    refine mv_iload (pc := 51) B d_Model_load_51 1 rfl ?_
    refine mv_iload_n (pc := 53) B d_Model_load_53 rfl 2 rfl ?_
    refine mv_callSi (pc := 54) (n := 2) B (mK_ok sk sv) hNs (c_Model_inMemory l hi _ _ _ (by omega) (by omega)) rfl (ma_goodc kc_Model_inMemory) (B.2.2.2.1 _ k_2476) (B.2.2.2.1 _ k_2477) (B.2.2.2.1 _ k_12) ⟨by decide +kernel, by decide +kernel, by decide +kernel⟩ rfl d_Model_load_54 rfl (Nat.le_of_ble_eq_true rfl) ⟨by decide, by decide⟩ ⟨by decide, by decide⟩ ⟨by decide, by decide⟩ (mv_noH hno _) (fun v54 σ54 h54 => ?_)
    obtain ⟨e54, z54⟩ := h54
    have e54 := e54.symm
    subst e54
    refine mv_if_ne (pc := 57) (tgt := 63) B d_Model_load_57 rfl (fun h57 => ?_) (fun h57 => ?_)
    · skip
      have z55 := z54.resolve_left h57
      have lp : ∀ (nn : Nat) (k9 : Int32) (u9 : Int32) (q0 : k9.toInt < n9.toInt) (q1 : -1 ≤ k9.toInt), (k9.toInt + 1).toNat < nn → mv_V p l e ({ frames := 2, cells := 0, slots := 0, locals := 46 }) s m ([.ref (al 70), .int o9, .int w] : List Value).toArray below meth c (mg dA D al ext) 7 0 0 (mv_Q (mg dA D al ext) below s 0 0 (mv_Ri (fun v σ1 => SM σ σ1))) σ 68 [(6, .int k9), (5, .int u9), (4, .int p9), (3, .int n9), (0, .ref (al 70)), (1, .int o9), (2, .int w)] [] := by
        intro nn
        induction nn with
        | zero => intro k9 u9 q0 q1 hm; exact absurd hm (Nat.not_lt_zero _)
        | succ nn ih =>
          intro k9 u9 q0 q1 hm
          refine mv_iload (pc := 68) B d_Model_load_68 0 rfl ?_
          refine mv_if_lt (pc := 70) (tgt := 101) B d_Model_load_70 rfl (fun h70 => ?_) (fun h70 => ?_)
          · skip
            refine mv_aload_n (pc := 101) B d_Model_load_101 rfl 4 rfl ?_
            refine mv_iload_n (pc := 102) B d_Model_load_102 rfl 6 rfl ?_
            refine mv_bipush (pc := 103) (v := 11) B d_Model_load_103 (by decide) ?_
            refine mv_bipush (pc := 105) (v := 7) B d_Model_load_105 (by decide) ?_
            refine mv_callSi (pc := 107) (n := 3) B (mK_ok sk sv) hNs (c_Model_piece l hi _ _ _ _) rfl (ma_goodc kc_Model_piece) (B.2.2.2.1 _ k_2360) (B.2.2.2.1 _ k_2361) (B.2.2.2.1 _ k_12) ⟨by decide +kernel, by decide +kernel, by decide +kernel⟩ rfl d_Model_load_107 rfl (Nat.le_of_ble_eq_true rfl) ⟨by decide, by decide⟩ ⟨by decide, by decide⟩ ⟨by decide, by decide⟩ (mv_noH hno _) (fun v107 σ107 h107 => ?_)
            obtain ⟨e107, z107⟩ := h107
            have e107 := e107.symm
            subst e107
            have z107 := p5_of z107 (by decide)
            refine mv_iload_n (pc := 110) B d_Model_load_110 rfl 5 rfl ?_
            refine mv_bipush (pc := 111) (v := 10) B d_Model_load_111 (by decide) ?_
            refine mv_icmp_ne (pc := 113) (tgt := 122) B d_Model_load_113 rfl (fun h113 => ?_) (fun h113 => ?_)
            · skip
              refine mv_iload_n (pc := 122) B d_Model_load_122 rfl 5 rfl ?_
              refine mv_bipush (pc := 123) (v := 11) B d_Model_load_123 (by decide) ?_
              refine mv_icmp_ne (pc := 125) (tgt := 134) B d_Model_load_125 rfl (fun h125 => ?_) (fun h125 => ?_)
              · skip
                refine mv_iload (pc := 134) B d_Model_load_134 1 rfl ?_
                refine mv_callVv (pc := 136) (n := 2) (ci := 11) (C := R_Model) B (mK_ok sk sv) hNs rfl rfl (c_Model_set l hi _ hmr _ _ z107) rfl (ma_goodc kc_Model_set) (B.2.2.2.1 _ k_2430) (B.2.2.2.1 _ k_2432) (B.2.2.2.1 _ ks_125) (B.2.2.2.1 _ k_12) ⟨by decide +kernel, by decide +kernel, by decide +kernel⟩ rfl d_Model_load_136 rfl (Nat.le_of_ble_eq_true rfl) ⟨by decide, by decide⟩ ⟨by decide, by decide⟩ ⟨by decide, by decide⟩ (mv_noH hno _) (fun σ136 h136 => ?_)
                refine mv_iconst (pc := 139) (v := 0) B d_Model_load_139 (by decide) ?_
                exact mv_iret (pc := 140) B hr rfl d_Model_load_140 (Nat.le_refl _) (Nat.le_refl _) ⟨_, rfl, h136⟩
              · skip
                refine mv_iload (pc := 128) B d_Model_load_128 1 rfl ?_
                refine mv_i2s (pc := 130) B d_Model_load_130 ?_
                refine mv_goto (pc := 131) (tgt := 136) B d_Model_load_131 rfl ?_
                refine mv_callVv (pc := 136) (n := 2) (ci := 11) (C := R_Model) B (mK_ok sk sv) hNs rfl rfl (c_Model_set l hi _ hmr _ _ z107) rfl (ma_goodc kc_Model_set) (B.2.2.2.1 _ k_2430) (B.2.2.2.1 _ k_2432) (B.2.2.2.1 _ ks_125) (B.2.2.2.1 _ k_12) ⟨by decide +kernel, by decide +kernel, by decide +kernel⟩ rfl d_Model_load_136 rfl (Nat.le_of_ble_eq_true rfl) ⟨by decide, by decide⟩ ⟨by decide, by decide⟩ ⟨by decide, by decide⟩ (mv_noH hno _) (fun σ136 h136 => ?_)
                refine mv_iconst (pc := 139) (v := 0) B d_Model_load_139 (by decide) ?_
                exact mv_iret (pc := 140) B hr rfl d_Model_load_140 (Nat.le_refl _) (Nat.le_refl _) ⟨_, rfl, h136⟩
            · skip
              refine mv_iload (pc := 116) B d_Model_load_116 1 rfl ?_
              refine mv_i2b (pc := 118) B d_Model_load_118 ?_
              refine mv_goto (pc := 119) (tgt := 136) B d_Model_load_119 rfl ?_
              refine mv_callVv (pc := 136) (n := 2) (ci := 11) (C := R_Model) B (mK_ok sk sv) hNs rfl rfl (c_Model_set l hi _ hmr _ _ z107) rfl (ma_goodc kc_Model_set) (B.2.2.2.1 _ k_2430) (B.2.2.2.1 _ k_2432) (B.2.2.2.1 _ ks_125) (B.2.2.2.1 _ k_12) ⟨by decide +kernel, by decide +kernel, by decide +kernel⟩ rfl d_Model_load_136 rfl (Nat.le_of_ble_eq_true rfl) ⟨by decide, by decide⟩ ⟨by decide, by decide⟩ ⟨by decide, by decide⟩ (mv_noH hno _) (fun σ136 h136 => ?_)
              refine mv_iconst (pc := 139) (v := 0) B d_Model_load_139 (by decide) ?_
              exact mv_iret (pc := 140) B hr rfl d_Model_load_140 (Nat.le_refl _) (Nat.le_refl _) ⟨_, rfl, h136⟩
          · skip
            have hk0 : ¬ k9.toInt < 0 := fun z => h70 (Int32.lt_iff_toInt_lt.mpr z)
            have w2 : (k9 + -1).toInt = k9.toInt - 1 := by rw [i32_add (x := k9) (y := -1) (by show -2147483648 ≤ k9.toInt + -1; omega) (by show k9.toInt + -1 < 2147483648; omega)]; show k9.toInt + -1 = _; omega
            refine mv_iload (pc := 73) B d_Model_load_73 1 rfl ?_
            refine mv_bipush (pc := 75) (v := 8) B d_Model_load_75 (by decide) ?_
            refine mv_ishl (pc := 77) B d_Model_load_77 ?_
            refine mv_aload_n (pc := 78) B d_Model_load_78 rfl 4 rfl ?_
            refine mv_getR (pc := 79) (ci := 11) (C := R_Model) (T := F_Model) (N := 16) B 8 rfl rfl (by decide) i_Model (B.2.2.2.1 _ k_2053) rfl (hmr _ 8 _ rfl) d_Model_load_79 ?_
            refine mv_iload (pc := 82) B d_Model_load_82 2 rfl ?_
            refine mv_iload (pc := 84) B d_Model_load_84 0 rfl ?_
            refine mv_iadd (pc := 86) B d_Model_load_86 ?_
            refine mv_topi (fun y86 ey86 => ?_)
            have fy86 := i32_addE ey86 (by (try simp only [Int32.reduceToInt]); omega) (by (try simp only [Int32.reduceToInt]); omega)
            try simp only [Int32.reduceToInt] at fy86
            refine mv_bald (pc := 87) B rfl (i32_in (show 0 ≤ y86.toInt by omega) (show y86.toInt < 32768 by omega)) d_Model_load_87 ?_
            refine mv_sipush (pc := 88) (v := 255) B d_Model_load_88 (by decide) ?_
            refine mv_iand (pc := 91) B d_Model_load_91 ?_
            refine mv_ior (pc := 92) B d_Model_load_92 ?_
            refine mv_istore (pc := 93) B d_Model_load_93 (by decide) rfl ?_
            refine mv_iinc (pc := 95) (j := 1) (v := -1) B d_Model_load_95 rfl (by decide) (by decide) rfl ?_
            refine mv_goto (pc := 98) (tgt := 68) B d_Model_load_98 rfl ?_
            refine mv_lpick [0, 1, 2, 3, 4, 5, 6] rfl ?_
            have a1 := dn_lp w2 q0 hk0 hm
            exact ih _ _ a1.1 a1.2.1 a1.2.2
      refine mv_iload_n (pc := 63) B d_Model_load_63 rfl 2 rfl ?_
      refine mv_iconst (pc := 64) (v := 1) B d_Model_load_64 (by decide) ?_
      refine mv_isub (pc := 65) B d_Model_load_65 ?_
      refine mv_topi (fun y65 ey65 => ?_)
      have fy65 := i32_subE ey65 (by (try simp only [Int32.reduceToInt]); omega) (by (try simp only [Int32.reduceToInt]); omega)
      try simp only [Int32.reduceToInt] at fy65
      refine mv_istore (pc := 66) B d_Model_load_66 (by decide) rfl ?_
      refine mv_lpick [0, 1, 2, 3, 4, 5, 6] rfl ?_
      exact lp _ _ _ (by omega) (by omega) (Nat.lt_succ_self _)
    · skip
      refine mv_bipush (pc := 60) (v := -3) B d_Model_load_60 (by decide) ?_
      exact mv_iret (pc := 62) B hr rfl d_Model_load_62 (Nat.le_refl _) (Nat.le_refl _) ⟨_, rfl, Fx.rf⟩
  refine mv_iload_n (pc := 0) B d_Model_load_0 rfl 1 rfl ?_
  refine mv_bipush (pc := 1) (v := 10) B d_Model_load_1 (by decide) ?_
  refine mv_icmp_eq (pc := 3) (tgt := 12) B d_Model_load_3 rfl (fun h3 => ?_) (fun h3 => ?_)
  · skip
    refine mv_iconst (pc := 12) (v := 1) B d_Model_load_12 (by decide) ?_
    refine mv_goto (pc := 13) (tgt := 27) B d_Model_load_13 rfl ?_
    refine mv_lpick [0, 1, 2] rfl ?_
    exact j27 _ (by decide)
  · skip
    refine mv_iload_n (pc := 6) B d_Model_load_6 rfl 1 rfl ?_
    refine mv_bipush (pc := 7) (v := 13) B d_Model_load_7 (by decide) ?_
    refine mv_icmp_ne (pc := 9) (tgt := 16) B d_Model_load_9 rfl (fun h9 => ?_) (fun h9 => ?_)
    · skip
      refine mv_iload_n (pc := 16) B d_Model_load_16 rfl 1 rfl ?_
      refine mv_bipush (pc := 17) (v := 12) B d_Model_load_17 (by decide) ?_
      refine mv_icmp_ne (pc := 19) (tgt := 26) B d_Model_load_19 rfl (fun h19 => ?_) (fun h19 => ?_)
      · skip
        refine mv_iconst (pc := 26) (v := 2) B d_Model_load_26 (by decide) ?_
        refine mv_lpick [0, 1, 2] rfl ?_
        exact j27 _ (by decide)
      · skip
        refine mv_iconst (pc := 22) (v := 4) B d_Model_load_22 (by decide) ?_
        refine mv_goto (pc := 23) (tgt := 27) B d_Model_load_23 rfl ?_
        refine mv_lpick [0, 1, 2] rfl ?_
        exact j27 _ (by decide)
    · skip
      refine mv_iconst (pc := 12) (v := 1) B d_Model_load_12 (by decide) ?_
      refine mv_goto (pc := 13) (tgt := 27) B d_Model_load_13 rfl ?_
      refine mv_lpick [0, 1, 2] rfl ?_
      exact j27 _ (by decide)
def y_Model_store : MethodName := ⟨"MachineLoomModel", "store", "(II)I"⟩
abbrev b_Model_store : ByteArray := prog_14_method_20_code
theorem kc_Model_store : Cond.code y_Model_store b_Model_store 7 (Option.some Jvm.ClassFile.FieldType.int) ∈ ma := ma_of (tb_11 _ (List.mem_of_getElem? (i := 82) rfl)) rfl
theorem k_2483 : (Jvm.Cond.methodLink "MachineLoomModel" (81 : Nat) ({ cls := "MachineLoomModel", name := "immS", desc := "(I)I" } : Jvm.MethodName)) ∈ ma := ma_of (tb_11 _ (List.mem_of_getElem? (i := 83) rfl)) rfl
theorem k_2484 : (Jvm.Cond.static ({ cls := "MachineLoomModel", name := "immS", desc := "(I)I" } : Jvm.MethodName)) ∈ ma := ma_of (tb_11 _ (List.mem_of_getElem? (i := 84) rfl)) rfl
theorem d_Model_store_0 : decode b_Model_store 0 = .ok (.iconst 1, 1) := by decide +kernel
theorem d_Model_store_1 : decode b_Model_store 1 = .ok (.iload_n 1, 1) := by decide +kernel
theorem d_Model_store_2 : decode b_Model_store 2 = .ok (.bipush 15, 2) := by decide +kernel
theorem d_Model_store_4 : decode b_Model_store 4 = .ok (.isub, 1) := by decide +kernel
theorem d_Model_store_5 : decode b_Model_store 5 = .ok (.ishl, 1) := by decide +kernel
theorem d_Model_store_6 : decode b_Model_store 6 = .ok (.istore_n 3, 1) := by decide +kernel
theorem d_Model_store_7 : decode b_Model_store 7 = .ok (.aload_n 0, 1) := by decide +kernel
theorem d_Model_store_8 : decode b_Model_store 8 = .ok (.getfield 21, 3) := by decide +kernel
theorem d_Model_store_11 : decode b_Model_store 11 = .ok (.iload_n 2, 1) := by decide +kernel
theorem d_Model_store_12 : decode b_Model_store 12 = .ok (.bipush 19, 2) := by decide +kernel
theorem d_Model_store_14 : decode b_Model_store 14 = .ok (.bipush 15, 2) := by decide +kernel
theorem d_Model_store_16 : decode b_Model_store 16 = .ok (.invokestatic 44, 3) := by decide +kernel
theorem d_Model_store_19 : decode b_Model_store 19 = .ok (.iaload, 1) := by decide +kernel
theorem d_Model_store_20 : decode b_Model_store 20 = .ok (.iload_n 2, 1) := by decide +kernel
theorem d_Model_store_21 : decode b_Model_store 21 = .ok (.invokestatic 81, 3) := by decide +kernel
theorem d_Model_store_24 : decode b_Model_store 24 = .ok (.iadd, 1) := by decide +kernel
theorem d_Model_store_25 : decode b_Model_store 25 = .ok (.istore 4, 2) := by decide +kernel
theorem d_Model_store_27 : decode b_Model_store 27 = .ok (.aload_n 0, 1) := by decide +kernel
theorem d_Model_store_28 : decode b_Model_store 28 = .ok (.getfield 21, 3) := by decide +kernel
theorem d_Model_store_31 : decode b_Model_store 31 = .ok (.iload_n 2, 1) := by decide +kernel
theorem d_Model_store_32 : decode b_Model_store 32 = .ok (.bipush 24, 2) := by decide +kernel
theorem d_Model_store_34 : decode b_Model_store 34 = .ok (.bipush 20, 2) := by decide +kernel
theorem d_Model_store_36 : decode b_Model_store 36 = .ok (.invokestatic 44, 3) := by decide +kernel
theorem d_Model_store_39 : decode b_Model_store 39 = .ok (.iaload, 1) := by decide +kernel
theorem d_Model_store_40 : decode b_Model_store 40 = .ok (.istore 5, 2) := by decide +kernel
theorem d_Model_store_42 : decode b_Model_store 42 = .ok (.iload 4, 2) := by decide +kernel
theorem d_Model_store_44 : decode b_Model_store 44 = .ok (.iload_n 3, 1) := by decide +kernel
theorem d_Model_store_45 : decode b_Model_store 45 = .ok (.invokestatic 74, 3) := by decide +kernel
theorem d_Model_store_48 : decode b_Model_store 48 = .ok (.ifCond .ne (6), 3) := by decide +kernel
theorem d_Model_store_51 : decode b_Model_store 51 = .ok (.bipush (-3), 2) := by decide +kernel
theorem d_Model_store_53 : decode b_Model_store 53 = .ok (.ireturn, 1) := by decide +kernel
theorem d_Model_store_54 : decode b_Model_store 54 = .ok (.iconst 0, 1) := by decide +kernel
theorem d_Model_store_55 : decode b_Model_store 55 = .ok (.istore 6, 2) := by decide +kernel
theorem d_Model_store_57 : decode b_Model_store 57 = .ok (.iload 6, 2) := by decide +kernel
theorem d_Model_store_59 : decode b_Model_store 59 = .ok (.iload_n 3, 1) := by decide +kernel
theorem d_Model_store_60 : decode b_Model_store 60 = .ok (.if_icmp .ge (28), 3) := by decide +kernel
theorem d_Model_store_63 : decode b_Model_store 63 = .ok (.aload_n 0, 1) := by decide +kernel
theorem d_Model_store_64 : decode b_Model_store 64 = .ok (.getfield 25, 3) := by decide +kernel
theorem d_Model_store_67 : decode b_Model_store 67 = .ok (.iload 4, 2) := by decide +kernel
theorem d_Model_store_69 : decode b_Model_store 69 = .ok (.iload 6, 2) := by decide +kernel
theorem d_Model_store_71 : decode b_Model_store 71 = .ok (.iadd, 1) := by decide +kernel
theorem d_Model_store_72 : decode b_Model_store 72 = .ok (.iload 5, 2) := by decide +kernel
theorem d_Model_store_74 : decode b_Model_store 74 = .ok (.bipush 8, 2) := by decide +kernel
theorem d_Model_store_76 : decode b_Model_store 76 = .ok (.iload 6, 2) := by decide +kernel
theorem d_Model_store_78 : decode b_Model_store 78 = .ok (.imul, 1) := by decide +kernel
theorem d_Model_store_79 : decode b_Model_store 79 = .ok (.iushr, 1) := by decide +kernel
theorem d_Model_store_80 : decode b_Model_store 80 = .ok (.i2b, 1) := by decide +kernel
theorem d_Model_store_81 : decode b_Model_store 81 = .ok (.bastore, 1) := by decide +kernel
theorem d_Model_store_82 : decode b_Model_store 82 = .ok (.iinc 6 (1), 3) := by decide +kernel
theorem d_Model_store_85 : decode b_Model_store 85 = .ok (.goto (-28), 3) := by decide +kernel
theorem d_Model_store_88 : decode b_Model_store 88 = .ok (.iconst 0, 1) := by decide +kernel
theorem d_Model_store_89 : decode b_Model_store 89 = .ok (.ireturn, 1) := by decide +kernel
set_option maxHeartbeats 4000000 in
set_option maxRecDepth 100000 in
theorem c_Model_store (l : Launch) {dA : FieldType → ClassId} {D : va_G} {al : Nat → Nat} {ext : mv_Sh} {sk sv : Nat → Nat} (hi : mv_inj (mg dA D al ext)) (σ : mv_H) (hmr : mh (mv_r σ)) (o9 w : Int32) (ho : o9 = 15 ∨ o9 = 16 ∨ o9 = 17) : mv_C l y_Model_store (Cond.code y_Model_store b_Model_store 7 (Option.some Jvm.ClassFile.FieldType.int) :: ma) ({ frames := 2, cells := 0, slots := 0, locals := 46 }) (mg dA D al ext) (mK sk sv) [.ref (al 70), .int o9, .int w] σ (mv_Ri (fun v σ1 => SM σ σ1)) := by
  refine mv_C.ofV (cc := b_Model_store) (nL := 7) (ret := (Option.some Jvm.ClassFile.FieldType.int)) (by decide +kernel) rfl hi (Nat.le_of_ble_eq_true rfl) ?_
  intro p e s m below meth c B hNs hr hnm hno
  refine mv_iconst (pc := 0) (v := 1) B d_Model_store_0 (by decide) ?_
  refine mv_iload_n (pc := 1) B d_Model_store_1 rfl 1 rfl ?_
  refine mv_bipush (pc := 2) (v := 15) B d_Model_store_2 (by decide) ?_
  refine mv_isub (pc := 4) B d_Model_store_4 ?_
  refine mv_ishl (pc := 5) B d_Model_store_5 ?_
  refine mv_topi (fun n9 en9 => ?_)
  have hn : 1 ≤ n9.toInt ∧ n9.toInt ≤ 4 := by
    rw [en9]
    rcases ho with z | z | z <;> (subst z; decide)
  clear en9
  refine mv_istore_n (pc := 6) B d_Model_store_6 rfl (by decide) rfl ?_
  refine mv_aload_n (pc := 7) B d_Model_store_7 rfl 1 rfl ?_
  refine mv_getR (pc := 8) (ci := 11) (C := R_Model) (T := F_Model) (N := 16) B 7 rfl rfl (by decide) i_Model (B.2.2.2.1 _ k_2052) rfl (hmr _ 7 _ rfl) d_Model_store_8 ?_
  refine mv_iload_n (pc := 11) B d_Model_store_11 rfl 3 rfl ?_
  refine mv_bipush (pc := 12) (v := 19) B d_Model_store_12 (by decide) ?_
  refine mv_bipush (pc := 14) (v := 15) B d_Model_store_14 (by decide) ?_
  refine mv_callSi (pc := 16) (n := 3) B (mK_ok sk sv) hNs (c_Model_piece l hi _ _ _ _) rfl (ma_goodc kc_Model_piece) (B.2.2.2.1 _ k_2360) (B.2.2.2.1 _ k_2361) (B.2.2.2.1 _ k_12) ⟨by decide +kernel, by decide +kernel, by decide +kernel⟩ rfl d_Model_store_16 rfl (Nat.le_of_ble_eq_true rfl) ⟨by decide, by decide⟩ ⟨by decide, by decide⟩ ⟨by decide, by decide⟩ (mv_noH hno _) (fun v16 σ16 h16 => ?_)
  obtain ⟨e16, z16⟩ := h16
  have e16 := e16.symm
  subst e16
  have z16 := p5_of z16 (by decide)
  refine mv_iald (pc := 19) B rfl (i32_in z16.1 z16.2) d_Model_store_19 ?_
  refine mv_iload_n (pc := 20) B d_Model_store_20 rfl 3 rfl ?_
  refine mv_callSi (pc := 21) (n := 1) B (mK_ok sk sv) hNs (c_Model_immS l hi _ _) rfl (ma_goodc kc_Model_immS) (B.2.2.2.1 _ k_2483) (B.2.2.2.1 _ k_2484) (B.2.2.2.1 _ k_12) ⟨by decide +kernel, by decide +kernel, by decide +kernel⟩ rfl d_Model_store_21 rfl (Nat.le_of_ble_eq_true rfl) ⟨by decide, by decide⟩ ⟨by decide, by decide⟩ ⟨by decide, by decide⟩ (mv_noH hno _) (fun v21 σ21 h21 => ?_)
  have e21 := h21.symm
  subst e21
  refine mv_iadd (pc := 24) B d_Model_store_24 ?_
  refine mv_topi (fun p9 ep9 => ?_)
  clear ep9
  refine mv_istore (pc := 25) B d_Model_store_25 (by decide) rfl ?_
  refine mv_aload_n (pc := 27) B d_Model_store_27 rfl 2 rfl ?_
  refine mv_getR (pc := 28) (ci := 11) (C := R_Model) (T := F_Model) (N := 16) B 7 rfl rfl (by decide) i_Model (B.2.2.2.1 _ k_2052) rfl (hmr _ 7 _ rfl) d_Model_store_28 ?_
  refine mv_iload_n (pc := 31) B d_Model_store_31 rfl 4 rfl ?_
  refine mv_bipush (pc := 32) (v := 24) B d_Model_store_32 (by decide) ?_
  refine mv_bipush (pc := 34) (v := 20) B d_Model_store_34 (by decide) ?_
  refine mv_callSi (pc := 36) (n := 3) B (mK_ok sk sv) hNs (c_Model_piece l hi _ _ _ _) rfl (ma_goodc kc_Model_piece) (B.2.2.2.1 _ k_2360) (B.2.2.2.1 _ k_2361) (B.2.2.2.1 _ k_12) ⟨by decide +kernel, by decide +kernel, by decide +kernel⟩ rfl d_Model_store_36 rfl (Nat.le_of_ble_eq_true rfl) ⟨by decide, by decide⟩ ⟨by decide, by decide⟩ ⟨by decide, by decide⟩ (mv_noH hno _) (fun v36 σ36 h36 => ?_)
  obtain ⟨e36, z36⟩ := h36
  have e36 := e36.symm
  subst e36
  have z36 := p5_of z36 (by decide)
  refine mv_iald (pc := 39) B rfl (i32_in z36.1 z36.2) d_Model_store_39 ?_
  refine mv_topi (fun v9 ev9 => ?_)
  clear ev9
  refine mv_istore (pc := 40) B d_Model_store_40 (by decide) rfl ?_
  refine mv_iload (pc := 42) B d_Model_store_42 1 rfl ?_
  refine mv_iload_n (pc := 44) B d_Model_store_44 rfl 2 rfl ?_
  refine mv_callSi (pc := 45) (n := 2) B (mK_ok sk sv) hNs (c_Model_inMemory l hi _ _ _ (by omega) (by omega)) rfl (ma_goodc kc_Model_inMemory) (B.2.2.2.1 _ k_2476) (B.2.2.2.1 _ k_2477) (B.2.2.2.1 _ k_12) ⟨by decide +kernel, by decide +kernel, by decide +kernel⟩ rfl d_Model_store_45 rfl (Nat.le_of_ble_eq_true rfl) ⟨by decide, by decide⟩ ⟨by decide, by decide⟩ ⟨by decide, by decide⟩ (mv_noH hno _) (fun v45 σ45 h45 => ?_)
  obtain ⟨e45, z45⟩ := h45
  have e45 := e45.symm
  subst e45
  refine mv_if_ne (pc := 48) (tgt := 54) B d_Model_store_48 rfl (fun h48 => ?_) (fun h48 => ?_)
  · skip
    have z46 := z45.resolve_left h48
    have lp : ∀ (nn : Nat) (τ : mv_H) (k9 : Int32) (hF : SM σ τ) (q0 : 0 ≤ k9.toInt), (20000 - k9.toInt).toNat < nn → mv_V p l e ({ frames := 2, cells := 0, slots := 0, locals := 46 }) s m ([.ref (al 70), .int o9, .int w] : List Value).toArray below meth c (mg dA D al ext) 7 0 0 (mv_Q (mg dA D al ext) below s 0 0 (mv_Ri (fun v σ1 => SM σ σ1))) τ 57 [(6, .int k9), (5, .int v9), (4, .int p9), (3, .int n9), (0, .ref (al 70)), (1, .int o9), (2, .int w)] [] := by
      intro nn
      induction nn with
      | zero => intro τ k9 hF q0 hm; exact absurd hm (Nat.not_lt_zero _)
      | succ nn ih =>
        intro τ k9 hF q0 hm
        have hmr := hF.r hmr
        refine mv_iload (pc := 57) B d_Model_store_57 0 rfl ?_
        refine mv_iload_n (pc := 59) B d_Model_store_59 rfl 3 rfl ?_
        refine mv_icmp_ge (pc := 60) (tgt := 88) B d_Model_store_60 rfl (fun h60 => ?_) (fun h60 => ?_)
        · skip
          refine mv_iconst (pc := 88) (v := 0) B d_Model_store_88 (by decide) ?_
          exact mv_iret (pc := 89) B hr rfl d_Model_store_89 (Nat.le_refl _) (Nat.le_refl _) ⟨_, rfl, hF⟩
        · skip
          rw [Int32.le_iff_toInt_le] at h60
          have w2 : (k9 + 1).toInt = k9.toInt + 1 := i32_inc (by omega)
          refine mv_aload_n (pc := 63) B d_Model_store_63 rfl 4 rfl ?_
          refine mv_getR (pc := 64) (ci := 11) (C := R_Model) (T := F_Model) (N := 16) B 8 rfl rfl (by decide) i_Model (B.2.2.2.1 _ k_2053) rfl (hmr _ 8 _ rfl) d_Model_store_64 ?_
          refine mv_iload (pc := 67) B d_Model_store_67 2 rfl ?_
          refine mv_iload (pc := 69) B d_Model_store_69 0 rfl ?_
          refine mv_iadd (pc := 71) B d_Model_store_71 ?_
          refine mv_topi (fun y71 ey71 => ?_)
          have fy71 := i32_addE ey71 (by (try simp only [Int32.reduceToInt]); omega) (by (try simp only [Int32.reduceToInt]); omega)
          try simp only [Int32.reduceToInt] at fy71
          refine mv_iload (pc := 72) B d_Model_store_72 1 rfl ?_
          refine mv_bipush (pc := 74) (v := 8) B d_Model_store_74 (by decide) ?_
          refine mv_iload (pc := 76) B d_Model_store_76 0 rfl ?_
          refine mv_imul (pc := 78) B d_Model_store_78 ?_
          refine mv_iushr (pc := 79) B d_Model_store_79 ?_
          refine mv_i2b (pc := 80) B d_Model_store_80 ?_
          refine mv_bast (pc := 81) B rfl (i32_in (show 0 ≤ y71.toInt by omega) (show y71.toInt < 32768 by omega)) d_Model_store_81 ?_
          refine mv_iinc (pc := 82) (j := 0) (v := 1) B d_Model_store_82 rfl (by decide) (by decide) rfl ?_
          refine mv_goto (pc := 85) (tgt := 57) B d_Model_store_85 rfl ?_
          refine mv_lpick [0, 1, 2, 3, 4, 5, 6] rfl ?_
          exact ih _ _ hF.m (by omega) (by omega)
    refine mv_iconst (pc := 54) (v := 0) B d_Model_store_54 (by decide) ?_
    refine mv_istore (pc := 55) B d_Model_store_55 (by decide) rfl ?_
    refine mv_lpick [0, 1, 2, 3, 4, 5, 6] rfl ?_
    exact lp _ _ _ Fx.rf (by decide) (Nat.lt_succ_self _)
  · skip
    refine mv_bipush (pc := 51) (v := -3) B d_Model_store_51 (by decide) ?_
    exact mv_iret (pc := 53) B hr rfl d_Model_store_53 (Nat.le_refl _) (Nat.le_refl _) ⟨_, rfl, Fx.rf⟩
theorem op_st {v : Int32} (h1 : 14 < v) (h2 : ¬ 17 < v) : v = 15 ∨ v = 16 ∨ v = 17 := by
  rw [Int32.lt_iff_toInt_lt] at h1 h2
  have h1 : 14 < v.toInt := h1
  have h2 : ¬ 17 < v.toInt := h2
  rcases (show v.toInt = 15 ∨ v.toInt = 16 ∨ v.toInt = 17 by omega) with z | z | z
  · exact Or.inl (Int32.toInt_inj.mp z)
  · exact Or.inr (Or.inl (Int32.toInt_inj.mp z))
  · exact Or.inr (Or.inr (Int32.toInt_inj.mp z))
def y_Model_shippedStep : MethodName := ⟨"MachineLoomModel", "shippedStep", "(I)I"⟩
abbrev b_Model_shippedStep : ByteArray := prog_14_method_23_code
theorem kc_Model_shippedStep : Cond.code y_Model_shippedStep b_Model_shippedStep 8 (Option.some Jvm.ClassFile.FieldType.int) ∈ ma := ma_of (tb_11 _ (List.mem_of_getElem? (i := 51) rfl)) rfl
theorem k_2486 : (Jvm.Cond.methodLink "MachineLoomModel" (111 : Nat) ({ cls := "MachineLoomModel", name := "reckon", desc := "(III)I" } : Jvm.MethodName)) ∈ ma := ma_of (tb_11 _ (List.mem_of_getElem? (i := 86) rfl)) rfl
theorem k_2487 : (Jvm.Cond.static ({ cls := "MachineLoomModel", name := "reckon", desc := "(III)I" } : Jvm.MethodName)) ∈ ma := ma_of (tb_11 _ (List.mem_of_getElem? (i := 87) rfl)) rfl
theorem k_2458 : (Jvm.Cond.methodLink "MachineLoomModel" (95 : Nat) ({ cls := "MachineLoomModel", name := "jump", desc := "(I)I" } : Jvm.MethodName)) ∈ ma := ma_of (tb_11 _ (List.mem_of_getElem? (i := 58) rfl)) rfl
theorem k_2460 : (Jvm.Cond.instanceMethod ({ cls := "MachineLoomModel", name := "jump", desc := "(I)I" } : Jvm.MethodName)) ∈ ma := ma_of (tb_11 _ (List.mem_of_getElem? (i := 60) rfl)) rfl
theorem ks_127 : Cond.selects "MachineLoomModel" ⟨"MachineLoomModel", "jump", "(I)I"⟩ ⟨"MachineLoomModel", "jump", "(I)I"⟩ ∈ ma := ma_sel 127 rfl rfl
theorem k_2479 : (Jvm.Cond.methodLink "MachineLoomModel" (108 : Nat) ({ cls := "MachineLoomModel", name := "store", desc := "(II)I" } : Jvm.MethodName)) ∈ ma := ma_of (tb_11 _ (List.mem_of_getElem? (i := 79) rfl)) rfl
theorem k_2481 : (Jvm.Cond.instanceMethod ({ cls := "MachineLoomModel", name := "store", desc := "(II)I" } : Jvm.MethodName)) ∈ ma := ma_of (tb_11 _ (List.mem_of_getElem? (i := 81) rfl)) rfl
theorem ks_129 : Cond.selects "MachineLoomModel" ⟨"MachineLoomModel", "store", "(II)I"⟩ ⟨"MachineLoomModel", "store", "(II)I"⟩ ∈ ma := ma_sel 129 rfl rfl
theorem k_2472 : (Jvm.Cond.methodLink "MachineLoomModel" (105 : Nat) ({ cls := "MachineLoomModel", name := "load", desc := "(II)I" } : Jvm.MethodName)) ∈ ma := ma_of (tb_11 _ (List.mem_of_getElem? (i := 72) rfl)) rfl
theorem k_2474 : (Jvm.Cond.instanceMethod ({ cls := "MachineLoomModel", name := "load", desc := "(II)I" } : Jvm.MethodName)) ∈ ma := ma_of (tb_11 _ (List.mem_of_getElem? (i := 74) rfl)) rfl
theorem ks_128 : Cond.selects "MachineLoomModel" ⟨"MachineLoomModel", "load", "(II)I"⟩ ⟨"MachineLoomModel", "load", "(II)I"⟩ ∈ ma := ma_sel 128 rfl rfl
theorem k_2452 : (Jvm.Cond.methodLink "MachineLoomModel" (92 : Nat) ({ cls := "MachineLoomModel", name := "immJ", desc := "(I)I" } : Jvm.MethodName)) ∈ ma := ma_of (tb_11 _ (List.mem_of_getElem? (i := 52) rfl)) rfl
theorem k_2453 : (Jvm.Cond.static ({ cls := "MachineLoomModel", name := "immJ", desc := "(I)I" } : Jvm.MethodName)) ∈ ma := ma_of (tb_11 _ (List.mem_of_getElem? (i := 53) rfl)) rfl
theorem k_2357 : (Jvm.Cond.methodLink "MachineLoomModel" (89 : Nat) ({ cls := "MachineLoomModel", name := "shippedOp", desc := "(I)I" } : Jvm.MethodName)) ∈ ma := ma_of (tb_10 _ (List.mem_of_getElem? (i := 197) rfl)) rfl
theorem k_2358 : (Jvm.Cond.static ({ cls := "MachineLoomModel", name := "shippedOp", desc := "(I)I" } : Jvm.MethodName)) ∈ ma := ma_of (tb_10 _ (List.mem_of_getElem? (i := 198) rfl)) rfl
theorem k_2462 : (Jvm.Cond.methodLink "MachineLoomModel" (98 : Nat) ({ cls := "MachineLoomModel", name := "taken", desc := "(III)Z" } : Jvm.MethodName)) ∈ ma := ma_of (tb_11 _ (List.mem_of_getElem? (i := 62) rfl)) rfl
theorem k_2463 : (Jvm.Cond.static ({ cls := "MachineLoomModel", name := "taken", desc := "(III)Z" } : Jvm.MethodName)) ∈ ma := ma_of (tb_11 _ (List.mem_of_getElem? (i := 63) rfl)) rfl
theorem k_2469 : (Jvm.Cond.methodLink "MachineLoomModel" (102 : Nat) ({ cls := "MachineLoomModel", name := "immB", desc := "(I)I" } : Jvm.MethodName)) ∈ ma := ma_of (tb_11 _ (List.mem_of_getElem? (i := 69) rfl)) rfl
theorem k_2470 : (Jvm.Cond.static ({ cls := "MachineLoomModel", name := "immB", desc := "(I)I" } : Jvm.MethodName)) ∈ ma := ma_of (tb_11 _ (List.mem_of_getElem? (i := 70) rfl)) rfl
theorem d_Model_shippedStep_0 : decode b_Model_shippedStep 0 = .ok (.iload_n 1, 1) := by decide +kernel
theorem d_Model_shippedStep_1 : decode b_Model_shippedStep 1 = .ok (.invokestatic 89, 3) := by decide +kernel
theorem d_Model_shippedStep_4 : decode b_Model_shippedStep 4 = .ok (.istore_n 2, 1) := by decide +kernel
theorem d_Model_shippedStep_5 : decode b_Model_shippedStep 5 = .ok (.aload_n 0, 1) := by decide +kernel
theorem d_Model_shippedStep_6 : decode b_Model_shippedStep 6 = .ok (.getfield 59, 3) := by decide +kernel
theorem d_Model_shippedStep_9 : decode b_Model_shippedStep 9 = .ok (.istore_n 3, 1) := by decide +kernel
theorem d_Model_shippedStep_10 : decode b_Model_shippedStep 10 = .ok (.iload_n 1, 1) := by decide +kernel
theorem d_Model_shippedStep_11 : decode b_Model_shippedStep 11 = .ok (.bipush 11, 2) := by decide +kernel
theorem d_Model_shippedStep_13 : decode b_Model_shippedStep 13 = .ok (.bipush 7, 2) := by decide +kernel
theorem d_Model_shippedStep_15 : decode b_Model_shippedStep 15 = .ok (.invokestatic 44, 3) := by decide +kernel
theorem d_Model_shippedStep_18 : decode b_Model_shippedStep 18 = .ok (.istore 4, 2) := by decide +kernel
theorem d_Model_shippedStep_20 : decode b_Model_shippedStep 20 = .ok (.aload_n 0, 1) := by decide +kernel
theorem d_Model_shippedStep_21 : decode b_Model_shippedStep 21 = .ok (.getfield 21, 3) := by decide +kernel
theorem d_Model_shippedStep_24 : decode b_Model_shippedStep 24 = .ok (.iload_n 1, 1) := by decide +kernel
theorem d_Model_shippedStep_25 : decode b_Model_shippedStep 25 = .ok (.bipush 19, 2) := by decide +kernel
theorem d_Model_shippedStep_27 : decode b_Model_shippedStep 27 = .ok (.bipush 15, 2) := by decide +kernel
theorem d_Model_shippedStep_29 : decode b_Model_shippedStep 29 = .ok (.invokestatic 44, 3) := by decide +kernel
theorem d_Model_shippedStep_32 : decode b_Model_shippedStep 32 = .ok (.iaload, 1) := by decide +kernel
theorem d_Model_shippedStep_33 : decode b_Model_shippedStep 33 = .ok (.istore 5, 2) := by decide +kernel
theorem d_Model_shippedStep_35 : decode b_Model_shippedStep 35 = .ok (.aload_n 0, 1) := by decide +kernel
theorem d_Model_shippedStep_36 : decode b_Model_shippedStep 36 = .ok (.getfield 21, 3) := by decide +kernel
theorem d_Model_shippedStep_39 : decode b_Model_shippedStep 39 = .ok (.iload_n 1, 1) := by decide +kernel
theorem d_Model_shippedStep_40 : decode b_Model_shippedStep 40 = .ok (.bipush 24, 2) := by decide +kernel
theorem d_Model_shippedStep_42 : decode b_Model_shippedStep 42 = .ok (.bipush 20, 2) := by decide +kernel
theorem d_Model_shippedStep_44 : decode b_Model_shippedStep 44 = .ok (.invokestatic 44, 3) := by decide +kernel
theorem d_Model_shippedStep_47 : decode b_Model_shippedStep 47 = .ok (.iaload, 1) := by decide +kernel
theorem d_Model_shippedStep_48 : decode b_Model_shippedStep 48 = .ok (.istore 6, 2) := by decide +kernel
theorem d_Model_shippedStep_50 : decode b_Model_shippedStep 50 = .ok (.iconst 0, 1) := by decide +kernel
theorem d_Model_shippedStep_51 : decode b_Model_shippedStep 51 = .ok (.istore 7, 2) := by decide +kernel
theorem d_Model_shippedStep_53 : decode b_Model_shippedStep 53 = .ok (.iload_n 2, 1) := by decide +kernel
theorem d_Model_shippedStep_54 : decode b_Model_shippedStep 54 = .ok (.ifCond .ge (6), 3) := by decide +kernel
theorem d_Model_shippedStep_57 : decode b_Model_shippedStep 57 = .ok (.bipush (-2), 2) := by decide +kernel
theorem d_Model_shippedStep_59 : decode b_Model_shippedStep 59 = .ok (.ireturn, 1) := by decide +kernel
theorem d_Model_shippedStep_60 : decode b_Model_shippedStep 60 = .ok (.iload_n 2, 1) := by decide +kernel
theorem d_Model_shippedStep_61 : decode b_Model_shippedStep 61 = .ok (.bipush 38, 2) := by decide +kernel
theorem d_Model_shippedStep_63 : decode b_Model_shippedStep 63 = .ok (.if_icmp .ne (6), 3) := by decide +kernel
theorem d_Model_shippedStep_66 : decode b_Model_shippedStep 66 = .ok (.bipush 8, 2) := by decide +kernel
theorem d_Model_shippedStep_68 : decode b_Model_shippedStep 68 = .ok (.ireturn, 1) := by decide +kernel
theorem d_Model_shippedStep_69 : decode b_Model_shippedStep 69 = .ok (.iload_n 2, 1) := by decide +kernel
theorem d_Model_shippedStep_70 : decode b_Model_shippedStep 70 = .ok (.bipush 39, 2) := by decide +kernel
theorem d_Model_shippedStep_72 : decode b_Model_shippedStep 72 = .ok (.if_icmp .ne (5), 3) := by decide +kernel
theorem d_Model_shippedStep_75 : decode b_Model_shippedStep 75 = .ok (.iconst 3, 1) := by decide +kernel
theorem d_Model_shippedStep_76 : decode b_Model_shippedStep 76 = .ok (.ireturn, 1) := by decide +kernel
theorem d_Model_shippedStep_77 : decode b_Model_shippedStep 77 = .ok (.iload_n 2, 1) := by decide +kernel
theorem d_Model_shippedStep_78 : decode b_Model_shippedStep 78 = .ok (.iconst 2, 1) := by decide +kernel
theorem d_Model_shippedStep_79 : decode b_Model_shippedStep 79 = .ok (.if_icmp .eq (8), 3) := by decide +kernel
theorem d_Model_shippedStep_82 : decode b_Model_shippedStep 82 = .ok (.iload_n 2, 1) := by decide +kernel
theorem d_Model_shippedStep_83 : decode b_Model_shippedStep 83 = .ok (.iconst 3, 1) := by decide +kernel
theorem d_Model_shippedStep_84 : decode b_Model_shippedStep 84 = .ok (.if_icmp .ne (53), 3) := by decide +kernel
theorem d_Model_shippedStep_87 : decode b_Model_shippedStep 87 = .ok (.aload_n 0, 1) := by decide +kernel
theorem d_Model_shippedStep_88 : decode b_Model_shippedStep 88 = .ok (.iload_n 2, 1) := by decide +kernel
theorem d_Model_shippedStep_89 : decode b_Model_shippedStep 89 = .ok (.iconst 2, 1) := by decide +kernel
theorem d_Model_shippedStep_90 : decode b_Model_shippedStep 90 = .ok (.if_icmp .ne (15), 3) := by decide +kernel
theorem d_Model_shippedStep_93 : decode b_Model_shippedStep 93 = .ok (.aload_n 0, 1) := by decide +kernel
theorem d_Model_shippedStep_94 : decode b_Model_shippedStep 94 = .ok (.getfield 59, 3) := by decide +kernel
theorem d_Model_shippedStep_97 : decode b_Model_shippedStep 97 = .ok (.iload_n 1, 1) := by decide +kernel
theorem d_Model_shippedStep_98 : decode b_Model_shippedStep 98 = .ok (.invokestatic 92, 3) := by decide +kernel
theorem d_Model_shippedStep_101 : decode b_Model_shippedStep 101 = .ok (.iadd, 1) := by decide +kernel
theorem d_Model_shippedStep_102 : decode b_Model_shippedStep 102 = .ok (.goto (13), 3) := by decide +kernel
theorem d_Model_shippedStep_105 : decode b_Model_shippedStep 105 = .ok (.iload 5, 2) := by decide +kernel
theorem d_Model_shippedStep_107 : decode b_Model_shippedStep 107 = .ok (.iload_n 1, 1) := by decide +kernel
theorem d_Model_shippedStep_108 : decode b_Model_shippedStep 108 = .ok (.invokestatic 70, 3) := by decide +kernel
theorem d_Model_shippedStep_111 : decode b_Model_shippedStep 111 = .ok (.iadd, 1) := by decide +kernel
theorem d_Model_shippedStep_112 : decode b_Model_shippedStep 112 = .ok (.bipush (-2), 2) := by decide +kernel
theorem d_Model_shippedStep_114 : decode b_Model_shippedStep 114 = .ok (.iand, 1) := by decide +kernel
theorem d_Model_shippedStep_115 : decode b_Model_shippedStep 115 = .ok (.invokevirtual 95, 3) := by decide +kernel
theorem d_Model_shippedStep_118 : decode b_Model_shippedStep 118 = .ok (.istore 7, 2) := by decide +kernel
theorem d_Model_shippedStep_120 : decode b_Model_shippedStep 120 = .ok (.iload 7, 2) := by decide +kernel
theorem d_Model_shippedStep_122 : decode b_Model_shippedStep 122 = .ok (.ifCond .ne (12), 3) := by decide +kernel
theorem d_Model_shippedStep_125 : decode b_Model_shippedStep 125 = .ok (.aload_n 0, 1) := by decide +kernel
theorem d_Model_shippedStep_126 : decode b_Model_shippedStep 126 = .ok (.iload 4, 2) := by decide +kernel
theorem d_Model_shippedStep_128 : decode b_Model_shippedStep 128 = .ok (.iload_n 3, 1) := by decide +kernel
theorem d_Model_shippedStep_129 : decode b_Model_shippedStep 129 = .ok (.iconst 4, 1) := by decide +kernel
theorem d_Model_shippedStep_130 : decode b_Model_shippedStep 130 = .ok (.iadd, 1) := by decide +kernel
theorem d_Model_shippedStep_131 : decode b_Model_shippedStep 131 = .ok (.invokevirtual 77, 3) := by decide +kernel
theorem d_Model_shippedStep_134 : decode b_Model_shippedStep 134 = .ok (.iload 7, 2) := by decide +kernel
theorem d_Model_shippedStep_136 : decode b_Model_shippedStep 136 = .ok (.ireturn, 1) := by decide +kernel
theorem d_Model_shippedStep_137 : decode b_Model_shippedStep 137 = .ok (.iload_n 2, 1) := by decide +kernel
theorem d_Model_shippedStep_138 : decode b_Model_shippedStep 138 = .ok (.iconst 4, 1) := by decide +kernel
theorem d_Model_shippedStep_139 : decode b_Model_shippedStep 139 = .ok (.if_icmp .lt (34), 3) := by decide +kernel
theorem d_Model_shippedStep_142 : decode b_Model_shippedStep 142 = .ok (.iload_n 2, 1) := by decide +kernel
theorem d_Model_shippedStep_143 : decode b_Model_shippedStep 143 = .ok (.bipush 9, 2) := by decide +kernel
theorem d_Model_shippedStep_145 : decode b_Model_shippedStep 145 = .ok (.if_icmp .gt (28), 3) := by decide +kernel
theorem d_Model_shippedStep_148 : decode b_Model_shippedStep 148 = .ok (.iload_n 2, 1) := by decide +kernel
theorem d_Model_shippedStep_149 : decode b_Model_shippedStep 149 = .ok (.iload 5, 2) := by decide +kernel
theorem d_Model_shippedStep_151 : decode b_Model_shippedStep 151 = .ok (.iload 6, 2) := by decide +kernel
theorem d_Model_shippedStep_153 : decode b_Model_shippedStep 153 = .ok (.invokestatic 98, 3) := by decide +kernel
theorem d_Model_shippedStep_156 : decode b_Model_shippedStep 156 = .ok (.ifCond .eq (138), 3) := by decide +kernel
theorem d_Model_shippedStep_159 : decode b_Model_shippedStep 159 = .ok (.aload_n 0, 1) := by decide +kernel
theorem d_Model_shippedStep_160 : decode b_Model_shippedStep 160 = .ok (.aload_n 0, 1) := by decide +kernel
theorem d_Model_shippedStep_161 : decode b_Model_shippedStep 161 = .ok (.getfield 59, 3) := by decide +kernel
theorem d_Model_shippedStep_164 : decode b_Model_shippedStep 164 = .ok (.iload_n 1, 1) := by decide +kernel
theorem d_Model_shippedStep_165 : decode b_Model_shippedStep 165 = .ok (.invokestatic 102, 3) := by decide +kernel
theorem d_Model_shippedStep_168 : decode b_Model_shippedStep 168 = .ok (.iadd, 1) := by decide +kernel
theorem d_Model_shippedStep_169 : decode b_Model_shippedStep 169 = .ok (.invokevirtual 95, 3) := by decide +kernel
theorem d_Model_shippedStep_172 : decode b_Model_shippedStep 172 = .ok (.ireturn, 1) := by decide +kernel
theorem d_Model_shippedStep_173 : decode b_Model_shippedStep 173 = .ok (.iload_n 2, 1) := by decide +kernel
theorem d_Model_shippedStep_174 : decode b_Model_shippedStep 174 = .ok (.ifCond .eq (8), 3) := by decide +kernel
theorem d_Model_shippedStep_177 : decode b_Model_shippedStep 177 = .ok (.iload_n 2, 1) := by decide +kernel
theorem d_Model_shippedStep_178 : decode b_Model_shippedStep 178 = .ok (.iconst 1, 1) := by decide +kernel
theorem d_Model_shippedStep_179 : decode b_Model_shippedStep 179 = .ok (.if_icmp .ne (31), 3) := by decide +kernel
theorem d_Model_shippedStep_182 : decode b_Model_shippedStep 182 = .ok (.aload_n 0, 1) := by decide +kernel
theorem d_Model_shippedStep_183 : decode b_Model_shippedStep 183 = .ok (.iload 4, 2) := by decide +kernel
theorem d_Model_shippedStep_185 : decode b_Model_shippedStep 185 = .ok (.iload_n 1, 1) := by decide +kernel
theorem d_Model_shippedStep_186 : decode b_Model_shippedStep 186 = .ok (.sipush (-4096), 3) := by decide +kernel
theorem d_Model_shippedStep_189 : decode b_Model_shippedStep 189 = .ok (.iand, 1) := by decide +kernel
theorem d_Model_shippedStep_190 : decode b_Model_shippedStep 190 = .ok (.iload_n 2, 1) := by decide +kernel
theorem d_Model_shippedStep_191 : decode b_Model_shippedStep 191 = .ok (.iconst 1, 1) := by decide +kernel
theorem d_Model_shippedStep_192 : decode b_Model_shippedStep 192 = .ok (.if_icmp .ne (10), 3) := by decide +kernel
theorem d_Model_shippedStep_195 : decode b_Model_shippedStep 195 = .ok (.aload_n 0, 1) := by decide +kernel
theorem d_Model_shippedStep_196 : decode b_Model_shippedStep 196 = .ok (.getfield 59, 3) := by decide +kernel
theorem d_Model_shippedStep_199 : decode b_Model_shippedStep 199 = .ok (.goto (4), 3) := by decide +kernel
theorem d_Model_shippedStep_202 : decode b_Model_shippedStep 202 = .ok (.iconst 0, 1) := by decide +kernel
theorem d_Model_shippedStep_203 : decode b_Model_shippedStep 203 = .ok (.iadd, 1) := by decide +kernel
theorem d_Model_shippedStep_204 : decode b_Model_shippedStep 204 = .ok (.invokevirtual 77, 3) := by decide +kernel
theorem d_Model_shippedStep_207 : decode b_Model_shippedStep 207 = .ok (.goto (87), 3) := by decide +kernel
theorem d_Model_shippedStep_210 : decode b_Model_shippedStep 210 = .ok (.iload_n 2, 1) := by decide +kernel
theorem d_Model_shippedStep_211 : decode b_Model_shippedStep 211 = .ok (.bipush 14, 2) := by decide +kernel
theorem d_Model_shippedStep_213 : decode b_Model_shippedStep 213 = .ok (.if_icmp .gt (14), 3) := by decide +kernel
theorem d_Model_shippedStep_216 : decode b_Model_shippedStep 216 = .ok (.aload_n 0, 1) := by decide +kernel
theorem d_Model_shippedStep_217 : decode b_Model_shippedStep 217 = .ok (.iload_n 2, 1) := by decide +kernel
theorem d_Model_shippedStep_218 : decode b_Model_shippedStep 218 = .ok (.iload_n 1, 1) := by decide +kernel
theorem d_Model_shippedStep_219 : decode b_Model_shippedStep 219 = .ok (.invokevirtual 105, 3) := by decide +kernel
theorem d_Model_shippedStep_222 : decode b_Model_shippedStep 222 = .ok (.istore 7, 2) := by decide +kernel
theorem d_Model_shippedStep_224 : decode b_Model_shippedStep 224 = .ok (.goto (70), 3) := by decide +kernel
theorem d_Model_shippedStep_227 : decode b_Model_shippedStep 227 = .ok (.iload_n 2, 1) := by decide +kernel
theorem d_Model_shippedStep_228 : decode b_Model_shippedStep 228 = .ok (.bipush 17, 2) := by decide +kernel
theorem d_Model_shippedStep_230 : decode b_Model_shippedStep 230 = .ok (.if_icmp .gt (14), 3) := by decide +kernel
theorem d_Model_shippedStep_233 : decode b_Model_shippedStep 233 = .ok (.aload_n 0, 1) := by decide +kernel
theorem d_Model_shippedStep_234 : decode b_Model_shippedStep 234 = .ok (.iload_n 2, 1) := by decide +kernel
theorem d_Model_shippedStep_235 : decode b_Model_shippedStep 235 = .ok (.iload_n 1, 1) := by decide +kernel
theorem d_Model_shippedStep_236 : decode b_Model_shippedStep 236 = .ok (.invokevirtual 108, 3) := by decide +kernel
theorem d_Model_shippedStep_239 : decode b_Model_shippedStep 239 = .ok (.istore 7, 2) := by decide +kernel
theorem d_Model_shippedStep_241 : decode b_Model_shippedStep 241 = .ok (.goto (53), 3) := by decide +kernel
theorem d_Model_shippedStep_244 : decode b_Model_shippedStep 244 = .ok (.iload_n 2, 1) := by decide +kernel
theorem d_Model_shippedStep_245 : decode b_Model_shippedStep 245 = .ok (.bipush 37, 2) := by decide +kernel
theorem d_Model_shippedStep_247 : decode b_Model_shippedStep 247 = .ok (.if_icmp .eq (47), 3) := by decide +kernel
theorem d_Model_shippedStep_250 : decode b_Model_shippedStep 250 = .ok (.aload_n 0, 1) := by decide +kernel
theorem d_Model_shippedStep_251 : decode b_Model_shippedStep 251 = .ok (.iload 4, 2) := by decide +kernel
theorem d_Model_shippedStep_253 : decode b_Model_shippedStep 253 = .ok (.iload_n 2, 1) := by decide +kernel
theorem d_Model_shippedStep_254 : decode b_Model_shippedStep 254 = .ok (.iload 5, 2) := by decide +kernel
theorem d_Model_shippedStep_256 : decode b_Model_shippedStep 256 = .ok (.iload_n 2, 1) := by decide +kernel
theorem d_Model_shippedStep_257 : decode b_Model_shippedStep 257 = .ok (.bipush 23, 2) := by decide +kernel
theorem d_Model_shippedStep_259 : decode b_Model_shippedStep 259 = .ok (.if_icmp .gt (10), 3) := by decide +kernel
theorem d_Model_shippedStep_262 : decode b_Model_shippedStep 262 = .ok (.iload_n 1, 1) := by decide +kernel
theorem d_Model_shippedStep_263 : decode b_Model_shippedStep 263 = .ok (.invokestatic 70, 3) := by decide +kernel
theorem d_Model_shippedStep_266 : decode b_Model_shippedStep 266 = .ok (.goto (22), 3) := by decide +kernel
theorem d_Model_shippedStep_269 : decode b_Model_shippedStep 269 = .ok (.iload_n 2, 1) := by decide +kernel
theorem d_Model_shippedStep_270 : decode b_Model_shippedStep 270 = .ok (.bipush 26, 2) := by decide +kernel
theorem d_Model_shippedStep_272 : decode b_Model_shippedStep 272 = .ok (.if_icmp .gt (14), 3) := by decide +kernel
theorem d_Model_shippedStep_275 : decode b_Model_shippedStep 275 = .ok (.iload_n 1, 1) := by decide +kernel
theorem d_Model_shippedStep_276 : decode b_Model_shippedStep 276 = .ok (.bipush 24, 2) := by decide +kernel
theorem d_Model_shippedStep_278 : decode b_Model_shippedStep 278 = .ok (.bipush 20, 2) := by decide +kernel
theorem d_Model_shippedStep_280 : decode b_Model_shippedStep 280 = .ok (.invokestatic 44, 3) := by decide +kernel
theorem d_Model_shippedStep_283 : decode b_Model_shippedStep 283 = .ok (.goto (5), 3) := by decide +kernel
theorem d_Model_shippedStep_286 : decode b_Model_shippedStep 286 = .ok (.iload 6, 2) := by decide +kernel
theorem d_Model_shippedStep_288 : decode b_Model_shippedStep 288 = .ok (.invokestatic 111, 3) := by decide +kernel
theorem d_Model_shippedStep_291 : decode b_Model_shippedStep 291 = .ok (.invokevirtual 77, 3) := by decide +kernel
theorem d_Model_shippedStep_294 : decode b_Model_shippedStep 294 = .ok (.iload 7, 2) := by decide +kernel
theorem d_Model_shippedStep_296 : decode b_Model_shippedStep 296 = .ok (.ifCond .ne (10), 3) := by decide +kernel
theorem d_Model_shippedStep_299 : decode b_Model_shippedStep 299 = .ok (.aload_n 0, 1) := by decide +kernel
theorem d_Model_shippedStep_300 : decode b_Model_shippedStep 300 = .ok (.iload_n 3, 1) := by decide +kernel
theorem d_Model_shippedStep_301 : decode b_Model_shippedStep 301 = .ok (.iconst 4, 1) := by decide +kernel
theorem d_Model_shippedStep_302 : decode b_Model_shippedStep 302 = .ok (.iadd, 1) := by decide +kernel
theorem d_Model_shippedStep_303 : decode b_Model_shippedStep 303 = .ok (.putfield 59, 3) := by decide +kernel
theorem d_Model_shippedStep_306 : decode b_Model_shippedStep 306 = .ok (.iload 7, 2) := by decide +kernel
theorem d_Model_shippedStep_308 : decode b_Model_shippedStep 308 = .ok (.ireturn, 1) := by decide +kernel
set_option maxHeartbeats 4000000 in
set_option maxRecDepth 100000 in
theorem c_Model_shippedStep (l : Launch) {dA : FieldType → ClassId} {D : va_G} {al : Nat → Nat} {ext : mv_Sh} {sk sv : Nat → Nat} (hi : mv_inj (mg dA D al ext)) (σ : mv_H) (hmr : mh (mv_r σ)) (w : Int32) : mv_C l y_Model_shippedStep (Cond.code y_Model_shippedStep b_Model_shippedStep 8 (Option.some Jvm.ClassFile.FieldType.int) :: ma) ({ frames := 3, cells := 0, slots := 0, locals := 72 }) (mg dA D al ext) (mK sk sv) [.ref (al 70), .int w] σ (mv_Ri (fun v σ1 => SM σ σ1)) := by
  refine mv_C.ofV (cc := b_Model_shippedStep) (nL := 8) (ret := (Option.some Jvm.ClassFile.FieldType.int)) (by decide +kernel) rfl hi (Nat.le_of_ble_eq_true rfl) ?_
  intro p e s m below meth c B hNs hr hnm hno
  refine mv_iload_n (pc := 0) B d_Model_shippedStep_0 rfl 1 rfl ?_
  refine mv_callSi (pc := 1) (n := 1) B (mK_ok sk sv) hNs (c_Model_shippedOp l hi _ _) rfl (ma_goodc kc_Model_shippedOp) (B.2.2.2.1 _ k_2357) (B.2.2.2.1 _ k_2358) (B.2.2.2.1 _ k_12) ⟨by decide +kernel, by decide +kernel, by decide +kernel⟩ rfl d_Model_shippedStep_1 rfl (Nat.le_of_ble_eq_true rfl) ⟨by decide, by decide⟩ ⟨by decide, by decide⟩ ⟨by decide, by decide⟩ (mv_noH hno _) (fun v1 σ1 h1 => ?_)
  have e1 := h1.symm
  subst e1
  refine mv_istore_n (pc := 4) B d_Model_shippedStep_4 rfl (by decide) rfl ?_
  refine mv_aload_n (pc := 5) B d_Model_shippedStep_5 rfl 1 rfl ?_
  refine mv_getI (pc := 6) (ci := 11) (C := R_Model) (T := F_Model) (N := 16) B 6 rfl rfl (by decide) i_Model (B.2.2.2.1 _ k_2051) rfl d_Model_shippedStep_6 ?_
  refine mv_istore_n (pc := 9) B d_Model_shippedStep_9 rfl (by decide) rfl ?_
  refine mv_iload_n (pc := 10) B d_Model_shippedStep_10 rfl 3 rfl ?_
  refine mv_bipush (pc := 11) (v := 11) B d_Model_shippedStep_11 (by decide) ?_
  refine mv_bipush (pc := 13) (v := 7) B d_Model_shippedStep_13 (by decide) ?_
  refine mv_callSi (pc := 15) (n := 3) B (mK_ok sk sv) hNs (c_Model_piece l hi _ _ _ _) rfl (ma_goodc kc_Model_piece) (B.2.2.2.1 _ k_2360) (B.2.2.2.1 _ k_2361) (B.2.2.2.1 _ k_12) ⟨by decide +kernel, by decide +kernel, by decide +kernel⟩ rfl d_Model_shippedStep_15 rfl (Nat.le_of_ble_eq_true rfl) ⟨by decide, by decide⟩ ⟨by decide, by decide⟩ ⟨by decide, by decide⟩ (mv_noH hno _) (fun v15 σ15 h15 => ?_)
  obtain ⟨e15, z15⟩ := h15
  have e15 := e15.symm
  subst e15
  have z15 := p5_of z15 (by decide)
  refine mv_istore (pc := 18) B d_Model_shippedStep_18 (by decide) rfl ?_
  refine mv_aload_n (pc := 20) B d_Model_shippedStep_20 rfl 3 rfl ?_
  refine mv_getR (pc := 21) (ci := 11) (C := R_Model) (T := F_Model) (N := 16) B 7 rfl rfl (by decide) i_Model (B.2.2.2.1 _ k_2052) rfl (hmr _ 7 _ rfl) d_Model_shippedStep_21 ?_
  refine mv_iload_n (pc := 24) B d_Model_shippedStep_24 rfl 4 rfl ?_
  refine mv_bipush (pc := 25) (v := 19) B d_Model_shippedStep_25 (by decide) ?_
  refine mv_bipush (pc := 27) (v := 15) B d_Model_shippedStep_27 (by decide) ?_
  refine mv_callSi (pc := 29) (n := 3) B (mK_ok sk sv) hNs (c_Model_piece l hi _ _ _ _) rfl (ma_goodc kc_Model_piece) (B.2.2.2.1 _ k_2360) (B.2.2.2.1 _ k_2361) (B.2.2.2.1 _ k_12) ⟨by decide +kernel, by decide +kernel, by decide +kernel⟩ rfl d_Model_shippedStep_29 rfl (Nat.le_of_ble_eq_true rfl) ⟨by decide, by decide⟩ ⟨by decide, by decide⟩ ⟨by decide, by decide⟩ (mv_noH hno _) (fun v29 σ29 h29 => ?_)
  obtain ⟨e29, z29⟩ := h29
  have e29 := e29.symm
  subst e29
  have z29 := p5_of z29 (by decide)
  refine mv_iald (pc := 32) B rfl (i32_in z29.1 z29.2) d_Model_shippedStep_32 ?_
  refine mv_istore (pc := 33) B d_Model_shippedStep_33 (by decide) rfl ?_
  refine mv_aload_n (pc := 35) B d_Model_shippedStep_35 rfl 4 rfl ?_
  refine mv_getR (pc := 36) (ci := 11) (C := R_Model) (T := F_Model) (N := 16) B 7 rfl rfl (by decide) i_Model (B.2.2.2.1 _ k_2052) rfl (hmr _ 7 _ rfl) d_Model_shippedStep_36 ?_
  refine mv_iload_n (pc := 39) B d_Model_shippedStep_39 rfl 5 rfl ?_
  refine mv_bipush (pc := 40) (v := 24) B d_Model_shippedStep_40 (by decide) ?_
  refine mv_bipush (pc := 42) (v := 20) B d_Model_shippedStep_42 (by decide) ?_
  refine mv_callSi (pc := 44) (n := 3) B (mK_ok sk sv) hNs (c_Model_piece l hi _ _ _ _) rfl (ma_goodc kc_Model_piece) (B.2.2.2.1 _ k_2360) (B.2.2.2.1 _ k_2361) (B.2.2.2.1 _ k_12) ⟨by decide +kernel, by decide +kernel, by decide +kernel⟩ rfl d_Model_shippedStep_44 rfl (Nat.le_of_ble_eq_true rfl) ⟨by decide, by decide⟩ ⟨by decide, by decide⟩ ⟨by decide, by decide⟩ (mv_noH hno _) (fun v44 σ44 h44 => ?_)
  obtain ⟨e44, z44⟩ := h44
  have e44 := e44.symm
  subst e44
  have z44 := p5_of z44 (by decide)
  refine mv_iald (pc := 47) B rfl (i32_in z44.1 z44.2) d_Model_shippedStep_47 ?_
  refine mv_istore (pc := 48) B d_Model_shippedStep_48 (by decide) rfl ?_
  refine mv_iconst (pc := 50) (v := 0) B d_Model_shippedStep_50 (by decide) ?_
  refine mv_istore (pc := 51) B d_Model_shippedStep_51 (by decide) rfl ?_
  have j294 : ∀ (τ : mv_H) (e9 : Int32) (t9 : Int32) (hF : SM σ τ), mv_V p l e ({ frames := 3, cells := 0, slots := 0, locals := 72 }) s m ([.ref (al 70), .int w] : List Value).toArray below meth c (mg dA D al ext) 8 0 0 (mv_Q (mg dA D al ext) below s 0 0 (mv_Ri (fun v σ1 => SM σ σ1))) τ 294 [(7, .int t9), (3, .int e9), (0, .ref (al 70))] [] := by
    intro τ e9 t9 hF
    refine mv_iload (pc := 294) B d_Model_shippedStep_294 0 rfl ?_
    refine mv_if_ne (pc := 296) (tgt := 306) B d_Model_shippedStep_296 rfl (fun h296 => ?_) (fun h296 => ?_)
    · skip
      refine mv_iload (pc := 306) B d_Model_shippedStep_306 0 rfl ?_
      exact mv_iret (pc := 308) B hr rfl d_Model_shippedStep_308 (Nat.le_refl _) (Nat.le_refl _) ⟨_, rfl, by first | exact hF | exact hF.si (by decide)⟩
    · skip
      refine mv_aload_n (pc := 299) B d_Model_shippedStep_299 rfl 2 rfl ?_
      refine mv_iload_n (pc := 300) B d_Model_shippedStep_300 rfl 1 rfl ?_
      refine mv_iconst (pc := 301) (v := 4) B d_Model_shippedStep_301 (by decide) ?_
      refine mv_iadd (pc := 302) B d_Model_shippedStep_302 ?_
      refine mv_putI (pc := 303) (ci := 11) (C := R_Model) (T := F_Model) (N := 16) B 6 rfl rfl (by decide) i_Model t_Model_ok n_Model (B.2.2.2.1 _ k_2051) rfl rfl rfl rfl d_Model_shippedStep_303 ?_
      refine mv_iload (pc := 306) B d_Model_shippedStep_306 0 rfl ?_
      exact mv_iret (pc := 308) B hr rfl d_Model_shippedStep_308 (Nat.le_refl _) (Nat.le_refl _) ⟨_, rfl, by first | exact hF | exact hF.si (by decide)⟩
  have j288 : ∀ (e9 : Int32) (p9 : Int32) (r9 : Int32) , mv_V p l e ({ frames := 3, cells := 0, slots := 0, locals := 72 }) s m ([.ref (al 70), .int w] : List Value).toArray below meth c (mg dA D al ext) 8 0 0 (mv_Q (mg dA D al ext) below s 0 0 (mv_Ri (fun v σ1 => SM σ σ1))) σ 288 [(3, .int e9), (0, .ref (al 70)), (7, .int 0)] [.int r9, .int p9, .int v1, .int v15, .ref (al 70)] := by
    intro e9 p9 r9
    refine mv_callSi (pc := 288) (n := 3) B (mK_ok sk sv) hNs (c_Model_reckon l hi _ _ _ _) rfl (ma_goodc kc_Model_reckon) (B.2.2.2.1 _ k_2486) (B.2.2.2.1 _ k_2487) (B.2.2.2.1 _ k_12) ⟨by decide +kernel, by decide +kernel, by decide +kernel⟩ rfl d_Model_shippedStep_288 rfl (Nat.le_of_ble_eq_true rfl) ⟨by decide, by decide⟩ ⟨by decide, by decide⟩ ⟨by decide, by decide⟩ (mv_noH hno _) (fun v288 σ288 h288 => ?_)
    have e288 := h288.symm
    subst e288
    refine mv_callVv (pc := 291) (n := 2) (ci := 11) (C := R_Model) B (mK_ok sk sv) hNs rfl rfl (c_Model_set l hi _ hmr _ _ z15) rfl (ma_goodc kc_Model_set) (B.2.2.2.1 _ k_2430) (B.2.2.2.1 _ k_2432) (B.2.2.2.1 _ ks_125) (B.2.2.2.1 _ k_12) ⟨by decide +kernel, by decide +kernel, by decide +kernel⟩ rfl d_Model_shippedStep_291 rfl (Nat.le_of_ble_eq_true rfl) ⟨by decide, by decide⟩ ⟨by decide, by decide⟩ ⟨by decide, by decide⟩ (mv_noH hno _) (fun σ291 h291 => ?_)
    refine mv_lpick [2, 0, 1] rfl ?_
    exact j294 _ _ _ (by first | exact Fx.rf | exact h204 | exact h219 | exact h236 | exact h291)
  have j115 : ∀ (e9 : Int32) (r9 : Int32) , mv_V p l e ({ frames := 3, cells := 0, slots := 0, locals := 72 }) s m ([.ref (al 70), .int w] : List Value).toArray below meth c (mg dA D al ext) 8 0 0 (mv_Q (mg dA D al ext) below s 0 0 (mv_Ri (fun v σ1 => SM σ σ1))) σ 115 [(3, .int e9), (4, .int v15), (0, .ref (al 70))] [.int r9, .ref (al 70)] := by
    intro e9 r9
    refine mv_callVi (pc := 115) (n := 1) (ci := 11) (C := R_Model) B (mK_ok sk sv) hNs rfl rfl (c_Model_jump l hi _ _) rfl (ma_goodc kc_Model_jump) (B.2.2.2.1 _ k_2458) (B.2.2.2.1 _ k_2460) (B.2.2.2.1 _ ks_127) (B.2.2.2.1 _ k_12) ⟨by decide +kernel, by decide +kernel, by decide +kernel⟩ rfl d_Model_shippedStep_115 rfl (Nat.le_of_ble_eq_true rfl) ⟨by decide, by decide⟩ ⟨by decide, by decide⟩ ⟨by decide, by decide⟩ (mv_noH hno _) (fun v115 σ115 h115 => ?_)
    refine mv_istore (pc := 118) B d_Model_shippedStep_118 (by decide) rfl ?_
    refine mv_iload (pc := 120) B d_Model_shippedStep_120 0 rfl ?_
    refine mv_if_ne (pc := 122) (tgt := 134) B d_Model_shippedStep_122 rfl (fun h122 => ?_) (fun h122 => ?_)
    · skip
      refine mv_iload (pc := 134) B d_Model_shippedStep_134 0 rfl ?_
      exact mv_iret (pc := 136) B hr rfl d_Model_shippedStep_136 (Nat.le_refl _) (Nat.le_refl _) ⟨_, rfl, by first | exact h115.tr h131 | exact h115⟩
    · skip
      refine mv_aload_n (pc := 125) B d_Model_shippedStep_125 rfl 3 rfl ?_
      refine mv_iload (pc := 126) B d_Model_shippedStep_126 2 rfl ?_
      refine mv_iload_n (pc := 128) B d_Model_shippedStep_128 rfl 1 rfl ?_
      refine mv_iconst (pc := 129) (v := 4) B d_Model_shippedStep_129 (by decide) ?_
      refine mv_iadd (pc := 130) B d_Model_shippedStep_130 ?_
      refine mv_callVv (pc := 131) (n := 2) (ci := 11) (C := R_Model) B (mK_ok sk sv) hNs rfl rfl (c_Model_set l hi _ (h115.r hmr) _ _ z15) rfl (ma_goodc kc_Model_set) (B.2.2.2.1 _ k_2430) (B.2.2.2.1 _ k_2432) (B.2.2.2.1 _ ks_125) (B.2.2.2.1 _ k_12) ⟨by decide +kernel, by decide +kernel, by decide +kernel⟩ rfl d_Model_shippedStep_131 rfl (Nat.le_of_ble_eq_true rfl) ⟨by decide, by decide⟩ ⟨by decide, by decide⟩ ⟨by decide, by decide⟩ (mv_noH hno _) (fun σ131 h131 => ?_)
      refine mv_iload (pc := 134) B d_Model_shippedStep_134 0 rfl ?_
      exact mv_iret (pc := 136) B hr rfl d_Model_shippedStep_136 (Nat.le_refl _) (Nat.le_refl _) ⟨_, rfl, by first | exact h115.tr h131 | exact h115⟩
  have j203 : ∀ (e9 : Int32) (p9 : Int32) (r9 : Int32) , mv_V p l e ({ frames := 3, cells := 0, slots := 0, locals := 72 }) s m ([.ref (al 70), .int w] : List Value).toArray below meth c (mg dA D al ext) 8 0 0 (mv_Q (mg dA D al ext) below s 0 0 (mv_Ri (fun v σ1 => SM σ σ1))) σ 203 [(3, .int e9), (0, .ref (al 70)), (7, .int 0)] [.int r9, .int p9, .int v15, .ref (al 70)] := by
    intro e9 p9 r9
    refine mv_iadd (pc := 203) B d_Model_shippedStep_203 ?_
    refine mv_callVv (pc := 204) (n := 2) (ci := 11) (C := R_Model) B (mK_ok sk sv) hNs rfl rfl (c_Model_set l hi _ hmr _ _ z15) rfl (ma_goodc kc_Model_set) (B.2.2.2.1 _ k_2430) (B.2.2.2.1 _ k_2432) (B.2.2.2.1 _ ks_125) (B.2.2.2.1 _ k_12) ⟨by decide +kernel, by decide +kernel, by decide +kernel⟩ rfl d_Model_shippedStep_204 rfl (Nat.le_of_ble_eq_true rfl) ⟨by decide, by decide⟩ ⟨by decide, by decide⟩ ⟨by decide, by decide⟩ (mv_noH hno _) (fun σ204 h204 => ?_)
    refine mv_goto (pc := 207) (tgt := 294) B d_Model_shippedStep_207 rfl ?_
    refine mv_lpick [2, 0, 1] rfl ?_
    exact j294 _ _ _ (by first | exact Fx.rf | exact h204 | exact h219 | exact h236 | exact h291)
  have j173 : ∀ (e9 : Int32) (p9 : Int32) (q9 : Int32) , mv_V p l e ({ frames := 3, cells := 0, slots := 0, locals := 72 }) s m ([.ref (al 70), .int w] : List Value).toArray below meth c (mg dA D al ext) 8 0 0 (mv_Q (mg dA D al ext) below s 0 0 (mv_Ri (fun v σ1 => SM σ σ1))) σ 173 [(2, .int v1), (3, .int e9), (4, .int v15), (5, .int p9), (6, .int q9), (0, .ref (al 70)), (1, .int w), (7, .int 0)] [] := by
    intro e9 p9 q9
    refine mv_iload_n (pc := 173) B d_Model_shippedStep_173 rfl 0 rfl ?_
    refine mv_if_eq (pc := 174) (tgt := 182) B d_Model_shippedStep_174 rfl (fun h174 => ?_) (fun h174 => ?_)
    · skip
      refine mv_aload_n (pc := 182) B d_Model_shippedStep_182 rfl 5 rfl ?_
      refine mv_iload (pc := 183) B d_Model_shippedStep_183 2 rfl ?_
      refine mv_iload_n (pc := 185) B d_Model_shippedStep_185 rfl 6 rfl ?_
      refine mv_sipush (pc := 186) (v := -4096) B d_Model_shippedStep_186 (by decide) ?_
      refine mv_iand (pc := 189) B d_Model_shippedStep_189 ?_
      refine mv_iload_n (pc := 190) B d_Model_shippedStep_190 rfl 0 rfl ?_
      refine mv_iconst (pc := 191) (v := 1) B d_Model_shippedStep_191 (by decide) ?_
      refine mv_icmp_ne (pc := 192) (tgt := 202) B d_Model_shippedStep_192 rfl (fun h192 => ?_) (fun h192 => ?_)
      · skip
        refine mv_iconst (pc := 202) (v := 0) B d_Model_shippedStep_202 (by decide) ?_
        refine mv_lpick [1, 5, 7] rfl ?_
        exact j203 _ _ _
      · skip
        refine mv_aload_n (pc := 195) B d_Model_shippedStep_195 rfl 5 rfl ?_
        refine mv_getI (pc := 196) (ci := 11) (C := R_Model) (T := F_Model) (N := 16) B 6 rfl rfl (by decide) i_Model (B.2.2.2.1 _ k_2051) rfl d_Model_shippedStep_196 ?_
        refine mv_goto (pc := 199) (tgt := 203) B d_Model_shippedStep_199 rfl ?_
        refine mv_lpick [1, 5, 7] rfl ?_
        exact j203 _ _ _
    · skip
      refine mv_iload_n (pc := 177) B d_Model_shippedStep_177 rfl 0 rfl ?_
      refine mv_iconst (pc := 178) (v := 1) B d_Model_shippedStep_178 (by decide) ?_
      refine mv_icmp_ne (pc := 179) (tgt := 210) B d_Model_shippedStep_179 rfl (fun h179 => ?_) (fun h179 => ?_)
      · skip
        refine mv_iload_n (pc := 210) B d_Model_shippedStep_210 rfl 0 rfl ?_
        refine mv_bipush (pc := 211) (v := 14) B d_Model_shippedStep_211 (by decide) ?_
        refine mv_icmp_gt (pc := 213) (tgt := 227) B d_Model_shippedStep_213 rfl (fun h213 => ?_) (fun h213 => ?_)
        · skip
          refine mv_iload_n (pc := 227) B d_Model_shippedStep_227 rfl 0 rfl ?_
          refine mv_bipush (pc := 228) (v := 17) B d_Model_shippedStep_228 (by decide) ?_
          refine mv_icmp_gt (pc := 230) (tgt := 244) B d_Model_shippedStep_230 rfl (fun h230 => ?_) (fun h230 => ?_)
          · skip
            refine mv_iload_n (pc := 244) B d_Model_shippedStep_244 rfl 0 rfl ?_
            refine mv_bipush (pc := 245) (v := 37) B d_Model_shippedStep_245 (by decide) ?_
            refine mv_icmp_eq (pc := 247) (tgt := 294) B d_Model_shippedStep_247 rfl (fun h247 => ?_) (fun h247 => ?_)
            · skip
              refine mv_lpick [7, 1, 5] rfl ?_
              exact j294 _ _ _ (by first | exact Fx.rf | exact h204 | exact h219 | exact h236 | exact h291)
            · skip
              refine mv_aload_n (pc := 250) B d_Model_shippedStep_250 rfl 5 rfl ?_
              refine mv_iload (pc := 251) B d_Model_shippedStep_251 2 rfl ?_
              refine mv_iload_n (pc := 253) B d_Model_shippedStep_253 rfl 0 rfl ?_
              refine mv_iload (pc := 254) B d_Model_shippedStep_254 3 rfl ?_
              refine mv_iload_n (pc := 256) B d_Model_shippedStep_256 rfl 0 rfl ?_
              refine mv_bipush (pc := 257) (v := 23) B d_Model_shippedStep_257 (by decide) ?_
              refine mv_icmp_gt (pc := 259) (tgt := 269) B d_Model_shippedStep_259 rfl (fun h259 => ?_) (fun h259 => ?_)
              · skip
                refine mv_iload_n (pc := 269) B d_Model_shippedStep_269 rfl 0 rfl ?_
                refine mv_bipush (pc := 270) (v := 26) B d_Model_shippedStep_270 (by decide) ?_
                refine mv_icmp_gt (pc := 272) (tgt := 286) B d_Model_shippedStep_272 rfl (fun h272 => ?_) (fun h272 => ?_)
                · skip
                  refine mv_iload (pc := 286) B d_Model_shippedStep_286 4 rfl ?_
                  refine mv_lpick [1, 5, 7] rfl ?_
                  exact j288 _ _ _
                · skip
                  refine mv_iload_n (pc := 275) B d_Model_shippedStep_275 rfl 6 rfl ?_
                  refine mv_bipush (pc := 276) (v := 24) B d_Model_shippedStep_276 (by decide) ?_
                  refine mv_bipush (pc := 278) (v := 20) B d_Model_shippedStep_278 (by decide) ?_
                  refine mv_callSi (pc := 280) (n := 3) B (mK_ok sk sv) hNs (c_Model_piece l hi _ _ _ _) rfl (ma_goodc kc_Model_piece) (B.2.2.2.1 _ k_2360) (B.2.2.2.1 _ k_2361) (B.2.2.2.1 _ k_12) ⟨by decide +kernel, by decide +kernel, by decide +kernel⟩ rfl d_Model_shippedStep_280 rfl (Nat.le_of_ble_eq_true rfl) ⟨by decide, by decide⟩ ⟨by decide, by decide⟩ ⟨by decide, by decide⟩ (mv_noH hno _) (fun v280 σ280 h280 => ?_)
                  obtain ⟨e280, z280⟩ := h280
                  have e280 := e280.symm
                  subst e280
                  clear z280
                  refine mv_goto (pc := 283) (tgt := 288) B d_Model_shippedStep_283 rfl ?_
                  refine mv_lpick [1, 5, 7] rfl ?_
                  exact j288 _ _ _
              · skip
                refine mv_iload_n (pc := 262) B d_Model_shippedStep_262 rfl 6 rfl ?_
                refine mv_callSi (pc := 263) (n := 1) B (mK_ok sk sv) hNs (c_Model_immI l hi _ _) rfl (ma_goodc kc_Model_immI) (B.2.2.2.1 _ k_2455) (B.2.2.2.1 _ k_2456) (B.2.2.2.1 _ k_12) ⟨by decide +kernel, by decide +kernel, by decide +kernel⟩ rfl d_Model_shippedStep_263 rfl (Nat.le_of_ble_eq_true rfl) ⟨by decide, by decide⟩ ⟨by decide, by decide⟩ ⟨by decide, by decide⟩ (mv_noH hno _) (fun v263 σ263 h263 => ?_)
                have e263 := h263.symm
                subst e263
                refine mv_goto (pc := 266) (tgt := 288) B d_Model_shippedStep_266 rfl ?_
                refine mv_lpick [1, 5, 7] rfl ?_
                exact j288 _ _ _
          · skip
            have ho : v1 = 15 ∨ v1 = 16 ∨ v1 = 17 := op_st h213 h230
            refine mv_aload_n (pc := 233) B d_Model_shippedStep_233 rfl 5 rfl ?_
            refine mv_iload_n (pc := 234) B d_Model_shippedStep_234 rfl 0 rfl ?_
            refine mv_iload_n (pc := 235) B d_Model_shippedStep_235 rfl 6 rfl ?_
            refine mv_callVi (pc := 236) (n := 2) (ci := 11) (C := R_Model) B (mK_ok sk sv) hNs rfl rfl (c_Model_store l hi _ hmr _ _ ho) rfl (ma_goodc kc_Model_store) (B.2.2.2.1 _ k_2479) (B.2.2.2.1 _ k_2481) (B.2.2.2.1 _ ks_129) (B.2.2.2.1 _ k_12) ⟨by decide +kernel, by decide +kernel, by decide +kernel⟩ rfl d_Model_shippedStep_236 rfl (Nat.le_of_ble_eq_true rfl) ⟨by decide, by decide⟩ ⟨by decide, by decide⟩ ⟨by decide, by decide⟩ (mv_noH hno _) (fun v236 σ236 h236 => ?_)
            refine mv_istore (pc := 239) B d_Model_shippedStep_239 (by decide) rfl ?_
            refine mv_goto (pc := 241) (tgt := 294) B d_Model_shippedStep_241 rfl ?_
            refine mv_lpick [0, 2, 6] rfl ?_
            exact j294 _ _ _ (by first | exact Fx.rf | exact h204 | exact h219 | exact h236 | exact h291)
        · skip
          refine mv_aload_n (pc := 216) B d_Model_shippedStep_216 rfl 5 rfl ?_
          refine mv_iload_n (pc := 217) B d_Model_shippedStep_217 rfl 0 rfl ?_
          refine mv_iload_n (pc := 218) B d_Model_shippedStep_218 rfl 6 rfl ?_
          refine mv_callVi (pc := 219) (n := 2) (ci := 11) (C := R_Model) B (mK_ok sk sv) hNs rfl rfl (c_Model_load l hi _ hmr _ _) rfl (ma_goodc kc_Model_load) (B.2.2.2.1 _ k_2472) (B.2.2.2.1 _ k_2474) (B.2.2.2.1 _ ks_128) (B.2.2.2.1 _ k_12) ⟨by decide +kernel, by decide +kernel, by decide +kernel⟩ rfl d_Model_shippedStep_219 rfl (Nat.le_of_ble_eq_true rfl) ⟨by decide, by decide⟩ ⟨by decide, by decide⟩ ⟨by decide, by decide⟩ (mv_noH hno _) (fun v219 σ219 h219 => ?_)
          refine mv_istore (pc := 222) B d_Model_shippedStep_222 (by decide) rfl ?_
          refine mv_goto (pc := 224) (tgt := 294) B d_Model_shippedStep_224 rfl ?_
          refine mv_lpick [0, 2, 6] rfl ?_
          exact j294 _ _ _ (by first | exact Fx.rf | exact h204 | exact h219 | exact h236 | exact h291)
      · skip
        refine mv_aload_n (pc := 182) B d_Model_shippedStep_182 rfl 5 rfl ?_
        refine mv_iload (pc := 183) B d_Model_shippedStep_183 2 rfl ?_
        refine mv_iload_n (pc := 185) B d_Model_shippedStep_185 rfl 6 rfl ?_
        refine mv_sipush (pc := 186) (v := -4096) B d_Model_shippedStep_186 (by decide) ?_
        refine mv_iand (pc := 189) B d_Model_shippedStep_189 ?_
        refine mv_iload_n (pc := 190) B d_Model_shippedStep_190 rfl 0 rfl ?_
        refine mv_iconst (pc := 191) (v := 1) B d_Model_shippedStep_191 (by decide) ?_
        refine mv_icmp_ne (pc := 192) (tgt := 202) B d_Model_shippedStep_192 rfl (fun h192 => ?_) (fun h192 => ?_)
        · skip
          refine mv_iconst (pc := 202) (v := 0) B d_Model_shippedStep_202 (by decide) ?_
          refine mv_lpick [1, 5, 7] rfl ?_
          exact j203 _ _ _
        · skip
          refine mv_aload_n (pc := 195) B d_Model_shippedStep_195 rfl 5 rfl ?_
          refine mv_getI (pc := 196) (ci := 11) (C := R_Model) (T := F_Model) (N := 16) B 6 rfl rfl (by decide) i_Model (B.2.2.2.1 _ k_2051) rfl d_Model_shippedStep_196 ?_
          refine mv_goto (pc := 199) (tgt := 203) B d_Model_shippedStep_199 rfl ?_
          refine mv_lpick [1, 5, 7] rfl ?_
          exact j203 _ _ _
  have j87 : ∀ (e9 : Int32) (p9 : Int32) , mv_V p l e ({ frames := 3, cells := 0, slots := 0, locals := 72 }) s m ([.ref (al 70), .int w] : List Value).toArray below meth c (mg dA D al ext) 8 0 0 (mv_Q (mg dA D al ext) below s 0 0 (mv_Ri (fun v σ1 => SM σ σ1))) σ 87 [(2, .int v1), (3, .int e9), (4, .int v15), (5, .int p9), (0, .ref (al 70)), (1, .int w)] [] := by
    intro e9 p9
    refine mv_aload_n (pc := 87) B d_Model_shippedStep_87 rfl 4 rfl ?_
    refine mv_iload_n (pc := 88) B d_Model_shippedStep_88 rfl 0 rfl ?_
    refine mv_iconst (pc := 89) (v := 2) B d_Model_shippedStep_89 (by decide) ?_
    refine mv_icmp_ne (pc := 90) (tgt := 105) B d_Model_shippedStep_90 rfl (fun h90 => ?_) (fun h90 => ?_)
    · skip
      refine mv_iload (pc := 105) B d_Model_shippedStep_105 3 rfl ?_
      refine mv_iload_n (pc := 107) B d_Model_shippedStep_107 rfl 5 rfl ?_
      refine mv_callSi (pc := 108) (n := 1) B (mK_ok sk sv) hNs (c_Model_immI l hi _ _) rfl (ma_goodc kc_Model_immI) (B.2.2.2.1 _ k_2455) (B.2.2.2.1 _ k_2456) (B.2.2.2.1 _ k_12) ⟨by decide +kernel, by decide +kernel, by decide +kernel⟩ rfl d_Model_shippedStep_108 rfl (Nat.le_of_ble_eq_true rfl) ⟨by decide, by decide⟩ ⟨by decide, by decide⟩ ⟨by decide, by decide⟩ (mv_noH hno _) (fun v108 σ108 h108 => ?_)
      have e108 := h108.symm
      subst e108
      refine mv_iadd (pc := 111) B d_Model_shippedStep_111 ?_
      refine mv_bipush (pc := 112) (v := -2) B d_Model_shippedStep_112 (by decide) ?_
      refine mv_iand (pc := 114) B d_Model_shippedStep_114 ?_
      refine mv_lpick [1, 2, 4] rfl ?_
      exact j115 _ _
    · skip
      refine mv_aload_n (pc := 93) B d_Model_shippedStep_93 rfl 4 rfl ?_
      refine mv_getI (pc := 94) (ci := 11) (C := R_Model) (T := F_Model) (N := 16) B 6 rfl rfl (by decide) i_Model (B.2.2.2.1 _ k_2051) rfl d_Model_shippedStep_94 ?_
      refine mv_iload_n (pc := 97) B d_Model_shippedStep_97 rfl 5 rfl ?_
      refine mv_callSi (pc := 98) (n := 1) B (mK_ok sk sv) hNs (c_Model_immJ l hi _ _) rfl (ma_goodc kc_Model_immJ) (B.2.2.2.1 _ k_2452) (B.2.2.2.1 _ k_2453) (B.2.2.2.1 _ k_12) ⟨by decide +kernel, by decide +kernel, by decide +kernel⟩ rfl d_Model_shippedStep_98 rfl (Nat.le_of_ble_eq_true rfl) ⟨by decide, by decide⟩ ⟨by decide, by decide⟩ ⟨by decide, by decide⟩ (mv_noH hno _) (fun v98 σ98 h98 => ?_)
      have e98 := h98.symm
      subst e98
      refine mv_iadd (pc := 101) B d_Model_shippedStep_101 ?_
      refine mv_goto (pc := 102) (tgt := 115) B d_Model_shippedStep_102 rfl ?_
      refine mv_lpick [1, 2, 4] rfl ?_
      exact j115 _ _
  refine mv_iload_n (pc := 53) B d_Model_shippedStep_53 rfl 5 rfl ?_
  refine mv_if_ge (pc := 54) (tgt := 60) B d_Model_shippedStep_54 rfl (fun h54 => ?_) (fun h54 => ?_)
  · skip
    refine mv_iload_n (pc := 60) B d_Model_shippedStep_60 rfl 5 rfl ?_
    refine mv_bipush (pc := 61) (v := 38) B d_Model_shippedStep_61 (by decide) ?_
    refine mv_icmp_ne (pc := 63) (tgt := 69) B d_Model_shippedStep_63 rfl (fun h63 => ?_) (fun h63 => ?_)
    · skip
      refine mv_iload_n (pc := 69) B d_Model_shippedStep_69 rfl 5 rfl ?_
      refine mv_bipush (pc := 70) (v := 39) B d_Model_shippedStep_70 (by decide) ?_
      refine mv_icmp_ne (pc := 72) (tgt := 77) B d_Model_shippedStep_72 rfl (fun h72 => ?_) (fun h72 => ?_)
      · skip
        refine mv_iload_n (pc := 77) B d_Model_shippedStep_77 rfl 5 rfl ?_
        refine mv_iconst (pc := 78) (v := 2) B d_Model_shippedStep_78 (by decide) ?_
        refine mv_icmp_eq (pc := 79) (tgt := 87) B d_Model_shippedStep_79 rfl (fun h79 => ?_) (fun h79 => ?_)
        · skip
          refine mv_lpick [5, 4, 3, 2, 6, 7] rfl ?_
          exact j87 _ _
        · skip
          refine mv_iload_n (pc := 82) B d_Model_shippedStep_82 rfl 5 rfl ?_
          refine mv_iconst (pc := 83) (v := 3) B d_Model_shippedStep_83 (by decide) ?_
          refine mv_icmp_ne (pc := 84) (tgt := 137) B d_Model_shippedStep_84 rfl (fun h84 => ?_) (fun h84 => ?_)
          · skip
            refine mv_iload_n (pc := 137) B d_Model_shippedStep_137 rfl 5 rfl ?_
            refine mv_iconst (pc := 138) (v := 4) B d_Model_shippedStep_138 (by decide) ?_
            refine mv_icmp_lt (pc := 139) (tgt := 173) B d_Model_shippedStep_139 rfl (fun h139 => ?_) (fun h139 => ?_)
            · skip
              refine mv_lpick [5, 4, 3, 2, 1, 6, 7, 0] rfl ?_
              exact j173 _ _ _
            · skip
              refine mv_iload_n (pc := 142) B d_Model_shippedStep_142 rfl 5 rfl ?_
              refine mv_bipush (pc := 143) (v := 9) B d_Model_shippedStep_143 (by decide) ?_
              refine mv_icmp_gt (pc := 145) (tgt := 173) B d_Model_shippedStep_145 rfl (fun h145 => ?_) (fun h145 => ?_)
              · skip
                refine mv_lpick [5, 4, 3, 2, 1, 6, 7, 0] rfl ?_
                exact j173 _ _ _
              · skip
                refine mv_iload_n (pc := 148) B d_Model_shippedStep_148 rfl 5 rfl ?_
                refine mv_iload (pc := 149) B d_Model_shippedStep_149 2 rfl ?_
                refine mv_iload (pc := 151) B d_Model_shippedStep_151 1 rfl ?_
                refine mv_callSi (pc := 153) (n := 3) B (mK_ok sk sv) hNs (c_Model_taken l hi _ _ _ _) rfl (ma_goodc kc_Model_taken) (B.2.2.2.1 _ k_2462) (B.2.2.2.1 _ k_2463) (B.2.2.2.1 _ k_12) ⟨by decide +kernel, by decide +kernel, by decide +kernel⟩ rfl d_Model_shippedStep_153 rfl (Nat.le_of_ble_eq_true rfl) ⟨by decide, by decide⟩ ⟨by decide, by decide⟩ ⟨by decide, by decide⟩ (mv_noH hno _) (fun v153 σ153 h153 => ?_)
                have e153 := h153.symm
                subst e153
                refine mv_if_eq (pc := 156) (tgt := 294) B d_Model_shippedStep_156 rfl (fun h156 => ?_) (fun h156 => ?_)
                · skip
                  refine mv_lpick [0, 4, 6] rfl ?_
                  exact j294 _ _ _ (by first | exact Fx.rf | exact h204 | exact h219 | exact h236 | exact h291)
                · skip
                  refine mv_aload_n (pc := 159) B d_Model_shippedStep_159 rfl 6 rfl ?_
                  refine mv_aload_n (pc := 160) B d_Model_shippedStep_160 rfl 6 rfl ?_
                  refine mv_getI (pc := 161) (ci := 11) (C := R_Model) (T := F_Model) (N := 16) B 6 rfl rfl (by decide) i_Model (B.2.2.2.1 _ k_2051) rfl d_Model_shippedStep_161 ?_
                  refine mv_iload_n (pc := 164) B d_Model_shippedStep_164 rfl 7 rfl ?_
                  refine mv_callSi (pc := 165) (n := 1) B (mK_ok sk sv) hNs (c_Model_immB l hi _ _) rfl (ma_goodc kc_Model_immB) (B.2.2.2.1 _ k_2469) (B.2.2.2.1 _ k_2470) (B.2.2.2.1 _ k_12) ⟨by decide +kernel, by decide +kernel, by decide +kernel⟩ rfl d_Model_shippedStep_165 rfl (Nat.le_of_ble_eq_true rfl) ⟨by decide, by decide⟩ ⟨by decide, by decide⟩ ⟨by decide, by decide⟩ (mv_noH hno _) (fun v165 σ165 h165 => ?_)
                  have e165 := h165.symm
                  subst e165
                  refine mv_iadd (pc := 168) B d_Model_shippedStep_168 ?_
                  refine mv_callVi (pc := 169) (n := 1) (ci := 11) (C := R_Model) B (mK_ok sk sv) hNs rfl rfl (c_Model_jump l hi _ _) rfl (ma_goodc kc_Model_jump) (B.2.2.2.1 _ k_2458) (B.2.2.2.1 _ k_2460) (B.2.2.2.1 _ ks_127) (B.2.2.2.1 _ k_12) ⟨by decide +kernel, by decide +kernel, by decide +kernel⟩ rfl d_Model_shippedStep_169 rfl (Nat.le_of_ble_eq_true rfl) ⟨by decide, by decide⟩ ⟨by decide, by decide⟩ ⟨by decide, by decide⟩ (mv_noH hno _) (fun v169 σ169 h169 => ?_)
                  exact mv_iret (pc := 172) B hr rfl d_Model_shippedStep_172 (Nat.le_refl _) (Nat.le_refl _) ⟨_, rfl, h169⟩
          · skip
            refine mv_lpick [5, 4, 3, 2, 6, 7] rfl ?_
            exact j87 _ _
      · skip
        refine mv_iconst (pc := 75) (v := 3) B d_Model_shippedStep_75 (by decide) ?_
        exact mv_iret (pc := 76) B hr rfl d_Model_shippedStep_76 (Nat.le_refl _) (Nat.le_refl _) ⟨_, rfl, Fx.rf⟩
    · skip
      refine mv_bipush (pc := 66) (v := 8) B d_Model_shippedStep_66 (by decide) ?_
      exact mv_iret (pc := 68) B hr rfl d_Model_shippedStep_68 (Nat.le_refl _) (Nat.le_refl _) ⟨_, rfl, Fx.rf⟩
  · skip
    refine mv_bipush (pc := 57) (v := -2) B d_Model_shippedStep_57 (by decide) ?_
    exact mv_iret (pc := 59) B hr rfl d_Model_shippedStep_59 (Nat.le_refl _) (Nat.le_refl _) ⟨_, rfl, Fx.rf⟩
