/-! exact runs of the reference's Model at work -/
def f_Model_immI (h : mv_H) (a0 : Int32) : Option (Int32 × mv_H) := some ((a0 >>> ((20 : Int32) &&& 31)), h)
set_option maxHeartbeats 4000000 in
set_option maxRecDepth 100000 in
theorem ch_Model_immI (l : Launch) {dA : FieldType → ClassId} {D : va_G} {al : Nat → Nat} {ext : mv_Sh} {sk sv : Nat → Nat} (hi : mv_inj (mg dA D al ext)) (h : mv_H)  (a0 : Int32) {rv : Int32} {rg : mv_H} (hf : f_Model_immI h a0 = some (rv, rg)) : mv_C l y_Model_immI (Cond.code y_Model_immI b_Model_immI 1 (Option.some Jvm.ClassFile.FieldType.int) :: ma) ({ frames := 0, cells := 0, slots := 0, locals := 0 }) (mg dA D al ext) (mK sk sv) [.int a0] h (mv_Ri (fun v σ1 => rv = v ∧ rg = σ1 ∧ mv_r σ1 = mv_r h)) := by
  refine mv_C.ofV (cc := b_Model_immI) (nL := 1) (ret := (Option.some Jvm.ClassFile.FieldType.int)) (by decide +kernel) rfl hi (Nat.le_of_ble_eq_true rfl) ?_
  intro p e s m below meth c B hNs hr hnm hno
  unfold f_Model_immI at hf
  refine mv_iload_n (pc := 0) B d_Model_immI_0 rfl 0 rfl ?_
  refine mv_bipush (pc := 1) (v := 20) B d_Model_immI_1 (by decide) ?_
  refine mv_ishr (pc := 3) B d_Model_immI_3 ?_
  exact mv_iret (pc := 4) B hr rfl d_Model_immI_4 (Nat.le_refl _) (Nat.le_refl _) ⟨_, rfl, xrh_i hf rfl⟩
def f_Model_immS (h : mv_H) (a0 : Int32) : Option (Int32 × mv_H) := xhb (f_Model_piece h a0 (11 : Int32) (7 : Int32)) fun u2 g1 => some ((((a0 >>> ((25 : Int32) &&& 31)) <<< ((5 : Int32) &&& 31)) ||| u2), g1)
set_option maxHeartbeats 4000000 in
set_option maxRecDepth 100000 in
theorem ch_Model_immS (l : Launch) {dA : FieldType → ClassId} {D : va_G} {al : Nat → Nat} {ext : mv_Sh} {sk sv : Nat → Nat} (hi : mv_inj (mg dA D al ext)) (h : mv_H)  (a0 : Int32) {rv : Int32} {rg : mv_H} (hf : f_Model_immS h a0 = some (rv, rg)) : mv_C l y_Model_immS (Cond.code y_Model_immS b_Model_immS 1 (Option.some Jvm.ClassFile.FieldType.int) :: ma) ({ frames := 1, cells := 0, slots := 0, locals := 22 }) (mg dA D al ext) (mK sk sv) [.int a0] h (mv_Ri (fun v σ1 => rv = v ∧ rg = σ1 ∧ mv_r σ1 = mv_r h)) := by
  refine mv_C.ofV (cc := b_Model_immS) (nL := 1) (ret := (Option.some Jvm.ClassFile.FieldType.int)) (by decide +kernel) rfl hi (Nat.le_of_ble_eq_true rfl) ?_
  intro p e s m below meth c B hNs hr hnm hno
  unfold f_Model_immS at hf
  refine mv_iload_n (pc := 0) B d_Model_immS_0 rfl 0 rfl ?_
  refine mv_bipush (pc := 1) (v := 25) B d_Model_immS_1 (by decide) ?_
  refine mv_ishr (pc := 3) B d_Model_immS_3 ?_
  refine mv_iconst (pc := 4) (v := 5) B d_Model_immS_4 (by decide) ?_
  refine mv_ishl (pc := 5) B d_Model_immS_5 ?_
  refine mv_iload_n (pc := 6) B d_Model_immS_6 rfl 0 rfl ?_
  refine mv_bipush (pc := 7) (v := 11) B d_Model_immS_7 (by decide) ?_
  refine mv_bipush (pc := 9) (v := 7) B d_Model_immS_9 (by decide) ?_
  obtain ⟨u2, g1, eg1, hf⟩ := xhb_e hf
  refine mv_callSi (pc := 11) (n := 3) B (mK_ok sk sv) hNs (ch_Model_piece l hi _ _ _ _ eg1) rfl (ma_goodc kc_Model_piece) (B.2.2.2.1 _ k_2360) (B.2.2.2.1 _ k_2361) (B.2.2.2.1 _ k_12) ⟨by decide +kernel, by decide +kernel, by decide +kernel⟩ rfl d_Model_immS_11 rfl (Nat.le_of_ble_eq_true rfl) ⟨by decide, by decide⟩ ⟨by decide, by decide⟩ ⟨by decide, by decide⟩ (mv_noH hno _) (fun w11 σ11 h11 => ?_)
  obtain ⟨rfl, rfl, s_g1⟩ := h11
  have r_g1 : mv_r g1 = mv_r h := s_g1.trans rfl
  refine mv_ior (pc := 14) B d_Model_immS_14 ?_
  exact mv_iret (pc := 15) B hr rfl d_Model_immS_15 (Nat.le_refl _) (Nat.le_refl _) ⟨_, rfl, xrh_i hf r_g1⟩
def f_Model_immB (h : mv_H) (a0 : Int32) : Option (Int32 × mv_H) := xhb (f_Model_piece h a0 (7 : Int32) (7 : Int32)) fun u2 g1 => xhb (f_Model_piece g1 a0 (30 : Int32) (25 : Int32)) fun u4 g3 => xhb (f_Model_piece g3 a0 (11 : Int32) (8 : Int32)) fun u6 g5 => some ((((((a0 >>> ((31 : Int32) &&& 31)) <<< ((12 : Int32) &&& 31)) ||| (u2 <<< ((11 : Int32) &&& 31))) ||| (u4 <<< ((5 : Int32) &&& 31))) ||| (u6 <<< ((1 : Int32) &&& 31))), g5)
set_option maxHeartbeats 4000000 in
set_option maxRecDepth 100000 in
theorem ch_Model_immB (l : Launch) {dA : FieldType → ClassId} {D : va_G} {al : Nat → Nat} {ext : mv_Sh} {sk sv : Nat → Nat} (hi : mv_inj (mg dA D al ext)) (h : mv_H)  (a0 : Int32) {rv : Int32} {rg : mv_H} (hf : f_Model_immB h a0 = some (rv, rg)) : mv_C l y_Model_immB (Cond.code y_Model_immB b_Model_immB 1 (Option.some Jvm.ClassFile.FieldType.int) :: ma) ({ frames := 1, cells := 0, slots := 0, locals := 22 }) (mg dA D al ext) (mK sk sv) [.int a0] h (mv_Ri (fun v σ1 => rv = v ∧ rg = σ1 ∧ mv_r σ1 = mv_r h)) := by
  refine mv_C.ofV (cc := b_Model_immB) (nL := 1) (ret := (Option.some Jvm.ClassFile.FieldType.int)) (by decide +kernel) rfl hi (Nat.le_of_ble_eq_true rfl) ?_
  intro p e s m below meth c B hNs hr hnm hno
  unfold f_Model_immB at hf
  refine mv_iload_n (pc := 0) B d_Model_immB_0 rfl 0 rfl ?_
  refine mv_bipush (pc := 1) (v := 31) B d_Model_immB_1 (by decide) ?_
  refine mv_ishr (pc := 3) B d_Model_immB_3 ?_
  refine mv_bipush (pc := 4) (v := 12) B d_Model_immB_4 (by decide) ?_
  refine mv_ishl (pc := 6) B d_Model_immB_6 ?_
  refine mv_iload_n (pc := 7) B d_Model_immB_7 rfl 0 rfl ?_
  refine mv_bipush (pc := 8) (v := 7) B d_Model_immB_8 (by decide) ?_
  refine mv_bipush (pc := 10) (v := 7) B d_Model_immB_10 (by decide) ?_
  obtain ⟨u2, g1, eg1, hf⟩ := xhb_e hf
  refine mv_callSi (pc := 12) (n := 3) B (mK_ok sk sv) hNs (ch_Model_piece l hi _ _ _ _ eg1) rfl (ma_goodc kc_Model_piece) (B.2.2.2.1 _ k_2360) (B.2.2.2.1 _ k_2361) (B.2.2.2.1 _ k_12) ⟨by decide +kernel, by decide +kernel, by decide +kernel⟩ rfl d_Model_immB_12 rfl (Nat.le_of_ble_eq_true rfl) ⟨by decide, by decide⟩ ⟨by decide, by decide⟩ ⟨by decide, by decide⟩ (mv_noH hno _) (fun w12 σ12 h12 => ?_)
  obtain ⟨rfl, rfl, s_g1⟩ := h12
  have r_g1 : mv_r g1 = mv_r h := s_g1.trans rfl
  refine mv_bipush (pc := 15) (v := 11) B d_Model_immB_15 (by decide) ?_
  refine mv_ishl (pc := 17) B d_Model_immB_17 ?_
  refine mv_ior (pc := 18) B d_Model_immB_18 ?_
  refine mv_iload_n (pc := 19) B d_Model_immB_19 rfl 0 rfl ?_
  refine mv_bipush (pc := 20) (v := 30) B d_Model_immB_20 (by decide) ?_
  refine mv_bipush (pc := 22) (v := 25) B d_Model_immB_22 (by decide) ?_
  obtain ⟨u4, g3, eg3, hf⟩ := xhb_e hf
  refine mv_callSi (pc := 24) (n := 3) B (mK_ok sk sv) hNs (ch_Model_piece l hi _ _ _ _ eg3) rfl (ma_goodc kc_Model_piece) (B.2.2.2.1 _ k_2360) (B.2.2.2.1 _ k_2361) (B.2.2.2.1 _ k_12) ⟨by decide +kernel, by decide +kernel, by decide +kernel⟩ rfl d_Model_immB_24 rfl (Nat.le_of_ble_eq_true rfl) ⟨by decide, by decide⟩ ⟨by decide, by decide⟩ ⟨by decide, by decide⟩ (mv_noH hno _) (fun w24 σ24 h24 => ?_)
  obtain ⟨rfl, rfl, s_g3⟩ := h24
  have r_g3 : mv_r g3 = mv_r h := s_g3.trans r_g1
  refine mv_iconst (pc := 27) (v := 5) B d_Model_immB_27 (by decide) ?_
  refine mv_ishl (pc := 28) B d_Model_immB_28 ?_
  refine mv_ior (pc := 29) B d_Model_immB_29 ?_
  refine mv_iload_n (pc := 30) B d_Model_immB_30 rfl 0 rfl ?_
  refine mv_bipush (pc := 31) (v := 11) B d_Model_immB_31 (by decide) ?_
  refine mv_bipush (pc := 33) (v := 8) B d_Model_immB_33 (by decide) ?_
  obtain ⟨u6, g5, eg5, hf⟩ := xhb_e hf
  refine mv_callSi (pc := 35) (n := 3) B (mK_ok sk sv) hNs (ch_Model_piece l hi _ _ _ _ eg5) rfl (ma_goodc kc_Model_piece) (B.2.2.2.1 _ k_2360) (B.2.2.2.1 _ k_2361) (B.2.2.2.1 _ k_12) ⟨by decide +kernel, by decide +kernel, by decide +kernel⟩ rfl d_Model_immB_35 rfl (Nat.le_of_ble_eq_true rfl) ⟨by decide, by decide⟩ ⟨by decide, by decide⟩ ⟨by decide, by decide⟩ (mv_noH hno _) (fun w35 σ35 h35 => ?_)
  obtain ⟨rfl, rfl, s_g5⟩ := h35
  have r_g5 : mv_r g5 = mv_r h := s_g5.trans r_g3
  refine mv_iconst (pc := 38) (v := 1) B d_Model_immB_38 (by decide) ?_
  refine mv_ishl (pc := 39) B d_Model_immB_39 ?_
  refine mv_ior (pc := 40) B d_Model_immB_40 ?_
  exact mv_iret (pc := 41) B hr rfl d_Model_immB_41 (Nat.le_refl _) (Nat.le_refl _) ⟨_, rfl, xrh_i hf r_g5⟩
def f_Model_immJ (h : mv_H) (a0 : Int32) : Option (Int32 × mv_H) := xhb (f_Model_piece h a0 (19 : Int32) (12 : Int32)) fun u2 g1 => xhb (f_Model_piece g1 a0 (20 : Int32) (20 : Int32)) fun u4 g3 => xhb (f_Model_piece g3 a0 (30 : Int32) (21 : Int32)) fun u6 g5 => some ((((((a0 >>> ((31 : Int32) &&& 31)) <<< ((20 : Int32) &&& 31)) ||| (u2 <<< ((12 : Int32) &&& 31))) ||| (u4 <<< ((11 : Int32) &&& 31))) ||| (u6 <<< ((1 : Int32) &&& 31))), g5)
set_option maxHeartbeats 4000000 in
set_option maxRecDepth 100000 in
theorem ch_Model_immJ (l : Launch) {dA : FieldType → ClassId} {D : va_G} {al : Nat → Nat} {ext : mv_Sh} {sk sv : Nat → Nat} (hi : mv_inj (mg dA D al ext)) (h : mv_H)  (a0 : Int32) {rv : Int32} {rg : mv_H} (hf : f_Model_immJ h a0 = some (rv, rg)) : mv_C l y_Model_immJ (Cond.code y_Model_immJ b_Model_immJ 1 (Option.some Jvm.ClassFile.FieldType.int) :: ma) ({ frames := 1, cells := 0, slots := 0, locals := 22 }) (mg dA D al ext) (mK sk sv) [.int a0] h (mv_Ri (fun v σ1 => rv = v ∧ rg = σ1 ∧ mv_r σ1 = mv_r h)) := by
  refine mv_C.ofV (cc := b_Model_immJ) (nL := 1) (ret := (Option.some Jvm.ClassFile.FieldType.int)) (by decide +kernel) rfl hi (Nat.le_of_ble_eq_true rfl) ?_
  intro p e s m below meth c B hNs hr hnm hno
  unfold f_Model_immJ at hf
  refine mv_iload_n (pc := 0) B d_Model_immJ_0 rfl 0 rfl ?_
  refine mv_bipush (pc := 1) (v := 31) B d_Model_immJ_1 (by decide) ?_
  refine mv_ishr (pc := 3) B d_Model_immJ_3 ?_
  refine mv_bipush (pc := 4) (v := 20) B d_Model_immJ_4 (by decide) ?_
  refine mv_ishl (pc := 6) B d_Model_immJ_6 ?_
  refine mv_iload_n (pc := 7) B d_Model_immJ_7 rfl 0 rfl ?_
  refine mv_bipush (pc := 8) (v := 19) B d_Model_immJ_8 (by decide) ?_
  refine mv_bipush (pc := 10) (v := 12) B d_Model_immJ_10 (by decide) ?_
  obtain ⟨u2, g1, eg1, hf⟩ := xhb_e hf
  refine mv_callSi (pc := 12) (n := 3) B (mK_ok sk sv) hNs (ch_Model_piece l hi _ _ _ _ eg1) rfl (ma_goodc kc_Model_piece) (B.2.2.2.1 _ k_2360) (B.2.2.2.1 _ k_2361) (B.2.2.2.1 _ k_12) ⟨by decide +kernel, by decide +kernel, by decide +kernel⟩ rfl d_Model_immJ_12 rfl (Nat.le_of_ble_eq_true rfl) ⟨by decide, by decide⟩ ⟨by decide, by decide⟩ ⟨by decide, by decide⟩ (mv_noH hno _) (fun w12 σ12 h12 => ?_)
  obtain ⟨rfl, rfl, s_g1⟩ := h12
  have r_g1 : mv_r g1 = mv_r h := s_g1.trans rfl
  refine mv_bipush (pc := 15) (v := 12) B d_Model_immJ_15 (by decide) ?_
  refine mv_ishl (pc := 17) B d_Model_immJ_17 ?_
  refine mv_ior (pc := 18) B d_Model_immJ_18 ?_
  refine mv_iload_n (pc := 19) B d_Model_immJ_19 rfl 0 rfl ?_
  refine mv_bipush (pc := 20) (v := 20) B d_Model_immJ_20 (by decide) ?_
  refine mv_bipush (pc := 22) (v := 20) B d_Model_immJ_22 (by decide) ?_
  obtain ⟨u4, g3, eg3, hf⟩ := xhb_e hf
  refine mv_callSi (pc := 24) (n := 3) B (mK_ok sk sv) hNs (ch_Model_piece l hi _ _ _ _ eg3) rfl (ma_goodc kc_Model_piece) (B.2.2.2.1 _ k_2360) (B.2.2.2.1 _ k_2361) (B.2.2.2.1 _ k_12) ⟨by decide +kernel, by decide +kernel, by decide +kernel⟩ rfl d_Model_immJ_24 rfl (Nat.le_of_ble_eq_true rfl) ⟨by decide, by decide⟩ ⟨by decide, by decide⟩ ⟨by decide, by decide⟩ (mv_noH hno _) (fun w24 σ24 h24 => ?_)
  obtain ⟨rfl, rfl, s_g3⟩ := h24
  have r_g3 : mv_r g3 = mv_r h := s_g3.trans r_g1
  refine mv_bipush (pc := 27) (v := 11) B d_Model_immJ_27 (by decide) ?_
  refine mv_ishl (pc := 29) B d_Model_immJ_29 ?_
  refine mv_ior (pc := 30) B d_Model_immJ_30 ?_
  refine mv_iload_n (pc := 31) B d_Model_immJ_31 rfl 0 rfl ?_
  refine mv_bipush (pc := 32) (v := 30) B d_Model_immJ_32 (by decide) ?_
  refine mv_bipush (pc := 34) (v := 21) B d_Model_immJ_34 (by decide) ?_
  obtain ⟨u6, g5, eg5, hf⟩ := xhb_e hf
  refine mv_callSi (pc := 36) (n := 3) B (mK_ok sk sv) hNs (ch_Model_piece l hi _ _ _ _ eg5) rfl (ma_goodc kc_Model_piece) (B.2.2.2.1 _ k_2360) (B.2.2.2.1 _ k_2361) (B.2.2.2.1 _ k_12) ⟨by decide +kernel, by decide +kernel, by decide +kernel⟩ rfl d_Model_immJ_36 rfl (Nat.le_of_ble_eq_true rfl) ⟨by decide, by decide⟩ ⟨by decide, by decide⟩ ⟨by decide, by decide⟩ (mv_noH hno _) (fun w36 σ36 h36 => ?_)
  obtain ⟨rfl, rfl, s_g5⟩ := h36
  have r_g5 : mv_r g5 = mv_r h := s_g5.trans r_g3
  refine mv_iconst (pc := 39) (v := 1) B d_Model_immJ_39 (by decide) ?_
  refine mv_ishl (pc := 40) B d_Model_immJ_40 ?_
  refine mv_ior (pc := 41) B d_Model_immJ_41 ?_
  exact mv_iret (pc := 42) B hr rfl d_Model_immJ_42 (Nat.le_refl _) (Nat.le_refl _) ⟨_, rfl, xrh_i hf r_g5⟩
def f_Model_less (h : mv_H) (a0 : Int32) (a1 : Int32) : Option (Int32 × mv_H) := if (a1 + (-2147483648 : Int32)) ≤ (a0 + (-2147483648 : Int32)) then (bif xzb (0 : Int32) then some ((0 : Int32), h) else none) else (bif xzb (1 : Int32) then some ((1 : Int32), h) else none)
set_option maxHeartbeats 4000000 in
set_option maxRecDepth 100000 in
theorem ch_Model_less (l : Launch) {dA : FieldType → ClassId} {D : va_G} {al : Nat → Nat} {ext : mv_Sh} {sk sv : Nat → Nat} (hi : mv_inj (mg dA D al ext)) (h : mv_H)  (a0 : Int32) (a1 : Int32) {rv : Int32} {rg : mv_H} (hf : f_Model_less h a0 a1 = some (rv, rg)) : mv_C l y_Model_less (Cond.code y_Model_less b_Model_less 2 (Option.some Jvm.ClassFile.FieldType.boolean) :: ma) ({ frames := 0, cells := 0, slots := 0, locals := 0 }) (mg dA D al ext) (mK sk sv) [.int a0, .int a1] h (mv_Ri (fun v σ1 => rv = v ∧ rg = σ1 ∧ mv_r σ1 = mv_r h)) := by
  refine mv_C.ofV (cc := b_Model_less) (nL := 2) (ret := (Option.some Jvm.ClassFile.FieldType.boolean)) (by decide +kernel) rfl hi (Nat.le_of_ble_eq_true rfl) ?_
  intro p e s m below meth c B hNs hr hnm hno
  unfold f_Model_less at hf
  refine mv_iload_n (pc := 0) B d_Model_less_0 rfl 0 rfl ?_
  refine mv_ldc (pc := 1) (v := -2147483648) B (B.2.2.2.1 _ k_2468) d_Model_less_1 ?_
  refine mv_iadd (pc := 3) B d_Model_less_3 ?_
  refine mv_iload_n (pc := 4) B d_Model_less_4 rfl 1 rfl ?_
  refine mv_ldc (pc := 5) (v := -2147483648) B (B.2.2.2.1 _ k_2468) d_Model_less_5 ?_
  refine mv_iadd (pc := 7) B d_Model_less_7 ?_
  refine mv_icmp_ge (pc := 8) (tgt := 15) B d_Model_less_8 rfl (fun h8 => ?_) (fun h8 => ?_)
  · skip
    have hf := xif_t h8 hf
    refine mv_iconst (pc := 15) (v := 0) B d_Model_less_15 (by decide) ?_
    obtain ⟨q1, hf⟩ := xzb_e hf
    exact mv_iret (pc := 16) B hr (xzb_n q1) d_Model_less_16 (Nat.le_refl _) (Nat.le_refl _) ⟨_, rfl, xrh_i hf rfl⟩
  · skip
    have hf := xif_f h8 hf
    refine mv_iconst (pc := 11) (v := 1) B d_Model_less_11 (by decide) ?_
    refine mv_goto (pc := 12) (tgt := 16) B d_Model_less_12 rfl ?_
    obtain ⟨q2, hf⟩ := xzb_e hf
    exact mv_iret (pc := 16) B hr (xzb_n q2) d_Model_less_16 (Nat.le_refl _) (Nat.le_refl _) ⟨_, rfl, xrh_i hf rfl⟩
def f_Model_taken (h : mv_H) (a0 : Int32) (a1 : Int32) (a2 : Int32) : Option (Int32 × mv_H) := if (a0).toInt = 4 then (if a1 = a2 then (bif xzb (1 : Int32) then some ((1 : Int32), h) else none) else (bif xzb (0 : Int32) then some ((0 : Int32), h) else none)) else (if (a0).toInt = 5 then (if a1 = a2 then (bif xzb (0 : Int32) then some ((0 : Int32), h) else none) else (bif xzb (1 : Int32) then some ((1 : Int32), h) else none)) else (if (a0).toInt = 6 then (if a2 ≤ a1 then (bif xzb (0 : Int32) then some ((0 : Int32), h) else none) else (bif xzb (1 : Int32) then some ((1 : Int32), h) else none)) else (if (a0).toInt = 7 then (if a1 < a2 then (bif xzb (0 : Int32) then some ((0 : Int32), h) else none) else (bif xzb (1 : Int32) then some ((1 : Int32), h) else none)) else (if (a0).toInt = 8 then (xhb (f_Model_less h a1 a2) fun u10 g9 => bif xzb u10 then some (u10, g9) else none) else (xhb (f_Model_less h a1 a2) fun u13 g12 => if u13 = (0 : Int32) then (bif xzb (1 : Int32) then some ((1 : Int32), g12) else none) else (bif xzb (0 : Int32) then some ((0 : Int32), g12) else none))))))
set_option maxHeartbeats 4000000 in
set_option maxRecDepth 100000 in
theorem ch_Model_taken (l : Launch) {dA : FieldType → ClassId} {D : va_G} {al : Nat → Nat} {ext : mv_Sh} {sk sv : Nat → Nat} (hi : mv_inj (mg dA D al ext)) (h : mv_H)  (a0 : Int32) (a1 : Int32) (a2 : Int32) {rv : Int32} {rg : mv_H} (hf : f_Model_taken h a0 a1 a2 = some (rv, rg)) : mv_C l y_Model_taken (Cond.code y_Model_taken b_Model_taken 3 (Option.some Jvm.ClassFile.FieldType.boolean) :: ma) ({ frames := 1, cells := 0, slots := 0, locals := 21 }) (mg dA D al ext) (mK sk sv) [.int a0, .int a1, .int a2] h (mv_Ri (fun v σ1 => rv = v ∧ rg = σ1 ∧ mv_r σ1 = mv_r h)) := by
  refine mv_C.ofV (cc := b_Model_taken) (nL := 3) (ret := (Option.some Jvm.ClassFile.FieldType.boolean)) (by decide +kernel) rfl hi (Nat.le_of_ble_eq_true rfl) ?_
  intro p e s m below meth c B hNs hr hnm hno
  unfold f_Model_taken at hf
  refine mv_iload_n (pc := 0) B d_Model_taken_0 rfl 0 rfl ?_
  refine mv_tsw (pc := 1) B d_Model_taken_1 (by decide) (by decide) ?_
  refine ⟨fun h1 => ?_, fun h1n4 => ?_⟩
  · skip
    have hf := xif_t h1 hf
    show mv_V _ _ _ _ _ _ _ _ _ _ _ _ _ _ _ _ 36 _ _
    refine mv_iload_n (pc := 36) B d_Model_taken_36 rfl 1 rfl ?_
    refine mv_iload_n (pc := 37) B d_Model_taken_37 rfl 2 rfl ?_
    refine mv_icmp_ne (pc := 38) (tgt := 45) B d_Model_taken_38 rfl (fun h38 => ?_) (fun h38 => ?_)
    · skip
      have hf := xif_f h38 hf
      refine mv_iconst (pc := 45) (v := 0) B d_Model_taken_45 (by decide) ?_
      obtain ⟨q1, hf⟩ := xzb_e hf
      exact mv_iret (pc := 46) B hr (xzb_n q1) d_Model_taken_46 (Nat.le_refl _) (Nat.le_refl _) ⟨_, rfl, xrh_i hf rfl⟩
    · skip
      have hf := xif_t h38 hf
      refine mv_iconst (pc := 41) (v := 1) B d_Model_taken_41 (by decide) ?_
      refine mv_goto (pc := 42) (tgt := 46) B d_Model_taken_42 rfl ?_
      obtain ⟨q2, hf⟩ := xzb_e hf
      exact mv_iret (pc := 46) B hr (xzb_n q2) d_Model_taken_46 (Nat.le_refl _) (Nat.le_refl _) ⟨_, rfl, xrh_i hf rfl⟩
  have hf := xif_f h1n4 hf
  refine ⟨fun h1 => ?_, fun h1n5 => ?_⟩
  · skip
    have hf := xif_t h1 hf
    show mv_V _ _ _ _ _ _ _ _ _ _ _ _ _ _ _ _ 47 _ _
    refine mv_iload_n (pc := 47) B d_Model_taken_47 rfl 1 rfl ?_
    refine mv_iload_n (pc := 48) B d_Model_taken_48 rfl 2 rfl ?_
    refine mv_icmp_eq (pc := 49) (tgt := 56) B d_Model_taken_49 rfl (fun h49 => ?_) (fun h49 => ?_)
    · skip
      have hf := xif_t h49 hf
      refine mv_iconst (pc := 56) (v := 0) B d_Model_taken_56 (by decide) ?_
      obtain ⟨q3, hf⟩ := xzb_e hf
      exact mv_iret (pc := 57) B hr (xzb_n q3) d_Model_taken_57 (Nat.le_refl _) (Nat.le_refl _) ⟨_, rfl, xrh_i hf rfl⟩
    · skip
      have hf := xif_f h49 hf
      refine mv_iconst (pc := 52) (v := 1) B d_Model_taken_52 (by decide) ?_
      refine mv_goto (pc := 53) (tgt := 57) B d_Model_taken_53 rfl ?_
      obtain ⟨q4, hf⟩ := xzb_e hf
      exact mv_iret (pc := 57) B hr (xzb_n q4) d_Model_taken_57 (Nat.le_refl _) (Nat.le_refl _) ⟨_, rfl, xrh_i hf rfl⟩
  have hf := xif_f h1n5 hf
  refine ⟨fun h1 => ?_, fun h1n6 => ?_⟩
  · skip
    have hf := xif_t h1 hf
    show mv_V _ _ _ _ _ _ _ _ _ _ _ _ _ _ _ _ 58 _ _
    refine mv_iload_n (pc := 58) B d_Model_taken_58 rfl 1 rfl ?_
    refine mv_iload_n (pc := 59) B d_Model_taken_59 rfl 2 rfl ?_
    refine mv_icmp_ge (pc := 60) (tgt := 67) B d_Model_taken_60 rfl (fun h60 => ?_) (fun h60 => ?_)
    · skip
      have hf := xif_t h60 hf
      refine mv_iconst (pc := 67) (v := 0) B d_Model_taken_67 (by decide) ?_
      obtain ⟨q5, hf⟩ := xzb_e hf
      exact mv_iret (pc := 68) B hr (xzb_n q5) d_Model_taken_68 (Nat.le_refl _) (Nat.le_refl _) ⟨_, rfl, xrh_i hf rfl⟩
    · skip
      have hf := xif_f h60 hf
      refine mv_iconst (pc := 63) (v := 1) B d_Model_taken_63 (by decide) ?_
      refine mv_goto (pc := 64) (tgt := 68) B d_Model_taken_64 rfl ?_
      obtain ⟨q6, hf⟩ := xzb_e hf
      exact mv_iret (pc := 68) B hr (xzb_n q6) d_Model_taken_68 (Nat.le_refl _) (Nat.le_refl _) ⟨_, rfl, xrh_i hf rfl⟩
  have hf := xif_f h1n6 hf
  refine ⟨fun h1 => ?_, fun h1n7 => ?_⟩
  · skip
    have hf := xif_t h1 hf
    show mv_V _ _ _ _ _ _ _ _ _ _ _ _ _ _ _ _ 69 _ _
    refine mv_iload_n (pc := 69) B d_Model_taken_69 rfl 1 rfl ?_
    refine mv_iload_n (pc := 70) B d_Model_taken_70 rfl 2 rfl ?_
    refine mv_icmp_lt (pc := 71) (tgt := 78) B d_Model_taken_71 rfl (fun h71 => ?_) (fun h71 => ?_)
    · skip
      have hf := xif_t h71 hf
      refine mv_iconst (pc := 78) (v := 0) B d_Model_taken_78 (by decide) ?_
      obtain ⟨q7, hf⟩ := xzb_e hf
      exact mv_iret (pc := 79) B hr (xzb_n q7) d_Model_taken_79 (Nat.le_refl _) (Nat.le_refl _) ⟨_, rfl, xrh_i hf rfl⟩
    · skip
      have hf := xif_f h71 hf
      refine mv_iconst (pc := 74) (v := 1) B d_Model_taken_74 (by decide) ?_
      refine mv_goto (pc := 75) (tgt := 79) B d_Model_taken_75 rfl ?_
      obtain ⟨q8, hf⟩ := xzb_e hf
      exact mv_iret (pc := 79) B hr (xzb_n q8) d_Model_taken_79 (Nat.le_refl _) (Nat.le_refl _) ⟨_, rfl, xrh_i hf rfl⟩
  have hf := xif_f h1n7 hf
  refine ⟨fun h1 => ?_, fun h1n8 => ?_⟩
  · skip
    have hf := xif_t h1 hf
    show mv_V _ _ _ _ _ _ _ _ _ _ _ _ _ _ _ _ 80 _ _
    refine mv_iload_n (pc := 80) B d_Model_taken_80 rfl 1 rfl ?_
    refine mv_iload_n (pc := 81) B d_Model_taken_81 rfl 2 rfl ?_
    obtain ⟨u10, g9, eg9, hf⟩ := xhb_e hf
    refine mv_callSi (pc := 82) (n := 2) B (mK_ok sk sv) hNs (ch_Model_less l hi _ _ _ eg9) rfl (ma_goodc kc_Model_less) (B.2.2.2.1 _ k_2465) (B.2.2.2.1 _ k_2466) (B.2.2.2.1 _ k_12) ⟨by decide +kernel, by decide +kernel, by decide +kernel⟩ rfl d_Model_taken_82 rfl (Nat.le_of_ble_eq_true rfl) ⟨by decide, by decide⟩ ⟨by decide, by decide⟩ ⟨by decide, by decide⟩ (mv_noH hno _) (fun w82 σ82 h82 => ?_)
    obtain ⟨rfl, rfl, s_g9⟩ := h82
    have r_g9 : mv_r g9 = mv_r h := s_g9.trans rfl
    obtain ⟨q11, hf⟩ := xzb_e hf
    exact mv_iret (pc := 85) B hr (xzb_n q11) d_Model_taken_85 (Nat.le_refl _) (Nat.le_refl _) ⟨_, rfl, xrh_i hf r_g9⟩
  have hf := xif_f h1n8 hf
  show mv_V _ _ _ _ _ _ _ _ _ _ _ _ _ _ _ _ 86 _ _
  refine mv_iload_n (pc := 86) B d_Model_taken_86 rfl 1 rfl ?_
  refine mv_iload_n (pc := 87) B d_Model_taken_87 rfl 2 rfl ?_
  obtain ⟨u13, g12, eg12, hf⟩ := xhb_e hf
  refine mv_callSi (pc := 88) (n := 2) B (mK_ok sk sv) hNs (ch_Model_less l hi _ _ _ eg12) rfl (ma_goodc kc_Model_less) (B.2.2.2.1 _ k_2465) (B.2.2.2.1 _ k_2466) (B.2.2.2.1 _ k_12) ⟨by decide +kernel, by decide +kernel, by decide +kernel⟩ rfl d_Model_taken_88 rfl (Nat.le_of_ble_eq_true rfl) ⟨by decide, by decide⟩ ⟨by decide, by decide⟩ ⟨by decide, by decide⟩ (mv_noH hno _) (fun w88 σ88 h88 => ?_)
  obtain ⟨rfl, rfl, s_g12⟩ := h88
  have r_g12 : mv_r g12 = mv_r h := s_g12.trans rfl
  refine mv_if_ne (pc := 91) (tgt := 98) B d_Model_taken_91 rfl (fun h91 => ?_) (fun h91 => ?_)
  · skip
    have hf := xif_f h91 hf
    refine mv_iconst (pc := 98) (v := 0) B d_Model_taken_98 (by decide) ?_
    obtain ⟨q14, hf⟩ := xzb_e hf
    exact mv_iret (pc := 99) B hr (xzb_n q14) d_Model_taken_99 (Nat.le_refl _) (Nat.le_refl _) ⟨_, rfl, xrh_i hf r_g12⟩
  · skip
    have hf := xif_t h91 hf
    refine mv_iconst (pc := 94) (v := 1) B d_Model_taken_94 (by decide) ?_
    refine mv_goto (pc := 95) (tgt := 99) B d_Model_taken_95 rfl ?_
    obtain ⟨q15, hf⟩ := xzb_e hf
    exact mv_iret (pc := 99) B hr (xzb_n q15) d_Model_taken_99 (Nat.le_refl _) (Nat.le_refl _) ⟨_, rfl, xrh_i hf r_g12⟩
def f_Model_inMemory (h : mv_H) (a0 : Int32) (a1 : Int32) : Option (Int32 × mv_H) := xhb (f_Model_in h ((a0).toInt64) (0 : Int64) ((((32768 : Int32) - a1)).toInt64)) fun u2 g1 => bif xzb u2 then some (u2, g1) else none
set_option maxHeartbeats 4000000 in
set_option maxRecDepth 100000 in
theorem ch_Model_inMemory (l : Launch) {dA : FieldType → ClassId} {D : va_G} {al : Nat → Nat} {ext : mv_Sh} {sk sv : Nat → Nat} (hi : mv_inj (mg dA D al ext)) (h : mv_H)  (a0 : Int32) (a1 : Int32) {rv : Int32} {rg : mv_H} (hf : f_Model_inMemory h a0 a1 = some (rv, rg)) : mv_C l y_Model_inMemory (Cond.code y_Model_inMemory b_Model_inMemory 2 (Option.some Jvm.ClassFile.FieldType.boolean) :: ma) ({ frames := 1, cells := 0, slots := 0, locals := 25 }) (mg dA D al ext) (mK sk sv) [.int a0, .int a1] h (mv_Ri (fun v σ1 => rv = v ∧ rg = σ1 ∧ mv_r σ1 = mv_r h)) := by
  refine mv_C.ofV (cc := b_Model_inMemory) (nL := 2) (ret := (Option.some Jvm.ClassFile.FieldType.boolean)) (by decide +kernel) rfl hi (Nat.le_of_ble_eq_true rfl) ?_
  intro p e s m below meth c B hNs hr hnm hno
  unfold f_Model_inMemory at hf
  refine mv_iload_n (pc := 0) B d_Model_inMemory_0 rfl 0 rfl ?_
  refine mv_i2l (pc := 1) B d_Model_inMemory_1 ?_
  refine mv_lconst (pc := 2) (v := 0) B d_Model_inMemory_2 (by decide) ?_
  refine mv_ldc (pc := 3) (v := 32768) B (B.2.2.2.1 _ k_1815) d_Model_inMemory_3 ?_
  refine mv_iload_n (pc := 5) B d_Model_inMemory_5 rfl 1 rfl ?_
  refine mv_isub (pc := 6) B d_Model_inMemory_6 ?_
  refine mv_i2l (pc := 7) B d_Model_inMemory_7 ?_
  obtain ⟨u2, g1, eg1, hf⟩ := xhb_e hf
  refine mv_callSi (pc := 8) (n := 3) B (mK_ok sk sv) hNs (ch_Model_in l hi _ _ _ _ eg1) rfl (ma_goodc kc_Model_in) (B.2.2.2.1 _ k_2391) (B.2.2.2.1 _ k_2208) (B.2.2.2.1 _ k_12) ⟨by decide +kernel, by decide +kernel, by decide +kernel⟩ rfl d_Model_inMemory_8 rfl (Nat.le_of_ble_eq_true rfl) ⟨by decide, by decide⟩ ⟨by decide, by decide⟩ ⟨by decide, by decide⟩ (mv_noH hno _) (fun w8 σ8 h8 => ?_)
  obtain ⟨rfl, rfl, s_g1⟩ := h8
  have r_g1 : mv_r g1 = mv_r h := s_g1.trans rfl
  obtain ⟨q3, hf⟩ := xzb_e hf
  exact mv_iret (pc := 11) B hr (xzb_n q3) d_Model_inMemory_11 (Nat.le_refl _) (Nat.le_refl _) ⟨_, rfl, xrh_i hf r_g1⟩
def f_Model_multiply (h : mv_H) (a0 : Int32) (a1 : Int32) (a2 : Int32) : Option (Int32 × mv_H) := if (a0).toInt = 40 then (some ((a1 * a2), h)) else (if (a0).toInt = 41 then (some (((((((a1).toInt64) * ((a2).toInt64)) >>> (((32 : Int32)).toInt64 &&& 63))).toInt32), h)) else (if (a0).toInt = 42 then (some (((((((a1).toInt64) * (((a2).toInt64) &&& (4294967295 : Int64))) >>> (((32 : Int32)).toInt64 &&& 63))).toInt32), h)) else (if (a0).toInt = 43 then (some ((((((((((a1).toInt64) &&& (4294967295 : Int64)) * (((a2).toInt64) &&& (4294967295 : Int64)))).toUInt64 >>> (((32 : Int32)).toInt64.toUInt64 &&& Int64.toUInt64 63)).toInt64)).toInt32), h)) else (if (a0).toInt = 44 then (if a2 = (0 : Int32) then (some ((-1 : Int32), h)) else (if a2 = (-1 : Int32) then (some (((-a1)), h)) else (bif xnzI a2 then some ((a1 / a2), h) else none))) else (if (a0).toInt = 45 then (if a2 = (0 : Int32) then (some ((-1 : Int32), h)) else (bif xnzJ (((a2).toInt64) &&& (4294967295 : Int64)) then some (((((((a1).toInt64) &&& (4294967295 : Int64)) / (((a2).toInt64) &&& (4294967295 : Int64)))).toInt32), h) else none)) else (if (a0).toInt = 46 then (if a2 = (0 : Int32) then (some (a1, h)) else (if a2 = (-1 : Int32) then (some ((0 : Int32), h)) else (bif xnzI a2 then some ((a1 - a1 / a2 * a2), h) else none))) else (if a2 = (0 : Int32) then (some (a1, h)) else (bif xnzJ (((a2).toInt64) &&& (4294967295 : Int64)) then some (((((((a1).toInt64) &&& (4294967295 : Int64)) - (((a1).toInt64) &&& (4294967295 : Int64)) / (((a2).toInt64) &&& (4294967295 : Int64)) * (((a2).toInt64) &&& (4294967295 : Int64)))).toInt32), h) else none))))))))
set_option maxHeartbeats 4000000 in
set_option maxRecDepth 100000 in
theorem ch_Model_multiply (l : Launch) {dA : FieldType → ClassId} {D : va_G} {al : Nat → Nat} {ext : mv_Sh} {sk sv : Nat → Nat} (hi : mv_inj (mg dA D al ext)) (h : mv_H)  (a0 : Int32) (a1 : Int32) (a2 : Int32) {rv : Int32} {rg : mv_H} (hf : f_Model_multiply h a0 a1 a2 = some (rv, rg)) : mv_C l y_Model_multiply (Cond.code y_Model_multiply b_Model_multiply 11 (Option.some Jvm.ClassFile.FieldType.int) :: ma) ({ frames := 0, cells := 0, slots := 0, locals := 0 }) (mg dA D al ext) (mK sk sv) [.int a0, .int a1, .int a2] h (mv_Ri (fun v σ1 => rv = v ∧ rg = σ1 ∧ mv_r σ1 = mv_r h)) := by
  refine mv_C.ofV (cc := b_Model_multiply) (nL := 11) (ret := (Option.some Jvm.ClassFile.FieldType.int)) (by decide +kernel) rfl hi (Nat.le_of_ble_eq_true rfl) ?_
  intro p e s m below meth c B hNs hr hnm hno
  unfold f_Model_multiply at hf
  refine mv_iload_n (pc := 0) B d_Model_multiply_0 rfl 1 rfl ?_
  refine mv_i2l (pc := 1) B d_Model_multiply_1 ?_
  refine mv_lstore_n (pc := 2) B d_Model_multiply_2 rfl (by decide) rfl ?_
  refine mv_iload_n (pc := 3) B d_Model_multiply_3 rfl 3 rfl ?_
  refine mv_i2l (pc := 4) B d_Model_multiply_4 ?_
  refine mv_lstore (pc := 5) B d_Model_multiply_5 (by decide) rfl ?_
  refine mv_iload_n (pc := 7) B d_Model_multiply_7 rfl 3 rfl ?_
  refine mv_i2l (pc := 8) B d_Model_multiply_8 ?_
  refine mv_ldc2 (pc := 9) (v := 4294967295) B (B.2.2.2.1 _ k_2442) d_Model_multiply_9 ?_
  refine mv_land (pc := 12) B d_Model_multiply_12 ?_
  refine mv_lstore (pc := 13) B d_Model_multiply_13 (by decide) rfl ?_
  refine mv_iload_n (pc := 15) B d_Model_multiply_15 rfl 5 rfl ?_
  refine mv_i2l (pc := 16) B d_Model_multiply_16 ?_
  refine mv_ldc2 (pc := 17) (v := 4294967295) B (B.2.2.2.1 _ k_2442) d_Model_multiply_17 ?_
  refine mv_land (pc := 20) B d_Model_multiply_20 ?_
  refine mv_lstore (pc := 21) B d_Model_multiply_21 (by decide) rfl ?_
  refine mv_iload_n (pc := 23) B d_Model_multiply_23 rfl 4 rfl ?_
  refine mv_tsw (pc := 24) B d_Model_multiply_24 (by decide) (by decide) ?_
  refine ⟨fun h24 => ?_, fun h24n40 => ?_⟩
  · skip
    have hf := xif_t h24 hf
    show mv_V _ _ _ _ _ _ _ _ _ _ _ _ _ _ _ _ 68 _ _
    refine mv_iload_n (pc := 68) B d_Model_multiply_68 rfl 5 rfl ?_
    refine mv_iload_n (pc := 69) B d_Model_multiply_69 rfl 6 rfl ?_
    refine mv_imul (pc := 70) B d_Model_multiply_70 ?_
    exact mv_iret (pc := 71) B hr rfl d_Model_multiply_71 (Nat.le_refl _) (Nat.le_refl _) ⟨_, rfl, xrh_i hf rfl⟩
  have hf := xif_f h24n40 hf
  refine ⟨fun h24 => ?_, fun h24n41 => ?_⟩
  · skip
    have hf := xif_t h24 hf
    show mv_V _ _ _ _ _ _ _ _ _ _ _ _ _ _ _ _ 72 _ _
    refine mv_lload_n (pc := 72) B d_Model_multiply_72 rfl 3 rfl ?_
    refine mv_lload (pc := 73) B d_Model_multiply_73 2 rfl ?_
    refine mv_lmul (pc := 75) B d_Model_multiply_75 ?_
    refine mv_bipush (pc := 76) (v := 32) B d_Model_multiply_76 (by decide) ?_
    refine mv_lshr (pc := 78) B d_Model_multiply_78 ?_
    refine mv_l2i (pc := 79) B d_Model_multiply_79 ?_
    exact mv_iret (pc := 80) B hr rfl d_Model_multiply_80 (Nat.le_refl _) (Nat.le_refl _) ⟨_, rfl, xrh_i hf rfl⟩
  have hf := xif_f h24n41 hf
  refine ⟨fun h24 => ?_, fun h24n42 => ?_⟩
  · skip
    have hf := xif_t h24 hf
    show mv_V _ _ _ _ _ _ _ _ _ _ _ _ _ _ _ _ 81 _ _
    refine mv_lload_n (pc := 81) B d_Model_multiply_81 rfl 3 rfl ?_
    refine mv_lload (pc := 82) B d_Model_multiply_82 0 rfl ?_
    refine mv_lmul (pc := 84) B d_Model_multiply_84 ?_
    refine mv_bipush (pc := 85) (v := 32) B d_Model_multiply_85 (by decide) ?_
    refine mv_lshr (pc := 87) B d_Model_multiply_87 ?_
    refine mv_l2i (pc := 88) B d_Model_multiply_88 ?_
    exact mv_iret (pc := 89) B hr rfl d_Model_multiply_89 (Nat.le_refl _) (Nat.le_refl _) ⟨_, rfl, xrh_i hf rfl⟩
  have hf := xif_f h24n42 hf
  refine ⟨fun h24 => ?_, fun h24n43 => ?_⟩
  · skip
    have hf := xif_t h24 hf
    show mv_V _ _ _ _ _ _ _ _ _ _ _ _ _ _ _ _ 90 _ _
    refine mv_lload (pc := 90) B d_Model_multiply_90 1 rfl ?_
    refine mv_lload (pc := 92) B d_Model_multiply_92 0 rfl ?_
    refine mv_lmul (pc := 94) B d_Model_multiply_94 ?_
    refine mv_bipush (pc := 95) (v := 32) B d_Model_multiply_95 (by decide) ?_
    refine mv_lushr (pc := 97) B d_Model_multiply_97 ?_
    refine mv_l2i (pc := 98) B d_Model_multiply_98 ?_
    exact mv_iret (pc := 99) B hr rfl d_Model_multiply_99 (Nat.le_refl _) (Nat.le_refl _) ⟨_, rfl, xrh_i hf rfl⟩
  have hf := xif_f h24n43 hf
  refine ⟨fun h24 => ?_, fun h24n44 => ?_⟩
  · skip
    have hf := xif_t h24 hf
    show mv_V _ _ _ _ _ _ _ _ _ _ _ _ _ _ _ _ 100 _ _
    refine mv_iload_n (pc := 100) B d_Model_multiply_100 rfl 6 rfl ?_
    refine mv_if_ne (pc := 101) (tgt := 108) B d_Model_multiply_101 rfl (fun h101 => ?_) (fun h101 => ?_)
    · skip
      have hf := xif_f h101 hf
      refine mv_iload_n (pc := 108) B d_Model_multiply_108 rfl 6 rfl ?_
      refine mv_iconst (pc := 109) (v := -1) B d_Model_multiply_109 (by decide) ?_
      refine mv_icmp_ne (pc := 110) (tgt := 118) B d_Model_multiply_110 rfl (fun h110 => ?_) (fun h110 => ?_)
      · skip
        have hf := xif_f h110 hf
        refine mv_iload_n (pc := 118) B d_Model_multiply_118 rfl 5 rfl ?_
        refine mv_iload_n (pc := 119) B d_Model_multiply_119 rfl 6 rfl ?_
        obtain ⟨q1, hf⟩ := xnzI_e hf
        refine mv_idiv (pc := 120) B d_Model_multiply_120 q1 ?_
        exact mv_iret (pc := 121) B hr rfl d_Model_multiply_121 (Nat.le_refl _) (Nat.le_refl _) ⟨_, rfl, xrh_i hf rfl⟩
      · skip
        have hf := xif_t h110 hf
        refine mv_iload_n (pc := 113) B d_Model_multiply_113 rfl 5 rfl ?_
        refine mv_ineg (pc := 114) B d_Model_multiply_114 ?_
        refine mv_goto (pc := 115) (tgt := 121) B d_Model_multiply_115 rfl ?_
        exact mv_iret (pc := 121) B hr rfl d_Model_multiply_121 (Nat.le_refl _) (Nat.le_refl _) ⟨_, rfl, xrh_i hf rfl⟩
    · skip
      have hf := xif_t h101 hf
      refine mv_iconst (pc := 104) (v := -1) B d_Model_multiply_104 (by decide) ?_
      refine mv_goto (pc := 105) (tgt := 121) B d_Model_multiply_105 rfl ?_
      exact mv_iret (pc := 121) B hr rfl d_Model_multiply_121 (Nat.le_refl _) (Nat.le_refl _) ⟨_, rfl, xrh_i hf rfl⟩
  have hf := xif_f h24n44 hf
  refine ⟨fun h24 => ?_, fun h24n45 => ?_⟩
  · skip
    have hf := xif_t h24 hf
    show mv_V _ _ _ _ _ _ _ _ _ _ _ _ _ _ _ _ 122 _ _
    refine mv_iload_n (pc := 122) B d_Model_multiply_122 rfl 6 rfl ?_
    refine mv_if_ne (pc := 123) (tgt := 130) B d_Model_multiply_123 rfl (fun h123 => ?_) (fun h123 => ?_)
    · skip
      have hf := xif_f h123 hf
      refine mv_lload (pc := 130) B d_Model_multiply_130 1 rfl ?_
      refine mv_lload (pc := 132) B d_Model_multiply_132 0 rfl ?_
      obtain ⟨q2, hf⟩ := xnzJ_e hf
      refine mv_ldiv (pc := 134) B d_Model_multiply_134 q2 ?_
      refine mv_l2i (pc := 135) B d_Model_multiply_135 ?_
      exact mv_iret (pc := 136) B hr rfl d_Model_multiply_136 (Nat.le_refl _) (Nat.le_refl _) ⟨_, rfl, xrh_i hf rfl⟩
    · skip
      have hf := xif_t h123 hf
      refine mv_iconst (pc := 126) (v := -1) B d_Model_multiply_126 (by decide) ?_
      refine mv_goto (pc := 127) (tgt := 136) B d_Model_multiply_127 rfl ?_
      exact mv_iret (pc := 136) B hr rfl d_Model_multiply_136 (Nat.le_refl _) (Nat.le_refl _) ⟨_, rfl, xrh_i hf rfl⟩
  have hf := xif_f h24n45 hf
  refine ⟨fun h24 => ?_, fun h24n46 => ?_⟩
  · skip
    have hf := xif_t h24 hf
    show mv_V _ _ _ _ _ _ _ _ _ _ _ _ _ _ _ _ 137 _ _
    refine mv_iload_n (pc := 137) B d_Model_multiply_137 rfl 6 rfl ?_
    refine mv_if_ne (pc := 138) (tgt := 145) B d_Model_multiply_138 rfl (fun h138 => ?_) (fun h138 => ?_)
    · skip
      have hf := xif_f h138 hf
      refine mv_iload_n (pc := 145) B d_Model_multiply_145 rfl 6 rfl ?_
      refine mv_iconst (pc := 146) (v := -1) B d_Model_multiply_146 (by decide) ?_
      refine mv_icmp_ne (pc := 147) (tgt := 154) B d_Model_multiply_147 rfl (fun h147 => ?_) (fun h147 => ?_)
      · skip
        have hf := xif_f h147 hf
        refine mv_iload_n (pc := 154) B d_Model_multiply_154 rfl 5 rfl ?_
        refine mv_iload_n (pc := 155) B d_Model_multiply_155 rfl 6 rfl ?_
        obtain ⟨q3, hf⟩ := xnzI_e hf
        refine mv_irem (pc := 156) B d_Model_multiply_156 q3 ?_
        exact mv_iret (pc := 157) B hr rfl d_Model_multiply_157 (Nat.le_refl _) (Nat.le_refl _) ⟨_, rfl, xrh_i hf rfl⟩
      · skip
        have hf := xif_t h147 hf
        refine mv_iconst (pc := 150) (v := 0) B d_Model_multiply_150 (by decide) ?_
        refine mv_goto (pc := 151) (tgt := 157) B d_Model_multiply_151 rfl ?_
        exact mv_iret (pc := 157) B hr rfl d_Model_multiply_157 (Nat.le_refl _) (Nat.le_refl _) ⟨_, rfl, xrh_i hf rfl⟩
    · skip
      have hf := xif_t h138 hf
      refine mv_iload_n (pc := 141) B d_Model_multiply_141 rfl 5 rfl ?_
      refine mv_goto (pc := 142) (tgt := 157) B d_Model_multiply_142 rfl ?_
      exact mv_iret (pc := 157) B hr rfl d_Model_multiply_157 (Nat.le_refl _) (Nat.le_refl _) ⟨_, rfl, xrh_i hf rfl⟩
  have hf := xif_f h24n46 hf
  show mv_V _ _ _ _ _ _ _ _ _ _ _ _ _ _ _ _ 158 _ _
  refine mv_iload_n (pc := 158) B d_Model_multiply_158 rfl 6 rfl ?_
  refine mv_if_ne (pc := 159) (tgt := 166) B d_Model_multiply_159 rfl (fun h159 => ?_) (fun h159 => ?_)
  · skip
    have hf := xif_f h159 hf
    refine mv_lload (pc := 166) B d_Model_multiply_166 1 rfl ?_
    refine mv_lload (pc := 168) B d_Model_multiply_168 0 rfl ?_
    obtain ⟨q4, hf⟩ := xnzJ_e hf
    refine mv_lrem (pc := 170) B d_Model_multiply_170 q4 ?_
    refine mv_l2i (pc := 171) B d_Model_multiply_171 ?_
    exact mv_iret (pc := 172) B hr rfl d_Model_multiply_172 (Nat.le_refl _) (Nat.le_refl _) ⟨_, rfl, xrh_i hf rfl⟩
  · skip
    have hf := xif_t h159 hf
    refine mv_iload_n (pc := 162) B d_Model_multiply_162 rfl 5 rfl ?_
    refine mv_goto (pc := 163) (tgt := 172) B d_Model_multiply_163 rfl ?_
    exact mv_iret (pc := 172) B hr rfl d_Model_multiply_172 (Nat.le_refl _) (Nat.le_refl _) ⟨_, rfl, xrh_i hf rfl⟩
def f_Model_reckon_151 (x1 : Int32) (x2 : Int32) (hz : mv_H) : Option (Int32 × mv_H) := some ((x1 >>> ((x2 &&& (31 : Int32)) &&& 31)), hz)
def f_Model_reckon_144 (x1 : Int32) (x2 : Int32) (hz : mv_H) : Option (Int32 × mv_H) := some ((((x1).toUInt32 >>> (((x2 &&& (31 : Int32))).toUInt32 &&& Int32.toUInt32 31)).toInt32), hz)
def f_Model_reckon_137 (x1 : Int32) (x2 : Int32) (hz : mv_H) : Option (Int32 × mv_H) := some ((x1 <<< ((x2 &&& (31 : Int32)) &&& 31)), hz)
def f_Model_reckon_133 (x1 : Int32) (x2 : Int32) (hz : mv_H) : Option (Int32 × mv_H) := some ((x1 &&& x2), hz)
def f_Model_reckon_129 (x1 : Int32) (x2 : Int32) (hz : mv_H) : Option (Int32 × mv_H) := some ((x1 ||| x2), hz)
def f_Model_reckon_125 (x1 : Int32) (x2 : Int32) (hz : mv_H) : Option (Int32 × mv_H) := some ((x1 ^^^ x2), hz)
def f_Model_reckon_111 (x1 : Int32) (x2 : Int32) (hz : mv_H) : Option (Int32 × mv_H) := xhb (f_Model_less hz x1 x2) fun u2 g1 => if u2 = (0 : Int32) then (some ((0 : Int32), g1)) else (some ((1 : Int32), g1))
def f_Model_reckon_100 (x1 : Int32) (x2 : Int32) (hz : mv_H) : Option (Int32 × mv_H) := if x2 ≤ x1 then (some ((0 : Int32), hz)) else (some ((1 : Int32), hz))
def f_Model_reckon_92 (x1 : Int32) (x2 : Int32) (hz : mv_H) : Option (Int32 × mv_H) := some ((x1 + x2), hz)
def f_Model_reckon (h : mv_H) (a0 : Int32) (a1 : Int32) (a2 : Int32) : Option (Int32 × mv_H) := if (a0).toInt = 18 then (f_Model_reckon_92 a1 a2 h) else (if (a0).toInt = 19 then (f_Model_reckon_100 a1 a2 h) else (if (a0).toInt = 20 then (f_Model_reckon_111 a1 a2 h) else (if (a0).toInt = 21 then (f_Model_reckon_125 a1 a2 h) else (if (a0).toInt = 22 then (f_Model_reckon_129 a1 a2 h) else (if (a0).toInt = 23 then (f_Model_reckon_133 a1 a2 h) else (if (a0).toInt = 24 then (f_Model_reckon_137 a1 a2 h) else (if (a0).toInt = 25 then (f_Model_reckon_144 a1 a2 h) else (if (a0).toInt = 26 then (f_Model_reckon_151 a1 a2 h) else (if (a0).toInt = 27 then (f_Model_reckon_92 a1 a2 h) else (if (a0).toInt = 28 then (some ((a1 - a2), h)) else (if (a0).toInt = 29 then (f_Model_reckon_137 a1 a2 h) else (if (a0).toInt = 30 then (f_Model_reckon_100 a1 a2 h) else (if (a0).toInt = 31 then (f_Model_reckon_111 a1 a2 h) else (if (a0).toInt = 32 then (f_Model_reckon_125 a1 a2 h) else (if (a0).toInt = 33 then (f_Model_reckon_144 a1 a2 h) else (if (a0).toInt = 34 then (f_Model_reckon_151 a1 a2 h) else (if (a0).toInt = 35 then (f_Model_reckon_129 a1 a2 h) else (if (a0).toInt = 36 then (f_Model_reckon_133 a1 a2 h) else (xhb (f_Model_multiply h a0 a1 a2) fun u4 g3 => some (u4, g3))))))))))))))))))))
set_option maxHeartbeats 4000000 in
set_option maxRecDepth 100000 in
theorem ch_Model_reckon (l : Launch) {dA : FieldType → ClassId} {D : va_G} {al : Nat → Nat} {ext : mv_Sh} {sk sv : Nat → Nat} (hi : mv_inj (mg dA D al ext)) (h : mv_H)  (a0 : Int32) (a1 : Int32) (a2 : Int32) {rv : Int32} {rg : mv_H} (hf : f_Model_reckon h a0 a1 a2 = some (rv, rg)) : mv_C l y_Model_reckon (Cond.code y_Model_reckon b_Model_reckon 3 (Option.some Jvm.ClassFile.FieldType.int) :: ma) ({ frames := 1, cells := 0, slots := 0, locals := 30 }) (mg dA D al ext) (mK sk sv) [.int a0, .int a1, .int a2] h (mv_Ri (fun v σ1 => rv = v ∧ rg = σ1 ∧ mv_r σ1 = mv_r h)) := by
  refine mv_C.ofV (cc := b_Model_reckon) (nL := 3) (ret := (Option.some Jvm.ClassFile.FieldType.int)) (by decide +kernel) rfl hi (Nat.le_of_ble_eq_true rfl) ?_
  intro p e s m below meth c B hNs hr hnm hno
  have jn151 : ∀ (x1 : Int32) (x2 : Int32) (hz : mv_H), mv_r hz = mv_r h → f_Model_reckon_151 x1 x2 hz = some (rv, rg) → mv_V p l e ({ frames := 1, cells := 0, slots := 0, locals := 30 }) s m ([.int a0, .int a1, .int a2] : List Value).toArray below meth c (mg dA D al ext) 3 0 0 (mv_Q (mg dA D al ext) below s 0 0 (mv_Ri (fun v σ1 => rv = v ∧ rg = σ1 ∧ mv_r σ1 = mv_r h))) hz 151 [(1, .int x1), (2, .int x2)] [] := by
    intro x1 x2 hz r_hz hf
    unfold f_Model_reckon_151 at hf
    refine mv_iload_n (pc := 151) B d_Model_reckon_151 rfl 0 rfl ?_
    refine mv_iload_n (pc := 152) B d_Model_reckon_152 rfl 1 rfl ?_
    refine mv_bipush (pc := 153) (v := 31) B d_Model_reckon_153 (by decide) ?_
    refine mv_iand (pc := 155) B d_Model_reckon_155 ?_
    refine mv_ishr (pc := 156) B d_Model_reckon_156 ?_
    exact mv_iret (pc := 157) B hr rfl d_Model_reckon_157 (Nat.le_refl _) (Nat.le_refl _) ⟨_, rfl, xrh_i hf r_hz⟩
  have jn144 : ∀ (x1 : Int32) (x2 : Int32) (hz : mv_H), mv_r hz = mv_r h → f_Model_reckon_144 x1 x2 hz = some (rv, rg) → mv_V p l e ({ frames := 1, cells := 0, slots := 0, locals := 30 }) s m ([.int a0, .int a1, .int a2] : List Value).toArray below meth c (mg dA D al ext) 3 0 0 (mv_Q (mg dA D al ext) below s 0 0 (mv_Ri (fun v σ1 => rv = v ∧ rg = σ1 ∧ mv_r σ1 = mv_r h))) hz 144 [(1, .int x1), (2, .int x2)] [] := by
    intro x1 x2 hz r_hz hf
    unfold f_Model_reckon_144 at hf
    refine mv_iload_n (pc := 144) B d_Model_reckon_144 rfl 0 rfl ?_
    refine mv_iload_n (pc := 145) B d_Model_reckon_145 rfl 1 rfl ?_
    refine mv_bipush (pc := 146) (v := 31) B d_Model_reckon_146 (by decide) ?_
    refine mv_iand (pc := 148) B d_Model_reckon_148 ?_
    refine mv_iushr (pc := 149) B d_Model_reckon_149 ?_
    exact mv_iret (pc := 150) B hr rfl d_Model_reckon_150 (Nat.le_refl _) (Nat.le_refl _) ⟨_, rfl, xrh_i hf r_hz⟩
  have jn137 : ∀ (x1 : Int32) (x2 : Int32) (hz : mv_H), mv_r hz = mv_r h → f_Model_reckon_137 x1 x2 hz = some (rv, rg) → mv_V p l e ({ frames := 1, cells := 0, slots := 0, locals := 30 }) s m ([.int a0, .int a1, .int a2] : List Value).toArray below meth c (mg dA D al ext) 3 0 0 (mv_Q (mg dA D al ext) below s 0 0 (mv_Ri (fun v σ1 => rv = v ∧ rg = σ1 ∧ mv_r σ1 = mv_r h))) hz 137 [(1, .int x1), (2, .int x2)] [] := by
    intro x1 x2 hz r_hz hf
    unfold f_Model_reckon_137 at hf
    refine mv_iload_n (pc := 137) B d_Model_reckon_137 rfl 0 rfl ?_
    refine mv_iload_n (pc := 138) B d_Model_reckon_138 rfl 1 rfl ?_
    refine mv_bipush (pc := 139) (v := 31) B d_Model_reckon_139 (by decide) ?_
    refine mv_iand (pc := 141) B d_Model_reckon_141 ?_
    refine mv_ishl (pc := 142) B d_Model_reckon_142 ?_
    exact mv_iret (pc := 143) B hr rfl d_Model_reckon_143 (Nat.le_refl _) (Nat.le_refl _) ⟨_, rfl, xrh_i hf r_hz⟩
  have jn133 : ∀ (x1 : Int32) (x2 : Int32) (hz : mv_H), mv_r hz = mv_r h → f_Model_reckon_133 x1 x2 hz = some (rv, rg) → mv_V p l e ({ frames := 1, cells := 0, slots := 0, locals := 30 }) s m ([.int a0, .int a1, .int a2] : List Value).toArray below meth c (mg dA D al ext) 3 0 0 (mv_Q (mg dA D al ext) below s 0 0 (mv_Ri (fun v σ1 => rv = v ∧ rg = σ1 ∧ mv_r σ1 = mv_r h))) hz 133 [(1, .int x1), (2, .int x2)] [] := by
    intro x1 x2 hz r_hz hf
    unfold f_Model_reckon_133 at hf
    refine mv_iload_n (pc := 133) B d_Model_reckon_133 rfl 0 rfl ?_
    refine mv_iload_n (pc := 134) B d_Model_reckon_134 rfl 1 rfl ?_
    refine mv_iand (pc := 135) B d_Model_reckon_135 ?_
    exact mv_iret (pc := 136) B hr rfl d_Model_reckon_136 (Nat.le_refl _) (Nat.le_refl _) ⟨_, rfl, xrh_i hf r_hz⟩
  have jn129 : ∀ (x1 : Int32) (x2 : Int32) (hz : mv_H), mv_r hz = mv_r h → f_Model_reckon_129 x1 x2 hz = some (rv, rg) → mv_V p l e ({ frames := 1, cells := 0, slots := 0, locals := 30 }) s m ([.int a0, .int a1, .int a2] : List Value).toArray below meth c (mg dA D al ext) 3 0 0 (mv_Q (mg dA D al ext) below s 0 0 (mv_Ri (fun v σ1 => rv = v ∧ rg = σ1 ∧ mv_r σ1 = mv_r h))) hz 129 [(1, .int x1), (2, .int x2)] [] := by
    intro x1 x2 hz r_hz hf
    unfold f_Model_reckon_129 at hf
    refine mv_iload_n (pc := 129) B d_Model_reckon_129 rfl 0 rfl ?_
    refine mv_iload_n (pc := 130) B d_Model_reckon_130 rfl 1 rfl ?_
    refine mv_ior (pc := 131) B d_Model_reckon_131 ?_
    exact mv_iret (pc := 132) B hr rfl d_Model_reckon_132 (Nat.le_refl _) (Nat.le_refl _) ⟨_, rfl, xrh_i hf r_hz⟩
  have jn125 : ∀ (x1 : Int32) (x2 : Int32) (hz : mv_H), mv_r hz = mv_r h → f_Model_reckon_125 x1 x2 hz = some (rv, rg) → mv_V p l e ({ frames := 1, cells := 0, slots := 0, locals := 30 }) s m ([.int a0, .int a1, .int a2] : List Value).toArray below meth c (mg dA D al ext) 3 0 0 (mv_Q (mg dA D al ext) below s 0 0 (mv_Ri (fun v σ1 => rv = v ∧ rg = σ1 ∧ mv_r σ1 = mv_r h))) hz 125 [(1, .int x1), (2, .int x2)] [] := by
    intro x1 x2 hz r_hz hf
    unfold f_Model_reckon_125 at hf
    refine mv_iload_n (pc := 125) B d_Model_reckon_125 rfl 0 rfl ?_
    refine mv_iload_n (pc := 126) B d_Model_reckon_126 rfl 1 rfl ?_
    refine mv_ixor (pc := 127) B d_Model_reckon_127 ?_
    exact mv_iret (pc := 128) B hr rfl d_Model_reckon_128 (Nat.le_refl _) (Nat.le_refl _) ⟨_, rfl, xrh_i hf r_hz⟩
  have jn111 : ∀ (x1 : Int32) (x2 : Int32) (hz : mv_H), mv_r hz = mv_r h → f_Model_reckon_111 x1 x2 hz = some (rv, rg) → mv_V p l e ({ frames := 1, cells := 0, slots := 0, locals := 30 }) s m ([.int a0, .int a1, .int a2] : List Value).toArray below meth c (mg dA D al ext) 3 0 0 (mv_Q (mg dA D al ext) below s 0 0 (mv_Ri (fun v σ1 => rv = v ∧ rg = σ1 ∧ mv_r σ1 = mv_r h))) hz 111 [(1, .int x1), (2, .int x2)] [] := by
    intro x1 x2 hz r_hz hf
    unfold f_Model_reckon_111 at hf
    refine mv_iload_n (pc := 111) B d_Model_reckon_111 rfl 0 rfl ?_
    refine mv_iload_n (pc := 112) B d_Model_reckon_112 rfl 1 rfl ?_
    obtain ⟨u2, g1, eg1, hf⟩ := xhb_e hf
    refine mv_callSi (pc := 113) (n := 2) B (mK_ok sk sv) hNs (ch_Model_less l hi _ _ _ eg1) rfl (ma_goodc kc_Model_less) (B.2.2.2.1 _ k_2465) (B.2.2.2.1 _ k_2466) (B.2.2.2.1 _ k_12) ⟨by decide +kernel, by decide +kernel, by decide +kernel⟩ rfl d_Model_reckon_113 rfl (Nat.le_of_ble_eq_true rfl) ⟨by decide, by decide⟩ ⟨by decide, by decide⟩ ⟨by decide, by decide⟩ (mv_noH hno _) (fun w113 σ113 h113 => ?_)
    obtain ⟨rfl, rfl, s_g1⟩ := h113
    have r_g1 : mv_r g1 = mv_r h := s_g1.trans r_hz
    refine mv_if_eq (pc := 116) (tgt := 123) B d_Model_reckon_116 rfl (fun h116 => ?_) (fun h116 => ?_)
    · skip
      have hf := xif_t h116 hf
      refine mv_iconst (pc := 123) (v := 0) B d_Model_reckon_123 (by decide) ?_
      exact mv_iret (pc := 124) B hr rfl d_Model_reckon_124 (Nat.le_refl _) (Nat.le_refl _) ⟨_, rfl, xrh_i hf r_g1⟩
    · skip
      have hf := xif_f h116 hf
      refine mv_iconst (pc := 119) (v := 1) B d_Model_reckon_119 (by decide) ?_
      refine mv_goto (pc := 120) (tgt := 124) B d_Model_reckon_120 rfl ?_
      exact mv_iret (pc := 124) B hr rfl d_Model_reckon_124 (Nat.le_refl _) (Nat.le_refl _) ⟨_, rfl, xrh_i hf r_g1⟩
  have jn100 : ∀ (x1 : Int32) (x2 : Int32) (hz : mv_H), mv_r hz = mv_r h → f_Model_reckon_100 x1 x2 hz = some (rv, rg) → mv_V p l e ({ frames := 1, cells := 0, slots := 0, locals := 30 }) s m ([.int a0, .int a1, .int a2] : List Value).toArray below meth c (mg dA D al ext) 3 0 0 (mv_Q (mg dA D al ext) below s 0 0 (mv_Ri (fun v σ1 => rv = v ∧ rg = σ1 ∧ mv_r σ1 = mv_r h))) hz 100 [(1, .int x1), (2, .int x2)] [] := by
    intro x1 x2 hz r_hz hf
    unfold f_Model_reckon_100 at hf
    refine mv_iload_n (pc := 100) B d_Model_reckon_100 rfl 0 rfl ?_
    refine mv_iload_n (pc := 101) B d_Model_reckon_101 rfl 1 rfl ?_
    refine mv_icmp_ge (pc := 102) (tgt := 109) B d_Model_reckon_102 rfl (fun h102 => ?_) (fun h102 => ?_)
    · skip
      have hf := xif_t h102 hf
      refine mv_iconst (pc := 109) (v := 0) B d_Model_reckon_109 (by decide) ?_
      exact mv_iret (pc := 110) B hr rfl d_Model_reckon_110 (Nat.le_refl _) (Nat.le_refl _) ⟨_, rfl, xrh_i hf r_hz⟩
    · skip
      have hf := xif_f h102 hf
      refine mv_iconst (pc := 105) (v := 1) B d_Model_reckon_105 (by decide) ?_
      refine mv_goto (pc := 106) (tgt := 110) B d_Model_reckon_106 rfl ?_
      exact mv_iret (pc := 110) B hr rfl d_Model_reckon_110 (Nat.le_refl _) (Nat.le_refl _) ⟨_, rfl, xrh_i hf r_hz⟩
  have jn92 : ∀ (x1 : Int32) (x2 : Int32) (hz : mv_H), mv_r hz = mv_r h → f_Model_reckon_92 x1 x2 hz = some (rv, rg) → mv_V p l e ({ frames := 1, cells := 0, slots := 0, locals := 30 }) s m ([.int a0, .int a1, .int a2] : List Value).toArray below meth c (mg dA D al ext) 3 0 0 (mv_Q (mg dA D al ext) below s 0 0 (mv_Ri (fun v σ1 => rv = v ∧ rg = σ1 ∧ mv_r σ1 = mv_r h))) hz 92 [(1, .int x1), (2, .int x2)] [] := by
    intro x1 x2 hz r_hz hf
    unfold f_Model_reckon_92 at hf
    refine mv_iload_n (pc := 92) B d_Model_reckon_92 rfl 0 rfl ?_
    refine mv_iload_n (pc := 93) B d_Model_reckon_93 rfl 1 rfl ?_
    refine mv_iadd (pc := 94) B d_Model_reckon_94 ?_
    exact mv_iret (pc := 95) B hr rfl d_Model_reckon_95 (Nat.le_refl _) (Nat.le_refl _) ⟨_, rfl, xrh_i hf r_hz⟩
  unfold f_Model_reckon at hf
  refine mv_iload_n (pc := 0) B d_Model_reckon_0 rfl 0 rfl ?_
  refine mv_tsw (pc := 1) B d_Model_reckon_1 (by decide) (by decide) ?_
  refine ⟨fun h1 => ?_, fun h1n18 => ?_⟩
  · skip
    have hf := xif_t h1 hf
    show mv_V _ _ _ _ _ _ _ _ _ _ _ _ _ _ _ _ 92 _ _
    refine mv_lpick [1, 2] rfl ?_
    exact jn92 _ _ _ rfl hf
  have hf := xif_f h1n18 hf
  refine ⟨fun h1 => ?_, fun h1n19 => ?_⟩
  · skip
    have hf := xif_t h1 hf
    show mv_V _ _ _ _ _ _ _ _ _ _ _ _ _ _ _ _ 100 _ _
    refine mv_lpick [1, 2] rfl ?_
    exact jn100 _ _ _ rfl hf
  have hf := xif_f h1n19 hf
  refine ⟨fun h1 => ?_, fun h1n20 => ?_⟩
  · skip
    have hf := xif_t h1 hf
    show mv_V _ _ _ _ _ _ _ _ _ _ _ _ _ _ _ _ 111 _ _
    refine mv_lpick [1, 2] rfl ?_
    exact jn111 _ _ _ rfl hf
  have hf := xif_f h1n20 hf
  refine ⟨fun h1 => ?_, fun h1n21 => ?_⟩
  · skip
    have hf := xif_t h1 hf
    show mv_V _ _ _ _ _ _ _ _ _ _ _ _ _ _ _ _ 125 _ _
    refine mv_lpick [1, 2] rfl ?_
    exact jn125 _ _ _ rfl hf
  have hf := xif_f h1n21 hf
  refine ⟨fun h1 => ?_, fun h1n22 => ?_⟩
  · skip
    have hf := xif_t h1 hf
    show mv_V _ _ _ _ _ _ _ _ _ _ _ _ _ _ _ _ 129 _ _
    refine mv_lpick [1, 2] rfl ?_
    exact jn129 _ _ _ rfl hf
  have hf := xif_f h1n22 hf
  refine ⟨fun h1 => ?_, fun h1n23 => ?_⟩
  · skip
    have hf := xif_t h1 hf
    show mv_V _ _ _ _ _ _ _ _ _ _ _ _ _ _ _ _ 133 _ _
    refine mv_lpick [1, 2] rfl ?_
    exact jn133 _ _ _ rfl hf
  have hf := xif_f h1n23 hf
  refine ⟨fun h1 => ?_, fun h1n24 => ?_⟩
  · skip
    have hf := xif_t h1 hf
    show mv_V _ _ _ _ _ _ _ _ _ _ _ _ _ _ _ _ 137 _ _
    refine mv_lpick [1, 2] rfl ?_
    exact jn137 _ _ _ rfl hf
  have hf := xif_f h1n24 hf
  refine ⟨fun h1 => ?_, fun h1n25 => ?_⟩
  · skip
    have hf := xif_t h1 hf
    show mv_V _ _ _ _ _ _ _ _ _ _ _ _ _ _ _ _ 144 _ _
    refine mv_lpick [1, 2] rfl ?_
    exact jn144 _ _ _ rfl hf
  have hf := xif_f h1n25 hf
  refine ⟨fun h1 => ?_, fun h1n26 => ?_⟩
  · skip
    have hf := xif_t h1 hf
    show mv_V _ _ _ _ _ _ _ _ _ _ _ _ _ _ _ _ 151 _ _
    refine mv_lpick [1, 2] rfl ?_
    exact jn151 _ _ _ rfl hf
  have hf := xif_f h1n26 hf
  refine ⟨fun h1 => ?_, fun h1n27 => ?_⟩
  · skip
    have hf := xif_t h1 hf
    show mv_V _ _ _ _ _ _ _ _ _ _ _ _ _ _ _ _ 92 _ _
    refine mv_lpick [1, 2] rfl ?_
    exact jn92 _ _ _ rfl hf
  have hf := xif_f h1n27 hf
  refine ⟨fun h1 => ?_, fun h1n28 => ?_⟩
  · skip
    have hf := xif_t h1 hf
    show mv_V _ _ _ _ _ _ _ _ _ _ _ _ _ _ _ _ 96 _ _
    refine mv_iload_n (pc := 96) B d_Model_reckon_96 rfl 1 rfl ?_
    refine mv_iload_n (pc := 97) B d_Model_reckon_97 rfl 2 rfl ?_
    refine mv_isub (pc := 98) B d_Model_reckon_98 ?_
    exact mv_iret (pc := 99) B hr rfl d_Model_reckon_99 (Nat.le_refl _) (Nat.le_refl _) ⟨_, rfl, xrh_i hf rfl⟩
  have hf := xif_f h1n28 hf
  refine ⟨fun h1 => ?_, fun h1n29 => ?_⟩
  · skip
    have hf := xif_t h1 hf
    show mv_V _ _ _ _ _ _ _ _ _ _ _ _ _ _ _ _ 137 _ _
    refine mv_lpick [1, 2] rfl ?_
    exact jn137 _ _ _ rfl hf
  have hf := xif_f h1n29 hf
  refine ⟨fun h1 => ?_, fun h1n30 => ?_⟩
  · skip
    have hf := xif_t h1 hf
    show mv_V _ _ _ _ _ _ _ _ _ _ _ _ _ _ _ _ 100 _ _
    refine mv_lpick [1, 2] rfl ?_
    exact jn100 _ _ _ rfl hf
  have hf := xif_f h1n30 hf
  refine ⟨fun h1 => ?_, fun h1n31 => ?_⟩
  · skip
    have hf := xif_t h1 hf
    show mv_V _ _ _ _ _ _ _ _ _ _ _ _ _ _ _ _ 111 _ _
    refine mv_lpick [1, 2] rfl ?_
    exact jn111 _ _ _ rfl hf
  have hf := xif_f h1n31 hf
  refine ⟨fun h1 => ?_, fun h1n32 => ?_⟩
  · skip
    have hf := xif_t h1 hf
    show mv_V _ _ _ _ _ _ _ _ _ _ _ _ _ _ _ _ 125 _ _
    refine mv_lpick [1, 2] rfl ?_
    exact jn125 _ _ _ rfl hf
  have hf := xif_f h1n32 hf
  refine ⟨fun h1 => ?_, fun h1n33 => ?_⟩
  · skip
    have hf := xif_t h1 hf
    show mv_V _ _ _ _ _ _ _ _ _ _ _ _ _ _ _ _ 144 _ _
    refine mv_lpick [1, 2] rfl ?_
    exact jn144 _ _ _ rfl hf
  have hf := xif_f h1n33 hf
  refine ⟨fun h1 => ?_, fun h1n34 => ?_⟩
  · skip
    have hf := xif_t h1 hf
    show mv_V _ _ _ _ _ _ _ _ _ _ _ _ _ _ _ _ 151 _ _
    refine mv_lpick [1, 2] rfl ?_
    exact jn151 _ _ _ rfl hf
  have hf := xif_f h1n34 hf
  refine ⟨fun h1 => ?_, fun h1n35 => ?_⟩
  · skip
    have hf := xif_t h1 hf
    show mv_V _ _ _ _ _ _ _ _ _ _ _ _ _ _ _ _ 129 _ _
    refine mv_lpick [1, 2] rfl ?_
    exact jn129 _ _ _ rfl hf
  have hf := xif_f h1n35 hf
  refine ⟨fun h1 => ?_, fun h1n36 => ?_⟩
  · skip
    have hf := xif_t h1 hf
    show mv_V _ _ _ _ _ _ _ _ _ _ _ _ _ _ _ _ 133 _ _
    refine mv_lpick [1, 2] rfl ?_
    exact jn133 _ _ _ rfl hf
  have hf := xif_f h1n36 hf
  show mv_V _ _ _ _ _ _ _ _ _ _ _ _ _ _ _ _ 158 _ _
  refine mv_iload_n (pc := 158) B d_Model_reckon_158 rfl 0 rfl ?_
  refine mv_iload_n (pc := 159) B d_Model_reckon_159 rfl 1 rfl ?_
  refine mv_iload_n (pc := 160) B d_Model_reckon_160 rfl 2 rfl ?_
  obtain ⟨u4, g3, eg3, hf⟩ := xhb_e hf
  refine mv_callSi (pc := 161) (n := 3) B (mK_ok sk sv) hNs (ch_Model_multiply l hi _ _ _ _ eg3) rfl (ma_goodc kc_Model_multiply) (B.2.2.2.1 _ k_2489) (B.2.2.2.1 _ k_2490) (B.2.2.2.1 _ k_12) ⟨by decide +kernel, by decide +kernel, by decide +kernel⟩ rfl d_Model_reckon_161 rfl (Nat.le_of_ble_eq_true rfl) ⟨by decide, by decide⟩ ⟨by decide, by decide⟩ ⟨by decide, by decide⟩ (mv_noH hno _) (fun w161 σ161 h161 => ?_)
  obtain ⟨rfl, rfl, s_g3⟩ := h161
  have r_g3 : mv_r g3 = mv_r h := s_g3.trans rfl
  exact mv_iret (pc := 164) B hr rfl d_Model_reckon_164 (Nat.le_refl _) (Nat.le_refl _) ⟨_, rfl, xrh_i hf r_g3⟩
def f_Model_set (P : Nat) (h : mv_H) (a0 : Int32) (a1 : Int32) : Option mv_H := if a0 = (0 : Int32) then (some h) else (bif xvi a0 32 then xk (mv_sa h 72 (a0).toNatClampNeg a1) fun g2 => some g2 else none)
set_option maxHeartbeats 4000000 in
set_option maxRecDepth 100000 in
theorem ch_Model_set_x (l : Launch) {dA : FieldType → ClassId} {D : va_G} {al : Nat → Nat} {ext : mv_Sh} {sk sv : Nat → Nat} (hi : mv_inj (mg dA D al ext)) (h : mv_H) (hb : mh (mv_r h) ∧ mv_r h 70 9 = some 74)  (a0 : Int32) (a1 : Int32) {rg : mv_H} (hf : f_Model_set 74 h a0 a1 = some rg) : mv_C l y_Model_set (Cond.code y_Model_set b_Model_set 3 (Option.none : Option Jvm.ClassFile.FieldType) :: ma) ({ frames := 0, cells := 0, slots := 0, locals := 0 }) (mg dA D al ext) (mK sk sv) [.ref (al 70), .int a0, .int a1] h (mv_Rv (fun σ1 => rg = σ1 ∧ mv_r σ1 = mv_r h)) := by
  refine mv_C.ofV (cc := b_Model_set) (nL := 3) (ret := (Option.none : Option Jvm.ClassFile.FieldType)) (by decide +kernel) rfl hi (Nat.le_of_ble_eq_true rfl) ?_
  intro p e s m below meth c B hNs hr hnm hno
  unfold f_Model_set at hf
  refine mv_iload_n (pc := 0) B d_Model_set_0 rfl 1 rfl ?_
  refine mv_if_eq (pc := 1) (tgt := 11) B d_Model_set_1 rfl (fun h1 => ?_) (fun h1 => ?_)
  · skip
    have hf := xif_t h1 hf
    exact mv_vret (pc := 11) B hr d_Model_set_11 (Nat.le_refl _) (Nat.le_refl _) ⟨rfl, xrh_v hf rfl⟩
  · skip
    have hf := xif_f h1 hf
    refine mv_aload_n (pc := 4) B d_Model_set_4 rfl 0 rfl ?_
    refine mv_getR (pc := 5) (ci := 11) (C := R_Model) (T := F_Model) (N := 16) B 7 rfl rfl (by decide) i_Model (B.2.2.2.1 _ k_2052) rfl (hb.1 70 7 _ rfl) d_Model_set_5 ?_
    refine mv_iload_n (pc := 8) B d_Model_set_8 rfl 1 rfl ?_
    refine mv_iload_n (pc := 9) B d_Model_set_9 rfl 2 rfl ?_
    obtain ⟨q1, hf⟩ := xvi_e hf
    refine mv_iast (pc := 10) B rfl q1 d_Model_set_10 ?_
    refine mvh_hp (R9 := mv_r h) hf rfl (fun g2 hf r_g2 => ?_)
    exact mv_vret (pc := 11) B hr d_Model_set_11 (Nat.le_refl _) (Nat.le_refl _) ⟨rfl, xrh_v hf r_g2⟩
set_option maxHeartbeats 4000000 in
set_option maxRecDepth 100000 in
theorem ch_Model_set_y (l : Launch) {dA : FieldType → ClassId} {D : va_G} {al : Nat → Nat} {ext : mv_Sh} {sk sv : Nat → Nat} (hi : mv_inj (mg dA D al ext)) (h : mv_H) (hb : mh (mv_r h) ∧ mv_r h 70 9 = some 108)  (a0 : Int32) (a1 : Int32) {rg : mv_H} (hf : f_Model_set 108 h a0 a1 = some rg) : mv_C l y_Model_set (Cond.code y_Model_set b_Model_set 3 (Option.none : Option Jvm.ClassFile.FieldType) :: ma) ({ frames := 0, cells := 0, slots := 0, locals := 0 }) (mg dA D al ext) (mK sk sv) [.ref (al 70), .int a0, .int a1] h (mv_Rv (fun σ1 => rg = σ1 ∧ mv_r σ1 = mv_r h)) := by
  refine mv_C.ofV (cc := b_Model_set) (nL := 3) (ret := (Option.none : Option Jvm.ClassFile.FieldType)) (by decide +kernel) rfl hi (Nat.le_of_ble_eq_true rfl) ?_
  intro p e s m below meth c B hNs hr hnm hno
  unfold f_Model_set at hf
  refine mv_iload_n (pc := 0) B d_Model_set_0 rfl 1 rfl ?_
  refine mv_if_eq (pc := 1) (tgt := 11) B d_Model_set_1 rfl (fun h1 => ?_) (fun h1 => ?_)
  · skip
    have hf := xif_t h1 hf
    exact mv_vret (pc := 11) B hr d_Model_set_11 (Nat.le_refl _) (Nat.le_refl _) ⟨rfl, xrh_v hf rfl⟩
  · skip
    have hf := xif_f h1 hf
    refine mv_aload_n (pc := 4) B d_Model_set_4 rfl 0 rfl ?_
    refine mv_getR (pc := 5) (ci := 11) (C := R_Model) (T := F_Model) (N := 16) B 7 rfl rfl (by decide) i_Model (B.2.2.2.1 _ k_2052) rfl (hb.1 70 7 _ rfl) d_Model_set_5 ?_
    refine mv_iload_n (pc := 8) B d_Model_set_8 rfl 1 rfl ?_
    refine mv_iload_n (pc := 9) B d_Model_set_9 rfl 2 rfl ?_
    obtain ⟨q1, hf⟩ := xvi_e hf
    refine mv_iast (pc := 10) B rfl q1 d_Model_set_10 ?_
    refine mvh_hp (R9 := mv_r h) hf rfl (fun g2 hf r_g2 => ?_)
    exact mv_vret (pc := 11) B hr d_Model_set_11 (Nat.le_refl _) (Nat.le_refl _) ⟨rfl, xrh_v hf r_g2⟩
def f_Model_jump (P : Nat) (h : mv_H) (a0 : Int32) : Option (Int32 × mv_H) := if (a0 - a0 / (4 : Int32) * (4 : Int32)) = (0 : Int32) then (xk (mv_si h 70 6 a0) fun g1 => some ((0 : Int32), g1)) else (some ((1 : Int32), h))
set_option maxHeartbeats 4000000 in
set_option maxRecDepth 100000 in
theorem ch_Model_jump_x (l : Launch) {dA : FieldType → ClassId} {D : va_G} {al : Nat → Nat} {ext : mv_Sh} {sk sv : Nat → Nat} (hi : mv_inj (mg dA D al ext)) (h : mv_H) (hb : mh (mv_r h) ∧ mv_r h 70 9 = some 74)  (a0 : Int32) {rv : Int32} {rg : mv_H} (hf : f_Model_jump 74 h a0 = some (rv, rg)) : mv_C l y_Model_jump (Cond.code y_Model_jump b_Model_jump 2 (Option.some Jvm.ClassFile.FieldType.int) :: ma) ({ frames := 0, cells := 0, slots := 0, locals := 0 }) (mg dA D al ext) (mK sk sv) [.ref (al 70), .int a0] h (mv_Ri (fun v σ1 => rv = v ∧ rg = σ1 ∧ mv_r σ1 = mv_r h)) := by
  refine mv_C.ofV (cc := b_Model_jump) (nL := 2) (ret := (Option.some Jvm.ClassFile.FieldType.int)) (by decide +kernel) rfl hi (Nat.le_of_ble_eq_true rfl) ?_
  intro p e s m below meth c B hNs hr hnm hno
  unfold f_Model_jump at hf
  refine mv_iload_n (pc := 0) B d_Model_jump_0 rfl 1 rfl ?_
  refine mv_iconst (pc := 1) (v := 4) B d_Model_jump_1 (by decide) ?_
  refine mv_irem (pc := 2) B d_Model_jump_2 (by decide) ?_
  refine mv_if_eq (pc := 3) (tgt := 8) B d_Model_jump_3 rfl (fun h3 => ?_) (fun h3 => ?_)
  · skip
    have hf := xif_t h3 hf
    refine mv_aload_n (pc := 8) B d_Model_jump_8 rfl 0 rfl ?_
    refine mv_iload_n (pc := 9) B d_Model_jump_9 rfl 1 rfl ?_
    refine mv_putI (pc := 10) (ci := 11) (C := R_Model) (T := F_Model) (N := 16) B 6 rfl rfl (by decide) i_Model t_Model_ok n_Model (B.2.2.2.1 _ k_2051) rfl rfl rfl rfl d_Model_jump_10 ?_
    refine mvh_hp (R9 := mv_r h) hf rfl (fun g1 hf r_g1 => ?_)
    refine mv_iconst (pc := 13) (v := 0) B d_Model_jump_13 (by decide) ?_
    exact mv_iret (pc := 14) B hr rfl d_Model_jump_14 (Nat.le_refl _) (Nat.le_refl _) ⟨_, rfl, xrh_i hf r_g1⟩
  · skip
    have hf := xif_f h3 hf
    refine mv_iconst (pc := 6) (v := 1) B d_Model_jump_6 (by decide) ?_
    exact mv_iret (pc := 7) B hr rfl d_Model_jump_7 (Nat.le_refl _) (Nat.le_refl _) ⟨_, rfl, xrh_i hf rfl⟩
set_option maxHeartbeats 4000000 in
set_option maxRecDepth 100000 in
theorem ch_Model_jump_y (l : Launch) {dA : FieldType → ClassId} {D : va_G} {al : Nat → Nat} {ext : mv_Sh} {sk sv : Nat → Nat} (hi : mv_inj (mg dA D al ext)) (h : mv_H) (hb : mh (mv_r h) ∧ mv_r h 70 9 = some 108)  (a0 : Int32) {rv : Int32} {rg : mv_H} (hf : f_Model_jump 108 h a0 = some (rv, rg)) : mv_C l y_Model_jump (Cond.code y_Model_jump b_Model_jump 2 (Option.some Jvm.ClassFile.FieldType.int) :: ma) ({ frames := 0, cells := 0, slots := 0, locals := 0 }) (mg dA D al ext) (mK sk sv) [.ref (al 70), .int a0] h (mv_Ri (fun v σ1 => rv = v ∧ rg = σ1 ∧ mv_r σ1 = mv_r h)) := by
  refine mv_C.ofV (cc := b_Model_jump) (nL := 2) (ret := (Option.some Jvm.ClassFile.FieldType.int)) (by decide +kernel) rfl hi (Nat.le_of_ble_eq_true rfl) ?_
  intro p e s m below meth c B hNs hr hnm hno
  unfold f_Model_jump at hf
  refine mv_iload_n (pc := 0) B d_Model_jump_0 rfl 1 rfl ?_
  refine mv_iconst (pc := 1) (v := 4) B d_Model_jump_1 (by decide) ?_
  refine mv_irem (pc := 2) B d_Model_jump_2 (by decide) ?_
  refine mv_if_eq (pc := 3) (tgt := 8) B d_Model_jump_3 rfl (fun h3 => ?_) (fun h3 => ?_)
  · skip
    have hf := xif_t h3 hf
    refine mv_aload_n (pc := 8) B d_Model_jump_8 rfl 0 rfl ?_
    refine mv_iload_n (pc := 9) B d_Model_jump_9 rfl 1 rfl ?_
    refine mv_putI (pc := 10) (ci := 11) (C := R_Model) (T := F_Model) (N := 16) B 6 rfl rfl (by decide) i_Model t_Model_ok n_Model (B.2.2.2.1 _ k_2051) rfl rfl rfl rfl d_Model_jump_10 ?_
    refine mvh_hp (R9 := mv_r h) hf rfl (fun g1 hf r_g1 => ?_)
    refine mv_iconst (pc := 13) (v := 0) B d_Model_jump_13 (by decide) ?_
    exact mv_iret (pc := 14) B hr rfl d_Model_jump_14 (Nat.le_refl _) (Nat.le_refl _) ⟨_, rfl, xrh_i hf r_g1⟩
  · skip
    have hf := xif_f h3 hf
    refine mv_iconst (pc := 6) (v := 1) B d_Model_jump_6 (by decide) ?_
    exact mv_iret (pc := 7) B hr rfl d_Model_jump_7 (Nat.le_refl _) (Nat.le_refl _) ⟨_, rfl, xrh_i hf rfl⟩
def f_Model_load_136 (P : Nat) (y0 : Int32) (y1 : Int32) (hz : mv_H) : Option (Int32 × mv_H) := xhv (f_Model_set P hz y1 y0) fun g1 => some ((0 : Int32), g1)
def fF_Model_load_68 (P : Nat) (k68 : Int32 → Int32 → Int32 → Int32 → Int32 → mv_H → Option (Int32 × mv_H)) (x1 : Int32) (x2 : Int32) (x4 : Int32) (x5 : Int32) (x6 : Int32) (hz : mv_H) : Option (Int32 × mv_H) := if x6 < (0 : Int32) then (xhb (f_Model_piece hz x2 (11 : Int32) (7 : Int32)) fun u4 g3 => if x1 = (10 : Int32) then (f_Model_load_136 P ((x5).toInt8.toInt32) u4 g3) else (if x1 = (11 : Int32) then (f_Model_load_136 P ((x5).toInt16.toInt32) u4 g3) else (f_Model_load_136 P x5 u4 g3))) else (bif xvi (x4 + x6) 32768 then k68 x1 x2 x4 ((x5 <<< ((8 : Int32) &&& 31)) ||| ((mv_a hz 73 ((x4 + x6)).toNatClampNeg) &&& (255 : Int32))) (x6 + (-1)) hz else none)
def f_Model_load_68 (P : Nat) : Nat → Int32 → Int32 → Int32 → Int32 → Int32 → mv_H → Option (Int32 × mv_H)
  | 0 => fun _ _ _ _ _ _ => none
  | nn + 1 => fF_Model_load_68 P (f_Model_load_68 P nn)
def f_Model_load_27 (P : Nat) (x1 : Int32) (x2 : Int32) (y0 : Int32) (hz : mv_H) : Option (Int32 × mv_H) := xhb (f_Model_piece hz x2 (19 : Int32) (15 : Int32)) fun u7 g6 => bif xvi u7 32 then xhb (f_Model_immI g6 x2) fun u10 g9 => xhb (f_Model_inMemory g9 ((mv_a g6 72 (u7).toNatClampNeg) + u10) y0) fun u12 g11 => if u12 = (0 : Int32) then (some ((-3 : Int32), g11)) else (f_Model_load_68 P 200000 x1 x2 ((mv_a g6 72 (u7).toNatClampNeg) + u10) (0 : Int32) (y0 - (1 : Int32)) g11) else none
def f_Model_load_12 (P : Nat) (x1 : Int32) (x2 : Int32) (hz : mv_H) : Option (Int32 × mv_H) := f_Model_load_27 P x1 x2 (1 : Int32) hz
def f_Model_load (P : Nat) (h : mv_H) (a0 : Int32) (a1 : Int32) : Option (Int32 × mv_H) := if a0 = (10 : Int32) then (f_Model_load_12 P a0 a1 h) else (if a0 = (13 : Int32) then (f_Model_load_12 P a0 a1 h) else (if a0 = (12 : Int32) then (f_Model_load_27 P a0 a1 (4 : Int32) h) else (f_Model_load_27 P a0 a1 (2 : Int32) h)))
set_option maxHeartbeats 4000000 in
set_option maxRecDepth 100000 in
theorem ch_Model_load_x (l : Launch) {dA : FieldType → ClassId} {D : va_G} {al : Nat → Nat} {ext : mv_Sh} {sk sv : Nat → Nat} (hi : mv_inj (mg dA D al ext)) (h : mv_H) (hb : mh (mv_r h) ∧ mv_r h 70 9 = some 74)  (a0 : Int32) (a1 : Int32) {rv : Int32} {rg : mv_H} (hf : f_Model_load 74 h a0 a1 = some (rv, rg)) : mv_C l y_Model_load (Cond.code y_Model_load b_Model_load 7 (Option.some Jvm.ClassFile.FieldType.int) :: ma) ({ frames := 2, cells := 0, slots := 0, locals := 46 }) (mg dA D al ext) (mK sk sv) [.ref (al 70), .int a0, .int a1] h (mv_Ri (fun v σ1 => rv = v ∧ rg = σ1 ∧ mv_r σ1 = mv_r h)) := by
  refine mv_C.ofV (cc := b_Model_load) (nL := 7) (ret := (Option.some Jvm.ClassFile.FieldType.int)) (by decide +kernel) rfl hi (Nat.le_of_ble_eq_true rfl) ?_
  intro p e s m below meth c B hNs hr hnm hno
  have jn136 : ∀ (y0 : Int32) (y1 : Int32) (hz : mv_H), mv_r hz = mv_r h → f_Model_load_136 74 y0 y1 hz = some (rv, rg) → mv_V p l e ({ frames := 2, cells := 0, slots := 0, locals := 46 }) s m ([.ref (al 70), .int a0, .int a1] : List Value).toArray below meth c (mg dA D al ext) 7 0 0 (mv_Q (mg dA D al ext) below s 0 0 (mv_Ri (fun v σ1 => rv = v ∧ rg = σ1 ∧ mv_r σ1 = mv_r h))) hz 136 [] [.int y0, .int y1, .ref (al 70)] := by
    intro y0 y1 hz r_hz hf
    unfold f_Model_load_136 at hf
    obtain ⟨g1, eg1, hf⟩ := xhv_e hf
    refine mv_callVv (pc := 136) (n := 2) (ci := 11) (C := R_Model) B (mK_ok sk sv) hNs rfl rfl (ch_Model_set_x l hi _ (⟨xrw r_hz hb.1, (congrFun (congrFun r_hz 70) 9).trans hb.2⟩) _ _ eg1) rfl (ma_goodc kc_Model_set) (B.2.2.2.1 _ k_2430) (B.2.2.2.1 _ k_2432) (B.2.2.2.1 _ ks_125) (B.2.2.2.1 _ k_12) ⟨by decide +kernel, by decide +kernel, by decide +kernel⟩ rfl d_Model_load_136 rfl (Nat.le_of_ble_eq_true rfl) ⟨by first | decide | (dsimp only; omega), by first | decide | (dsimp only; omega)⟩ ⟨Nat.le_refl _, Nat.le_refl _⟩ ⟨Nat.le_refl _, Nat.le_refl _⟩ (mv_noH hno _) (fun σ136 h136 => ?_)
    obtain ⟨rfl, s_g1⟩ := h136
    have r_g1 : mv_r g1 = mv_r h := s_g1.trans r_hz
    refine mv_iconst (pc := 139) (v := 0) B d_Model_load_139 (by decide) ?_
    exact mv_iret (pc := 140) B hr rfl d_Model_load_140 (Nat.le_refl _) (Nat.le_refl _) ⟨_, rfl, xrh_i hf r_g1⟩
  have lp68 : ∀ (nn68 : Nat) (x1 : Int32) (x2 : Int32) (x4 : Int32) (x5 : Int32) (x6 : Int32) (hz : mv_H), mv_r hz = mv_r h → f_Model_load_68 74 nn68 x1 x2 x4 x5 x6 hz = some (rv, rg) → mv_V p l e ({ frames := 2, cells := 0, slots := 0, locals := 46 }) s m ([.ref (al 70), .int a0, .int a1] : List Value).toArray below meth c (mg dA D al ext) 7 0 0 (mv_Q (mg dA D al ext) below s 0 0 (mv_Ri (fun v σ1 => rv = v ∧ rg = σ1 ∧ mv_r σ1 = mv_r h))) hz 68 [(0, .ref (al 70)), (1, .int x1), (2, .int x2), (4, .int x4), (5, .int x5), (6, .int x6)] [] := by
    intro nn68
    induction nn68 with
    | zero => intro x1 x2 x4 x5 x6 hz r_hz hf; cases hf
    | succ nn68 ih68 =>
      intro x1 x2 x4 x5 x6 hz r_hz hf
      have hf : fF_Model_load_68 74 (f_Model_load_68 74 nn68) x1 x2 x4 x5 x6 hz = some (rv, rg) := hf
      unfold fF_Model_load_68 at hf
      refine mv_iload (pc := 68) B d_Model_load_68 5 rfl ?_
      refine mv_if_lt (pc := 70) (tgt := 101) B d_Model_load_70 rfl (fun h70 => ?_) (fun h70 => ?_)
      · skip
        have hf := xif_t h70 hf
        refine mv_aload_n (pc := 101) B d_Model_load_101 rfl 0 rfl ?_
        refine mv_iload_n (pc := 102) B d_Model_load_102 rfl 2 rfl ?_
        refine mv_bipush (pc := 103) (v := 11) B d_Model_load_103 (by decide) ?_
        refine mv_bipush (pc := 105) (v := 7) B d_Model_load_105 (by decide) ?_
        obtain ⟨u4, g3, eg3, hf⟩ := xhb_e hf
        refine mv_callSi (pc := 107) (n := 3) B (mK_ok sk sv) hNs (ch_Model_piece l hi _ _ _ _ eg3) rfl (ma_goodc kc_Model_piece) (B.2.2.2.1 _ k_2360) (B.2.2.2.1 _ k_2361) (B.2.2.2.1 _ k_12) ⟨by decide +kernel, by decide +kernel, by decide +kernel⟩ rfl d_Model_load_107 rfl (Nat.le_of_ble_eq_true rfl) ⟨by first | decide | (dsimp only; omega), by first | decide | (dsimp only; omega)⟩ ⟨Nat.le_refl _, Nat.le_refl _⟩ ⟨Nat.le_refl _, Nat.le_refl _⟩ (mv_noH hno _) (fun w107 σ107 h107 => ?_)
        obtain ⟨rfl, rfl, s_g3⟩ := h107
        have r_g3 : mv_r g3 = mv_r h := s_g3.trans r_hz
        refine mv_iload_n (pc := 110) B d_Model_load_110 rfl 1 rfl ?_
        refine mv_bipush (pc := 111) (v := 10) B d_Model_load_111 (by decide) ?_
        refine mv_icmp_ne (pc := 113) (tgt := 122) B d_Model_load_113 rfl (fun h113 => ?_) (fun h113 => ?_)
        · skip
          have hf := xif_f h113 hf
          refine mv_iload_n (pc := 122) B d_Model_load_122 rfl 1 rfl ?_
          refine mv_bipush (pc := 123) (v := 11) B d_Model_load_123 (by decide) ?_
          refine mv_icmp_ne (pc := 125) (tgt := 134) B d_Model_load_125 rfl (fun h125 => ?_) (fun h125 => ?_)
          · skip
            have hf := xif_f h125 hf
            refine mv_iload (pc := 134) B d_Model_load_134 4 rfl ?_
            refine mv_lpick [] rfl ?_
            exact jn136 _ _ _ r_g3 hf
          · skip
            have hf := xif_t h125 hf
            refine mv_iload (pc := 128) B d_Model_load_128 4 rfl ?_
            refine mv_i2s (pc := 130) B d_Model_load_130 ?_
            refine mv_goto (pc := 131) (tgt := 136) B d_Model_load_131 rfl ?_
            refine mv_lpick [] rfl ?_
            exact jn136 _ _ _ r_g3 hf
        · skip
          have hf := xif_t h113 hf
          refine mv_iload (pc := 116) B d_Model_load_116 4 rfl ?_
          refine mv_i2b (pc := 118) B d_Model_load_118 ?_
          refine mv_goto (pc := 119) (tgt := 136) B d_Model_load_119 rfl ?_
          refine mv_lpick [] rfl ?_
          exact jn136 _ _ _ r_g3 hf
      · skip
        have hf := xif_f h70 hf
        refine mv_iload (pc := 73) B d_Model_load_73 4 rfl ?_
        refine mv_bipush (pc := 75) (v := 8) B d_Model_load_75 (by decide) ?_
        refine mv_ishl (pc := 77) B d_Model_load_77 ?_
        refine mv_aload_n (pc := 78) B d_Model_load_78 rfl 0 rfl ?_
        refine mv_getR (pc := 79) (ci := 11) (C := R_Model) (T := F_Model) (N := 16) B 8 rfl rfl (by decide) i_Model (B.2.2.2.1 _ k_2053) rfl ((congrFun (congrFun r_hz 70) 8).trans (hb.1 70 8 _ rfl)) d_Model_load_79 ?_
        refine mv_iload (pc := 82) B d_Model_load_82 3 rfl ?_
        refine mv_iload (pc := 84) B d_Model_load_84 5 rfl ?_
        refine mv_iadd (pc := 86) B d_Model_load_86 ?_
        obtain ⟨q5, hf⟩ := xvi_e hf
        refine mv_bald (pc := 87) B rfl q5 d_Model_load_87 ?_
        refine mv_sipush (pc := 88) (v := 255) B d_Model_load_88 (by decide) ?_
        refine mv_iand (pc := 91) B d_Model_load_91 ?_
        refine mv_ior (pc := 92) B d_Model_load_92 ?_
        refine mv_istore (pc := 93) B d_Model_load_93 (by decide) rfl ?_
        refine mv_iinc (pc := 95) (j := 5) (v := -1) B d_Model_load_95 rfl (by decide) (by decide) rfl ?_
        refine mv_goto (pc := 98) (tgt := 68) B d_Model_load_98 rfl ?_
        refine mv_lpick [2, 3, 4, 5, 1, 0] rfl ?_
        exact ih68 _ _ _ _ _ _ r_hz hf
  have jn27 : ∀ (x1 : Int32) (x2 : Int32) (y0 : Int32) (hz : mv_H), mv_r hz = mv_r h → f_Model_load_27 74 x1 x2 y0 hz = some (rv, rg) → mv_V p l e ({ frames := 2, cells := 0, slots := 0, locals := 46 }) s m ([.ref (al 70), .int a0, .int a1] : List Value).toArray below meth c (mg dA D al ext) 7 0 0 (mv_Q (mg dA D al ext) below s 0 0 (mv_Ri (fun v σ1 => rv = v ∧ rg = σ1 ∧ mv_r σ1 = mv_r h))) hz 27 [(0, .ref (al 70)), (1, .int x1), (2, .int x2)] [.int y0] := by
    intro x1 x2 y0 hz r_hz hf
    unfold f_Model_load_27 at hf
    refine mv_istore_n (pc := 27) B d_Model_load_27 rfl (by decide) rfl ?_
    refine mv_aload_n (pc := 28) B d_Model_load_28 rfl 1 rfl ?_
    refine mv_getR (pc := 29) (ci := 11) (C := R_Model) (T := F_Model) (N := 16) B 7 rfl rfl (by decide) i_Model (B.2.2.2.1 _ k_2052) rfl ((congrFun (congrFun r_hz 70) 7).trans (hb.1 70 7 _ rfl)) d_Model_load_29 ?_
    refine mv_iload_n (pc := 32) B d_Model_load_32 rfl 3 rfl ?_
    refine mv_bipush (pc := 33) (v := 19) B d_Model_load_33 (by decide) ?_
    refine mv_bipush (pc := 35) (v := 15) B d_Model_load_35 (by decide) ?_
    obtain ⟨u7, g6, eg6, hf⟩ := xhb_e hf
    refine mv_callSi (pc := 37) (n := 3) B (mK_ok sk sv) hNs (ch_Model_piece l hi _ _ _ _ eg6) rfl (ma_goodc kc_Model_piece) (B.2.2.2.1 _ k_2360) (B.2.2.2.1 _ k_2361) (B.2.2.2.1 _ k_12) ⟨by decide +kernel, by decide +kernel, by decide +kernel⟩ rfl d_Model_load_37 rfl (Nat.le_of_ble_eq_true rfl) ⟨by first | decide | (dsimp only; omega), by first | decide | (dsimp only; omega)⟩ ⟨Nat.le_refl _, Nat.le_refl _⟩ ⟨Nat.le_refl _, Nat.le_refl _⟩ (mv_noH hno _) (fun w37 σ37 h37 => ?_)
    obtain ⟨rfl, rfl, s_g6⟩ := h37
    have r_g6 : mv_r g6 = mv_r h := s_g6.trans r_hz
    obtain ⟨q8, hf⟩ := xvi_e hf
    refine mv_iald (pc := 40) B rfl q8 d_Model_load_40 ?_
    refine mv_iload_n (pc := 41) B d_Model_load_41 rfl 3 rfl ?_
    obtain ⟨u10, g9, eg9, hf⟩ := xhb_e hf
    refine mv_callSi (pc := 42) (n := 1) B (mK_ok sk sv) hNs (ch_Model_immI l hi _ _ eg9) rfl (ma_goodc kc_Model_immI) (B.2.2.2.1 _ k_2455) (B.2.2.2.1 _ k_2456) (B.2.2.2.1 _ k_12) ⟨by decide +kernel, by decide +kernel, by decide +kernel⟩ rfl d_Model_load_42 rfl (Nat.le_of_ble_eq_true rfl) ⟨by first | decide | (dsimp only; omega), by first | decide | (dsimp only; omega)⟩ ⟨Nat.le_refl _, Nat.le_refl _⟩ ⟨Nat.le_refl _, Nat.le_refl _⟩ (mv_noH hno _) (fun w42 σ42 h42 => ?_)
    obtain ⟨rfl, rfl, s_g9⟩ := h42
    have r_g9 : mv_r g9 = mv_r h := s_g9.trans r_g6
    refine mv_iadd (pc := 45) B d_Model_load_45 ?_
    refine mv_istore (pc := 46) B d_Model_load_46 (by decide) rfl ?_
    refine mv_iconst (pc := 48) (v := 0) B d_Model_load_48 (by decide) ?_
    refine mv_istore (pc := 49) B d_Model_load_49 (by decide) rfl ?_
    refine mv_iload (pc := 51) B d_Model_load_51 1 rfl ?_
    refine mv_iload_n (pc := 53) B d_Model_load_53 rfl 2 rfl ?_
    obtain ⟨u12, g11, eg11, hf⟩ := xhb_e hf
    refine mv_callSi (pc := 54) (n := 2) B (mK_ok sk sv) hNs (ch_Model_inMemory l hi _ _ _ eg11) rfl (ma_goodc kc_Model_inMemory) (B.2.2.2.1 _ k_2476) (B.2.2.2.1 _ k_2477) (B.2.2.2.1 _ k_12) ⟨by decide +kernel, by decide +kernel, by decide +kernel⟩ rfl d_Model_load_54 rfl (Nat.le_of_ble_eq_true rfl) ⟨by first | decide | (dsimp only; omega), by first | decide | (dsimp only; omega)⟩ ⟨Nat.le_refl _, Nat.le_refl _⟩ ⟨Nat.le_refl _, Nat.le_refl _⟩ (mv_noH hno _) (fun w54 σ54 h54 => ?_)
    obtain ⟨rfl, rfl, s_g11⟩ := h54
    have r_g11 : mv_r g11 = mv_r h := s_g11.trans r_g9
    refine mv_if_ne (pc := 57) (tgt := 63) B d_Model_load_57 rfl (fun h57 => ?_) (fun h57 => ?_)
    · skip
      have hf := xif_f h57 hf
      refine mv_iload_n (pc := 63) B d_Model_load_63 rfl 2 rfl ?_
      refine mv_iconst (pc := 64) (v := 1) B d_Model_load_64 (by decide) ?_
      refine mv_isub (pc := 65) B d_Model_load_65 ?_
      refine mv_istore (pc := 66) B d_Model_load_66 (by decide) rfl ?_
      refine mv_lpick [4, 5, 6, 2, 1, 0] rfl ?_
      exact lp68 _ _ _ _ _ _ _ r_g11 hf
    · skip
      have hf := xif_t h57 hf
      refine mv_bipush (pc := 60) (v := -3) B d_Model_load_60 (by decide) ?_
      exact mv_iret (pc := 62) B hr rfl d_Model_load_62 (Nat.le_refl _) (Nat.le_refl _) ⟨_, rfl, xrh_i hf r_g11⟩
  have jn12 : ∀ (x1 : Int32) (x2 : Int32) (hz : mv_H), mv_r hz = mv_r h → f_Model_load_12 74 x1 x2 hz = some (rv, rg) → mv_V p l e ({ frames := 2, cells := 0, slots := 0, locals := 46 }) s m ([.ref (al 70), .int a0, .int a1] : List Value).toArray below meth c (mg dA D al ext) 7 0 0 (mv_Q (mg dA D al ext) below s 0 0 (mv_Ri (fun v σ1 => rv = v ∧ rg = σ1 ∧ mv_r σ1 = mv_r h))) hz 12 [(0, .ref (al 70)), (1, .int x1), (2, .int x2)] [] := by
    intro x1 x2 hz r_hz hf
    unfold f_Model_load_12 at hf
    refine mv_iconst (pc := 12) (v := 1) B d_Model_load_12 (by decide) ?_
    refine mv_goto (pc := 13) (tgt := 27) B d_Model_load_13 rfl ?_
    refine mv_lpick [0, 1, 2] rfl ?_
    exact jn27 _ _ _ _ r_hz hf
  unfold f_Model_load at hf
  refine mv_iload_n (pc := 0) B d_Model_load_0 rfl 1 rfl ?_
  refine mv_bipush (pc := 1) (v := 10) B d_Model_load_1 (by decide) ?_
  refine mv_icmp_eq (pc := 3) (tgt := 12) B d_Model_load_3 rfl (fun h3 => ?_) (fun h3 => ?_)
  · skip
    have hf := xif_t h3 hf
    refine mv_lpick [0, 1, 2] rfl ?_
    exact jn12 _ _ _ rfl hf
  · skip
    have hf := xif_f h3 hf
    refine mv_iload_n (pc := 6) B d_Model_load_6 rfl 1 rfl ?_
    refine mv_bipush (pc := 7) (v := 13) B d_Model_load_7 (by decide) ?_
    refine mv_icmp_ne (pc := 9) (tgt := 16) B d_Model_load_9 rfl (fun h9 => ?_) (fun h9 => ?_)
    · skip
      have hf := xif_f h9 hf
      refine mv_iload_n (pc := 16) B d_Model_load_16 rfl 1 rfl ?_
      refine mv_bipush (pc := 17) (v := 12) B d_Model_load_17 (by decide) ?_
      refine mv_icmp_ne (pc := 19) (tgt := 26) B d_Model_load_19 rfl (fun h19 => ?_) (fun h19 => ?_)
      · skip
        have hf := xif_f h19 hf
        refine mv_iconst (pc := 26) (v := 2) B d_Model_load_26 (by decide) ?_
        refine mv_lpick [0, 1, 2] rfl ?_
        exact jn27 _ _ _ _ rfl hf
      · skip
        have hf := xif_t h19 hf
        refine mv_iconst (pc := 22) (v := 4) B d_Model_load_22 (by decide) ?_
        refine mv_goto (pc := 23) (tgt := 27) B d_Model_load_23 rfl ?_
        refine mv_lpick [0, 1, 2] rfl ?_
        exact jn27 _ _ _ _ rfl hf
    · skip
      have hf := xif_t h9 hf
      refine mv_lpick [0, 1, 2] rfl ?_
      exact jn12 _ _ _ rfl hf
set_option maxHeartbeats 4000000 in
set_option maxRecDepth 100000 in
theorem ch_Model_load_y (l : Launch) {dA : FieldType → ClassId} {D : va_G} {al : Nat → Nat} {ext : mv_Sh} {sk sv : Nat → Nat} (hi : mv_inj (mg dA D al ext)) (h : mv_H) (hb : mh (mv_r h) ∧ mv_r h 70 9 = some 108)  (a0 : Int32) (a1 : Int32) {rv : Int32} {rg : mv_H} (hf : f_Model_load 108 h a0 a1 = some (rv, rg)) : mv_C l y_Model_load (Cond.code y_Model_load b_Model_load 7 (Option.some Jvm.ClassFile.FieldType.int) :: ma) ({ frames := 2, cells := 0, slots := 0, locals := 46 }) (mg dA D al ext) (mK sk sv) [.ref (al 70), .int a0, .int a1] h (mv_Ri (fun v σ1 => rv = v ∧ rg = σ1 ∧ mv_r σ1 = mv_r h)) := by
  refine mv_C.ofV (cc := b_Model_load) (nL := 7) (ret := (Option.some Jvm.ClassFile.FieldType.int)) (by decide +kernel) rfl hi (Nat.le_of_ble_eq_true rfl) ?_
  intro p e s m below meth c B hNs hr hnm hno
  have jn136 : ∀ (y0 : Int32) (y1 : Int32) (hz : mv_H), mv_r hz = mv_r h → f_Model_load_136 108 y0 y1 hz = some (rv, rg) → mv_V p l e ({ frames := 2, cells := 0, slots := 0, locals := 46 }) s m ([.ref (al 70), .int a0, .int a1] : List Value).toArray below meth c (mg dA D al ext) 7 0 0 (mv_Q (mg dA D al ext) below s 0 0 (mv_Ri (fun v σ1 => rv = v ∧ rg = σ1 ∧ mv_r σ1 = mv_r h))) hz 136 [] [.int y0, .int y1, .ref (al 70)] := by
    intro y0 y1 hz r_hz hf
    unfold f_Model_load_136 at hf
    obtain ⟨g1, eg1, hf⟩ := xhv_e hf
    refine mv_callVv (pc := 136) (n := 2) (ci := 11) (C := R_Model) B (mK_ok sk sv) hNs rfl rfl (ch_Model_set_y l hi _ (⟨xrw r_hz hb.1, (congrFun (congrFun r_hz 70) 9).trans hb.2⟩) _ _ eg1) rfl (ma_goodc kc_Model_set) (B.2.2.2.1 _ k_2430) (B.2.2.2.1 _ k_2432) (B.2.2.2.1 _ ks_125) (B.2.2.2.1 _ k_12) ⟨by decide +kernel, by decide +kernel, by decide +kernel⟩ rfl d_Model_load_136 rfl (Nat.le_of_ble_eq_true rfl) ⟨by first | decide | (dsimp only; omega), by first | decide | (dsimp only; omega)⟩ ⟨Nat.le_refl _, Nat.le_refl _⟩ ⟨Nat.le_refl _, Nat.le_refl _⟩ (mv_noH hno _) (fun σ136 h136 => ?_)
    obtain ⟨rfl, s_g1⟩ := h136
    have r_g1 : mv_r g1 = mv_r h := s_g1.trans r_hz
    refine mv_iconst (pc := 139) (v := 0) B d_Model_load_139 (by decide) ?_
    exact mv_iret (pc := 140) B hr rfl d_Model_load_140 (Nat.le_refl _) (Nat.le_refl _) ⟨_, rfl, xrh_i hf r_g1⟩
  have lp68 : ∀ (nn68 : Nat) (x1 : Int32) (x2 : Int32) (x4 : Int32) (x5 : Int32) (x6 : Int32) (hz : mv_H), mv_r hz = mv_r h → f_Model_load_68 108 nn68 x1 x2 x4 x5 x6 hz = some (rv, rg) → mv_V p l e ({ frames := 2, cells := 0, slots := 0, locals := 46 }) s m ([.ref (al 70), .int a0, .int a1] : List Value).toArray below meth c (mg dA D al ext) 7 0 0 (mv_Q (mg dA D al ext) below s 0 0 (mv_Ri (fun v σ1 => rv = v ∧ rg = σ1 ∧ mv_r σ1 = mv_r h))) hz 68 [(0, .ref (al 70)), (1, .int x1), (2, .int x2), (4, .int x4), (5, .int x5), (6, .int x6)] [] := by
    intro nn68
    induction nn68 with
    | zero => intro x1 x2 x4 x5 x6 hz r_hz hf; cases hf
    | succ nn68 ih68 =>
      intro x1 x2 x4 x5 x6 hz r_hz hf
      have hf : fF_Model_load_68 108 (f_Model_load_68 108 nn68) x1 x2 x4 x5 x6 hz = some (rv, rg) := hf
      unfold fF_Model_load_68 at hf
      refine mv_iload (pc := 68) B d_Model_load_68 5 rfl ?_
      refine mv_if_lt (pc := 70) (tgt := 101) B d_Model_load_70 rfl (fun h70 => ?_) (fun h70 => ?_)
      · skip
        have hf := xif_t h70 hf
        refine mv_aload_n (pc := 101) B d_Model_load_101 rfl 0 rfl ?_
        refine mv_iload_n (pc := 102) B d_Model_load_102 rfl 2 rfl ?_
        refine mv_bipush (pc := 103) (v := 11) B d_Model_load_103 (by decide) ?_
        refine mv_bipush (pc := 105) (v := 7) B d_Model_load_105 (by decide) ?_
        obtain ⟨u4, g3, eg3, hf⟩ := xhb_e hf
        refine mv_callSi (pc := 107) (n := 3) B (mK_ok sk sv) hNs (ch_Model_piece l hi _ _ _ _ eg3) rfl (ma_goodc kc_Model_piece) (B.2.2.2.1 _ k_2360) (B.2.2.2.1 _ k_2361) (B.2.2.2.1 _ k_12) ⟨by decide +kernel, by decide +kernel, by decide +kernel⟩ rfl d_Model_load_107 rfl (Nat.le_of_ble_eq_true rfl) ⟨by first | decide | (dsimp only; omega), by first | decide | (dsimp only; omega)⟩ ⟨Nat.le_refl _, Nat.le_refl _⟩ ⟨Nat.le_refl _, Nat.le_refl _⟩ (mv_noH hno _) (fun w107 σ107 h107 => ?_)
        obtain ⟨rfl, rfl, s_g3⟩ := h107
        have r_g3 : mv_r g3 = mv_r h := s_g3.trans r_hz
        refine mv_iload_n (pc := 110) B d_Model_load_110 rfl 1 rfl ?_
        refine mv_bipush (pc := 111) (v := 10) B d_Model_load_111 (by decide) ?_
        refine mv_icmp_ne (pc := 113) (tgt := 122) B d_Model_load_113 rfl (fun h113 => ?_) (fun h113 => ?_)
        · skip
          have hf := xif_f h113 hf
          refine mv_iload_n (pc := 122) B d_Model_load_122 rfl 1 rfl ?_
          refine mv_bipush (pc := 123) (v := 11) B d_Model_load_123 (by decide) ?_
          refine mv_icmp_ne (pc := 125) (tgt := 134) B d_Model_load_125 rfl (fun h125 => ?_) (fun h125 => ?_)
          · skip
            have hf := xif_f h125 hf
            refine mv_iload (pc := 134) B d_Model_load_134 4 rfl ?_
            refine mv_lpick [] rfl ?_
            exact jn136 _ _ _ r_g3 hf
          · skip
            have hf := xif_t h125 hf
            refine mv_iload (pc := 128) B d_Model_load_128 4 rfl ?_
            refine mv_i2s (pc := 130) B d_Model_load_130 ?_
            refine mv_goto (pc := 131) (tgt := 136) B d_Model_load_131 rfl ?_
            refine mv_lpick [] rfl ?_
            exact jn136 _ _ _ r_g3 hf
        · skip
          have hf := xif_t h113 hf
          refine mv_iload (pc := 116) B d_Model_load_116 4 rfl ?_
          refine mv_i2b (pc := 118) B d_Model_load_118 ?_
          refine mv_goto (pc := 119) (tgt := 136) B d_Model_load_119 rfl ?_
          refine mv_lpick [] rfl ?_
          exact jn136 _ _ _ r_g3 hf
      · skip
        have hf := xif_f h70 hf
        refine mv_iload (pc := 73) B d_Model_load_73 4 rfl ?_
        refine mv_bipush (pc := 75) (v := 8) B d_Model_load_75 (by decide) ?_
        refine mv_ishl (pc := 77) B d_Model_load_77 ?_
        refine mv_aload_n (pc := 78) B d_Model_load_78 rfl 0 rfl ?_
        refine mv_getR (pc := 79) (ci := 11) (C := R_Model) (T := F_Model) (N := 16) B 8 rfl rfl (by decide) i_Model (B.2.2.2.1 _ k_2053) rfl ((congrFun (congrFun r_hz 70) 8).trans (hb.1 70 8 _ rfl)) d_Model_load_79 ?_
        refine mv_iload (pc := 82) B d_Model_load_82 3 rfl ?_
        refine mv_iload (pc := 84) B d_Model_load_84 5 rfl ?_
        refine mv_iadd (pc := 86) B d_Model_load_86 ?_
        obtain ⟨q5, hf⟩ := xvi_e hf
        refine mv_bald (pc := 87) B rfl q5 d_Model_load_87 ?_
        refine mv_sipush (pc := 88) (v := 255) B d_Model_load_88 (by decide) ?_
        refine mv_iand (pc := 91) B d_Model_load_91 ?_
        refine mv_ior (pc := 92) B d_Model_load_92 ?_
        refine mv_istore (pc := 93) B d_Model_load_93 (by decide) rfl ?_
        refine mv_iinc (pc := 95) (j := 5) (v := -1) B d_Model_load_95 rfl (by decide) (by decide) rfl ?_
        refine mv_goto (pc := 98) (tgt := 68) B d_Model_load_98 rfl ?_
        refine mv_lpick [2, 3, 4, 5, 1, 0] rfl ?_
        exact ih68 _ _ _ _ _ _ r_hz hf
  have jn27 : ∀ (x1 : Int32) (x2 : Int32) (y0 : Int32) (hz : mv_H), mv_r hz = mv_r h → f_Model_load_27 108 x1 x2 y0 hz = some (rv, rg) → mv_V p l e ({ frames := 2, cells := 0, slots := 0, locals := 46 }) s m ([.ref (al 70), .int a0, .int a1] : List Value).toArray below meth c (mg dA D al ext) 7 0 0 (mv_Q (mg dA D al ext) below s 0 0 (mv_Ri (fun v σ1 => rv = v ∧ rg = σ1 ∧ mv_r σ1 = mv_r h))) hz 27 [(0, .ref (al 70)), (1, .int x1), (2, .int x2)] [.int y0] := by
    intro x1 x2 y0 hz r_hz hf
    unfold f_Model_load_27 at hf
    refine mv_istore_n (pc := 27) B d_Model_load_27 rfl (by decide) rfl ?_
    refine mv_aload_n (pc := 28) B d_Model_load_28 rfl 1 rfl ?_
    refine mv_getR (pc := 29) (ci := 11) (C := R_Model) (T := F_Model) (N := 16) B 7 rfl rfl (by decide) i_Model (B.2.2.2.1 _ k_2052) rfl ((congrFun (congrFun r_hz 70) 7).trans (hb.1 70 7 _ rfl)) d_Model_load_29 ?_
    refine mv_iload_n (pc := 32) B d_Model_load_32 rfl 3 rfl ?_
    refine mv_bipush (pc := 33) (v := 19) B d_Model_load_33 (by decide) ?_
    refine mv_bipush (pc := 35) (v := 15) B d_Model_load_35 (by decide) ?_
    obtain ⟨u7, g6, eg6, hf⟩ := xhb_e hf
    refine mv_callSi (pc := 37) (n := 3) B (mK_ok sk sv) hNs (ch_Model_piece l hi _ _ _ _ eg6) rfl (ma_goodc kc_Model_piece) (B.2.2.2.1 _ k_2360) (B.2.2.2.1 _ k_2361) (B.2.2.2.1 _ k_12) ⟨by decide +kernel, by decide +kernel, by decide +kernel⟩ rfl d_Model_load_37 rfl (Nat.le_of_ble_eq_true rfl) ⟨by first | decide | (dsimp only; omega), by first | decide | (dsimp only; omega)⟩ ⟨Nat.le_refl _, Nat.le_refl _⟩ ⟨Nat.le_refl _, Nat.le_refl _⟩ (mv_noH hno _) (fun w37 σ37 h37 => ?_)
    obtain ⟨rfl, rfl, s_g6⟩ := h37
    have r_g6 : mv_r g6 = mv_r h := s_g6.trans r_hz
    obtain ⟨q8, hf⟩ := xvi_e hf
    refine mv_iald (pc := 40) B rfl q8 d_Model_load_40 ?_
    refine mv_iload_n (pc := 41) B d_Model_load_41 rfl 3 rfl ?_
    obtain ⟨u10, g9, eg9, hf⟩ := xhb_e hf
    refine mv_callSi (pc := 42) (n := 1) B (mK_ok sk sv) hNs (ch_Model_immI l hi _ _ eg9) rfl (ma_goodc kc_Model_immI) (B.2.2.2.1 _ k_2455) (B.2.2.2.1 _ k_2456) (B.2.2.2.1 _ k_12) ⟨by decide +kernel, by decide +kernel, by decide +kernel⟩ rfl d_Model_load_42 rfl (Nat.le_of_ble_eq_true rfl) ⟨by first | decide | (dsimp only; omega), by first | decide | (dsimp only; omega)⟩ ⟨Nat.le_refl _, Nat.le_refl _⟩ ⟨Nat.le_refl _, Nat.le_refl _⟩ (mv_noH hno _) (fun w42 σ42 h42 => ?_)
    obtain ⟨rfl, rfl, s_g9⟩ := h42
    have r_g9 : mv_r g9 = mv_r h := s_g9.trans r_g6
    refine mv_iadd (pc := 45) B d_Model_load_45 ?_
    refine mv_istore (pc := 46) B d_Model_load_46 (by decide) rfl ?_
    refine mv_iconst (pc := 48) (v := 0) B d_Model_load_48 (by decide) ?_
    refine mv_istore (pc := 49) B d_Model_load_49 (by decide) rfl ?_
    refine mv_iload (pc := 51) B d_Model_load_51 1 rfl ?_
    refine mv_iload_n (pc := 53) B d_Model_load_53 rfl 2 rfl ?_
    obtain ⟨u12, g11, eg11, hf⟩ := xhb_e hf
    refine mv_callSi (pc := 54) (n := 2) B (mK_ok sk sv) hNs (ch_Model_inMemory l hi _ _ _ eg11) rfl (ma_goodc kc_Model_inMemory) (B.2.2.2.1 _ k_2476) (B.2.2.2.1 _ k_2477) (B.2.2.2.1 _ k_12) ⟨by decide +kernel, by decide +kernel, by decide +kernel⟩ rfl d_Model_load_54 rfl (Nat.le_of_ble_eq_true rfl) ⟨by first | decide | (dsimp only; omega), by first | decide | (dsimp only; omega)⟩ ⟨Nat.le_refl _, Nat.le_refl _⟩ ⟨Nat.le_refl _, Nat.le_refl _⟩ (mv_noH hno _) (fun w54 σ54 h54 => ?_)
    obtain ⟨rfl, rfl, s_g11⟩ := h54
    have r_g11 : mv_r g11 = mv_r h := s_g11.trans r_g9
    refine mv_if_ne (pc := 57) (tgt := 63) B d_Model_load_57 rfl (fun h57 => ?_) (fun h57 => ?_)
    · skip
      have hf := xif_f h57 hf
      refine mv_iload_n (pc := 63) B d_Model_load_63 rfl 2 rfl ?_
      refine mv_iconst (pc := 64) (v := 1) B d_Model_load_64 (by decide) ?_
      refine mv_isub (pc := 65) B d_Model_load_65 ?_
      refine mv_istore (pc := 66) B d_Model_load_66 (by decide) rfl ?_
      refine mv_lpick [4, 5, 6, 2, 1, 0] rfl ?_
      exact lp68 _ _ _ _ _ _ _ r_g11 hf
    · skip
      have hf := xif_t h57 hf
      refine mv_bipush (pc := 60) (v := -3) B d_Model_load_60 (by decide) ?_
      exact mv_iret (pc := 62) B hr rfl d_Model_load_62 (Nat.le_refl _) (Nat.le_refl _) ⟨_, rfl, xrh_i hf r_g11⟩
  have jn12 : ∀ (x1 : Int32) (x2 : Int32) (hz : mv_H), mv_r hz = mv_r h → f_Model_load_12 108 x1 x2 hz = some (rv, rg) → mv_V p l e ({ frames := 2, cells := 0, slots := 0, locals := 46 }) s m ([.ref (al 70), .int a0, .int a1] : List Value).toArray below meth c (mg dA D al ext) 7 0 0 (mv_Q (mg dA D al ext) below s 0 0 (mv_Ri (fun v σ1 => rv = v ∧ rg = σ1 ∧ mv_r σ1 = mv_r h))) hz 12 [(0, .ref (al 70)), (1, .int x1), (2, .int x2)] [] := by
    intro x1 x2 hz r_hz hf
    unfold f_Model_load_12 at hf
    refine mv_iconst (pc := 12) (v := 1) B d_Model_load_12 (by decide) ?_
    refine mv_goto (pc := 13) (tgt := 27) B d_Model_load_13 rfl ?_
    refine mv_lpick [0, 1, 2] rfl ?_
    exact jn27 _ _ _ _ r_hz hf
  unfold f_Model_load at hf
  refine mv_iload_n (pc := 0) B d_Model_load_0 rfl 1 rfl ?_
  refine mv_bipush (pc := 1) (v := 10) B d_Model_load_1 (by decide) ?_
  refine mv_icmp_eq (pc := 3) (tgt := 12) B d_Model_load_3 rfl (fun h3 => ?_) (fun h3 => ?_)
  · skip
    have hf := xif_t h3 hf
    refine mv_lpick [0, 1, 2] rfl ?_
    exact jn12 _ _ _ rfl hf
  · skip
    have hf := xif_f h3 hf
    refine mv_iload_n (pc := 6) B d_Model_load_6 rfl 1 rfl ?_
    refine mv_bipush (pc := 7) (v := 13) B d_Model_load_7 (by decide) ?_
    refine mv_icmp_ne (pc := 9) (tgt := 16) B d_Model_load_9 rfl (fun h9 => ?_) (fun h9 => ?_)
    · skip
      have hf := xif_f h9 hf
      refine mv_iload_n (pc := 16) B d_Model_load_16 rfl 1 rfl ?_
      refine mv_bipush (pc := 17) (v := 12) B d_Model_load_17 (by decide) ?_
      refine mv_icmp_ne (pc := 19) (tgt := 26) B d_Model_load_19 rfl (fun h19 => ?_) (fun h19 => ?_)
      · skip
        have hf := xif_f h19 hf
        refine mv_iconst (pc := 26) (v := 2) B d_Model_load_26 (by decide) ?_
        refine mv_lpick [0, 1, 2] rfl ?_
        exact jn27 _ _ _ _ rfl hf
      · skip
        have hf := xif_t h19 hf
        refine mv_iconst (pc := 22) (v := 4) B d_Model_load_22 (by decide) ?_
        refine mv_goto (pc := 23) (tgt := 27) B d_Model_load_23 rfl ?_
        refine mv_lpick [0, 1, 2] rfl ?_
        exact jn27 _ _ _ _ rfl hf
    · skip
      have hf := xif_t h9 hf
      refine mv_lpick [0, 1, 2] rfl ?_
      exact jn12 _ _ _ rfl hf
def fF_Model_store_57 (P : Nat) (k57 : Int32 → Int32 → Int32 → Int32 → mv_H → Option (Int32 × mv_H)) (x3 : Int32) (x4 : Int32) (x5 : Int32) (x6 : Int32) (hz : mv_H) : Option (Int32 × mv_H) := if x3 ≤ x6 then (some ((0 : Int32), hz)) else (bif xvi (x4 + x6) 32768 then xk (mv_sa hz 73 ((x4 + x6)).toNatClampNeg (vp_nar .byte (((((x5).toUInt32 >>> ((((8 : Int32) * x6)).toUInt32 &&& Int32.toUInt32 31)).toInt32)).toInt8.toInt32))) fun g2 => k57 x3 x4 x5 (x6 + 1) g2 else none)
def f_Model_store_57 (P : Nat) : Nat → Int32 → Int32 → Int32 → Int32 → mv_H → Option (Int32 × mv_H)
  | 0 => fun _ _ _ _ _ => none
  | nn + 1 => fF_Model_store_57 P (f_Model_store_57 P nn)
def f_Model_store (P : Nat) (h : mv_H) (a0 : Int32) (a1 : Int32) : Option (Int32 × mv_H) := xhb (f_Model_piece h a1 (19 : Int32) (15 : Int32)) fun u4 g3 => bif xvi u4 32 then xhb (f_Model_immS g3 a1) fun u7 g6 => xhb (f_Model_piece g6 a1 (24 : Int32) (20 : Int32)) fun u9 g8 => bif xvi u9 32 then xhb (f_Model_inMemory g8 ((mv_a g3 72 (u4).toNatClampNeg) + u7) ((1 : Int32) <<< ((a0 - (15 : Int32)) &&& 31))) fun u12 g11 => if u12 = (0 : Int32) then (some ((-3 : Int32), g11)) else (f_Model_store_57 P 200000 ((1 : Int32) <<< ((a0 - (15 : Int32)) &&& 31)) ((mv_a g3 72 (u4).toNatClampNeg) + u7) (mv_a g8 72 (u9).toNatClampNeg) (0 : Int32) g11) else none else none
set_option maxHeartbeats 4000000 in
set_option maxRecDepth 100000 in
theorem ch_Model_store_x (l : Launch) {dA : FieldType → ClassId} {D : va_G} {al : Nat → Nat} {ext : mv_Sh} {sk sv : Nat → Nat} (hi : mv_inj (mg dA D al ext)) (h : mv_H) (hb : mh (mv_r h) ∧ mv_r h 70 9 = some 74)  (a0 : Int32) (a1 : Int32) {rv : Int32} {rg : mv_H} (hf : f_Model_store 74 h a0 a1 = some (rv, rg)) : mv_C l y_Model_store (Cond.code y_Model_store b_Model_store 7 (Option.some Jvm.ClassFile.FieldType.int) :: ma) ({ frames := 2, cells := 0, slots := 0, locals := 46 }) (mg dA D al ext) (mK sk sv) [.ref (al 70), .int a0, .int a1] h (mv_Ri (fun v σ1 => rv = v ∧ rg = σ1 ∧ mv_r σ1 = mv_r h)) := by
  refine mv_C.ofV (cc := b_Model_store) (nL := 7) (ret := (Option.some Jvm.ClassFile.FieldType.int)) (by decide +kernel) rfl hi (Nat.le_of_ble_eq_true rfl) ?_
  intro p e s m below meth c B hNs hr hnm hno
  have lp57 : ∀ (nn57 : Nat) (x3 : Int32) (x4 : Int32) (x5 : Int32) (x6 : Int32) (hz : mv_H), mv_r hz = mv_r h → f_Model_store_57 74 nn57 x3 x4 x5 x6 hz = some (rv, rg) → mv_V p l e ({ frames := 2, cells := 0, slots := 0, locals := 46 }) s m ([.ref (al 70), .int a0, .int a1] : List Value).toArray below meth c (mg dA D al ext) 7 0 0 (mv_Q (mg dA D al ext) below s 0 0 (mv_Ri (fun v σ1 => rv = v ∧ rg = σ1 ∧ mv_r σ1 = mv_r h))) hz 57 [(0, .ref (al 70)), (3, .int x3), (4, .int x4), (5, .int x5), (6, .int x6)] [] := by
    intro nn57
    induction nn57 with
    | zero => intro x3 x4 x5 x6 hz r_hz hf; cases hf
    | succ nn57 ih57 =>
      intro x3 x4 x5 x6 hz r_hz hf
      have hf : fF_Model_store_57 74 (f_Model_store_57 74 nn57) x3 x4 x5 x6 hz = some (rv, rg) := hf
      unfold fF_Model_store_57 at hf
      refine mv_iload (pc := 57) B d_Model_store_57 4 rfl ?_
      refine mv_iload_n (pc := 59) B d_Model_store_59 rfl 1 rfl ?_
      refine mv_icmp_ge (pc := 60) (tgt := 88) B d_Model_store_60 rfl (fun h60 => ?_) (fun h60 => ?_)
      · skip
        have hf := xif_t h60 hf
        refine mv_iconst (pc := 88) (v := 0) B d_Model_store_88 (by decide) ?_
        exact mv_iret (pc := 89) B hr rfl d_Model_store_89 (Nat.le_refl _) (Nat.le_refl _) ⟨_, rfl, xrh_i hf r_hz⟩
      · skip
        have hf := xif_f h60 hf
        refine mv_aload_n (pc := 63) B d_Model_store_63 rfl 0 rfl ?_
        refine mv_getR (pc := 64) (ci := 11) (C := R_Model) (T := F_Model) (N := 16) B 8 rfl rfl (by decide) i_Model (B.2.2.2.1 _ k_2053) rfl ((congrFun (congrFun r_hz 70) 8).trans (hb.1 70 8 _ rfl)) d_Model_store_64 ?_
        refine mv_iload (pc := 67) B d_Model_store_67 2 rfl ?_
        refine mv_iload (pc := 69) B d_Model_store_69 4 rfl ?_
        refine mv_iadd (pc := 71) B d_Model_store_71 ?_
        refine mv_iload (pc := 72) B d_Model_store_72 3 rfl ?_
        refine mv_bipush (pc := 74) (v := 8) B d_Model_store_74 (by decide) ?_
        refine mv_iload (pc := 76) B d_Model_store_76 4 rfl ?_
        refine mv_imul (pc := 78) B d_Model_store_78 ?_
        refine mv_iushr (pc := 79) B d_Model_store_79 ?_
        refine mv_i2b (pc := 80) B d_Model_store_80 ?_
        obtain ⟨q1, hf⟩ := xvi_e hf
        refine mv_bast (pc := 81) B rfl q1 d_Model_store_81 ?_
        refine mvh_hp (R9 := mv_r h) hf r_hz (fun g2 hf r_g2 => ?_)
        refine mv_iinc (pc := 82) (j := 4) (v := 1) B d_Model_store_82 rfl (by decide) (by decide) rfl ?_
        refine mv_goto (pc := 85) (tgt := 57) B d_Model_store_85 rfl ?_
        refine mv_lpick [1, 2, 3, 4, 0] rfl ?_
        exact ih57 _ _ _ _ _ r_g2 hf
  unfold f_Model_store at hf
  refine mv_iconst (pc := 0) (v := 1) B d_Model_store_0 (by decide) ?_
  refine mv_iload_n (pc := 1) B d_Model_store_1 rfl 1 rfl ?_
  refine mv_bipush (pc := 2) (v := 15) B d_Model_store_2 (by decide) ?_
  refine mv_isub (pc := 4) B d_Model_store_4 ?_
  refine mv_ishl (pc := 5) B d_Model_store_5 ?_
  refine mv_istore_n (pc := 6) B d_Model_store_6 rfl (by decide) rfl ?_
  refine mv_aload_n (pc := 7) B d_Model_store_7 rfl 1 rfl ?_
  refine mv_getR (pc := 8) (ci := 11) (C := R_Model) (T := F_Model) (N := 16) B 7 rfl rfl (by decide) i_Model (B.2.2.2.1 _ k_2052) rfl (hb.1 70 7 _ rfl) d_Model_store_8 ?_
  refine mv_iload_n (pc := 11) B d_Model_store_11 rfl 3 rfl ?_
  refine mv_bipush (pc := 12) (v := 19) B d_Model_store_12 (by decide) ?_
  refine mv_bipush (pc := 14) (v := 15) B d_Model_store_14 (by decide) ?_
  obtain ⟨u4, g3, eg3, hf⟩ := xhb_e hf
  refine mv_callSi (pc := 16) (n := 3) B (mK_ok sk sv) hNs (ch_Model_piece l hi _ _ _ _ eg3) rfl (ma_goodc kc_Model_piece) (B.2.2.2.1 _ k_2360) (B.2.2.2.1 _ k_2361) (B.2.2.2.1 _ k_12) ⟨by decide +kernel, by decide +kernel, by decide +kernel⟩ rfl d_Model_store_16 rfl (Nat.le_of_ble_eq_true rfl) ⟨by first | decide | (dsimp only; omega), by first | decide | (dsimp only; omega)⟩ ⟨Nat.le_refl _, Nat.le_refl _⟩ ⟨Nat.le_refl _, Nat.le_refl _⟩ (mv_noH hno _) (fun w16 σ16 h16 => ?_)
  obtain ⟨rfl, rfl, s_g3⟩ := h16
  have r_g3 : mv_r g3 = mv_r h := s_g3.trans rfl
  obtain ⟨q5, hf⟩ := xvi_e hf
  refine mv_iald (pc := 19) B rfl q5 d_Model_store_19 ?_
  refine mv_iload_n (pc := 20) B d_Model_store_20 rfl 3 rfl ?_
  obtain ⟨u7, g6, eg6, hf⟩ := xhb_e hf
  refine mv_callSi (pc := 21) (n := 1) B (mK_ok sk sv) hNs (ch_Model_immS l hi _ _ eg6) rfl (ma_goodc kc_Model_immS) (B.2.2.2.1 _ k_2483) (B.2.2.2.1 _ k_2484) (B.2.2.2.1 _ k_12) ⟨by decide +kernel, by decide +kernel, by decide +kernel⟩ rfl d_Model_store_21 rfl (Nat.le_of_ble_eq_true rfl) ⟨by first | decide | (dsimp only; omega), by first | decide | (dsimp only; omega)⟩ ⟨Nat.le_refl _, Nat.le_refl _⟩ ⟨Nat.le_refl _, Nat.le_refl _⟩ (mv_noH hno _) (fun w21 σ21 h21 => ?_)
  obtain ⟨rfl, rfl, s_g6⟩ := h21
  have r_g6 : mv_r g6 = mv_r h := s_g6.trans r_g3
  refine mv_iadd (pc := 24) B d_Model_store_24 ?_
  refine mv_istore (pc := 25) B d_Model_store_25 (by decide) rfl ?_
  refine mv_aload_n (pc := 27) B d_Model_store_27 rfl 2 rfl ?_
  refine mv_getR (pc := 28) (ci := 11) (C := R_Model) (T := F_Model) (N := 16) B 7 rfl rfl (by decide) i_Model (B.2.2.2.1 _ k_2052) rfl ((congrFun (congrFun r_g6 70) 7).trans (hb.1 70 7 _ rfl)) d_Model_store_28 ?_
  refine mv_iload_n (pc := 31) B d_Model_store_31 rfl 4 rfl ?_
  refine mv_bipush (pc := 32) (v := 24) B d_Model_store_32 (by decide) ?_
  refine mv_bipush (pc := 34) (v := 20) B d_Model_store_34 (by decide) ?_
  obtain ⟨u9, g8, eg8, hf⟩ := xhb_e hf
  refine mv_callSi (pc := 36) (n := 3) B (mK_ok sk sv) hNs (ch_Model_piece l hi _ _ _ _ eg8) rfl (ma_goodc kc_Model_piece) (B.2.2.2.1 _ k_2360) (B.2.2.2.1 _ k_2361) (B.2.2.2.1 _ k_12) ⟨by decide +kernel, by decide +kernel, by decide +kernel⟩ rfl d_Model_store_36 rfl (Nat.le_of_ble_eq_true rfl) ⟨by first | decide | (dsimp only; omega), by first | decide | (dsimp only; omega)⟩ ⟨Nat.le_refl _, Nat.le_refl _⟩ ⟨Nat.le_refl _, Nat.le_refl _⟩ (mv_noH hno _) (fun w36 σ36 h36 => ?_)
  obtain ⟨rfl, rfl, s_g8⟩ := h36
  have r_g8 : mv_r g8 = mv_r h := s_g8.trans r_g6
  obtain ⟨q10, hf⟩ := xvi_e hf
  refine mv_iald (pc := 39) B rfl q10 d_Model_store_39 ?_
  refine mv_istore (pc := 40) B d_Model_store_40 (by decide) rfl ?_
  refine mv_iload (pc := 42) B d_Model_store_42 1 rfl ?_
  refine mv_iload_n (pc := 44) B d_Model_store_44 rfl 2 rfl ?_
  obtain ⟨u12, g11, eg11, hf⟩ := xhb_e hf
  refine mv_callSi (pc := 45) (n := 2) B (mK_ok sk sv) hNs (ch_Model_inMemory l hi _ _ _ eg11) rfl (ma_goodc kc_Model_inMemory) (B.2.2.2.1 _ k_2476) (B.2.2.2.1 _ k_2477) (B.2.2.2.1 _ k_12) ⟨by decide +kernel, by decide +kernel, by decide +kernel⟩ rfl d_Model_store_45 rfl (Nat.le_of_ble_eq_true rfl) ⟨by first | decide | (dsimp only; omega), by first | decide | (dsimp only; omega)⟩ ⟨Nat.le_refl _, Nat.le_refl _⟩ ⟨Nat.le_refl _, Nat.le_refl _⟩ (mv_noH hno _) (fun w45 σ45 h45 => ?_)
  obtain ⟨rfl, rfl, s_g11⟩ := h45
  have r_g11 : mv_r g11 = mv_r h := s_g11.trans r_g8
  refine mv_if_ne (pc := 48) (tgt := 54) B d_Model_store_48 rfl (fun h48 => ?_) (fun h48 => ?_)
  · skip
    have hf := xif_f h48 hf
    refine mv_iconst (pc := 54) (v := 0) B d_Model_store_54 (by decide) ?_
    refine mv_istore (pc := 55) B d_Model_store_55 (by decide) rfl ?_
    refine mv_lpick [4, 3, 2, 1, 0] rfl ?_
    exact lp57 _ _ _ _ _ _ r_g11 hf
  · skip
    have hf := xif_t h48 hf
    refine mv_bipush (pc := 51) (v := -3) B d_Model_store_51 (by decide) ?_
    exact mv_iret (pc := 53) B hr rfl d_Model_store_53 (Nat.le_refl _) (Nat.le_refl _) ⟨_, rfl, xrh_i hf r_g11⟩
set_option maxHeartbeats 4000000 in
set_option maxRecDepth 100000 in
theorem ch_Model_store_y (l : Launch) {dA : FieldType → ClassId} {D : va_G} {al : Nat → Nat} {ext : mv_Sh} {sk sv : Nat → Nat} (hi : mv_inj (mg dA D al ext)) (h : mv_H) (hb : mh (mv_r h) ∧ mv_r h 70 9 = some 108)  (a0 : Int32) (a1 : Int32) {rv : Int32} {rg : mv_H} (hf : f_Model_store 108 h a0 a1 = some (rv, rg)) : mv_C l y_Model_store (Cond.code y_Model_store b_Model_store 7 (Option.some Jvm.ClassFile.FieldType.int) :: ma) ({ frames := 2, cells := 0, slots := 0, locals := 46 }) (mg dA D al ext) (mK sk sv) [.ref (al 70), .int a0, .int a1] h (mv_Ri (fun v σ1 => rv = v ∧ rg = σ1 ∧ mv_r σ1 = mv_r h)) := by
  refine mv_C.ofV (cc := b_Model_store) (nL := 7) (ret := (Option.some Jvm.ClassFile.FieldType.int)) (by decide +kernel) rfl hi (Nat.le_of_ble_eq_true rfl) ?_
  intro p e s m below meth c B hNs hr hnm hno
  have lp57 : ∀ (nn57 : Nat) (x3 : Int32) (x4 : Int32) (x5 : Int32) (x6 : Int32) (hz : mv_H), mv_r hz = mv_r h → f_Model_store_57 108 nn57 x3 x4 x5 x6 hz = some (rv, rg) → mv_V p l e ({ frames := 2, cells := 0, slots := 0, locals := 46 }) s m ([.ref (al 70), .int a0, .int a1] : List Value).toArray below meth c (mg dA D al ext) 7 0 0 (mv_Q (mg dA D al ext) below s 0 0 (mv_Ri (fun v σ1 => rv = v ∧ rg = σ1 ∧ mv_r σ1 = mv_r h))) hz 57 [(0, .ref (al 70)), (3, .int x3), (4, .int x4), (5, .int x5), (6, .int x6)] [] := by
    intro nn57
    induction nn57 with
    | zero => intro x3 x4 x5 x6 hz r_hz hf; cases hf
    | succ nn57 ih57 =>
      intro x3 x4 x5 x6 hz r_hz hf
      have hf : fF_Model_store_57 108 (f_Model_store_57 108 nn57) x3 x4 x5 x6 hz = some (rv, rg) := hf
      unfold fF_Model_store_57 at hf
      refine mv_iload (pc := 57) B d_Model_store_57 4 rfl ?_
      refine mv_iload_n (pc := 59) B d_Model_store_59 rfl 1 rfl ?_
      refine mv_icmp_ge (pc := 60) (tgt := 88) B d_Model_store_60 rfl (fun h60 => ?_) (fun h60 => ?_)
      · skip
        have hf := xif_t h60 hf
        refine mv_iconst (pc := 88) (v := 0) B d_Model_store_88 (by decide) ?_
        exact mv_iret (pc := 89) B hr rfl d_Model_store_89 (Nat.le_refl _) (Nat.le_refl _) ⟨_, rfl, xrh_i hf r_hz⟩
      · skip
        have hf := xif_f h60 hf
        refine mv_aload_n (pc := 63) B d_Model_store_63 rfl 0 rfl ?_
        refine mv_getR (pc := 64) (ci := 11) (C := R_Model) (T := F_Model) (N := 16) B 8 rfl rfl (by decide) i_Model (B.2.2.2.1 _ k_2053) rfl ((congrFun (congrFun r_hz 70) 8).trans (hb.1 70 8 _ rfl)) d_Model_store_64 ?_
        refine mv_iload (pc := 67) B d_Model_store_67 2 rfl ?_
        refine mv_iload (pc := 69) B d_Model_store_69 4 rfl ?_
        refine mv_iadd (pc := 71) B d_Model_store_71 ?_
        refine mv_iload (pc := 72) B d_Model_store_72 3 rfl ?_
        refine mv_bipush (pc := 74) (v := 8) B d_Model_store_74 (by decide) ?_
        refine mv_iload (pc := 76) B d_Model_store_76 4 rfl ?_
        refine mv_imul (pc := 78) B d_Model_store_78 ?_
        refine mv_iushr (pc := 79) B d_Model_store_79 ?_
        refine mv_i2b (pc := 80) B d_Model_store_80 ?_
        obtain ⟨q1, hf⟩ := xvi_e hf
        refine mv_bast (pc := 81) B rfl q1 d_Model_store_81 ?_
        refine mvh_hp (R9 := mv_r h) hf r_hz (fun g2 hf r_g2 => ?_)
        refine mv_iinc (pc := 82) (j := 4) (v := 1) B d_Model_store_82 rfl (by decide) (by decide) rfl ?_
        refine mv_goto (pc := 85) (tgt := 57) B d_Model_store_85 rfl ?_
        refine mv_lpick [1, 2, 3, 4, 0] rfl ?_
        exact ih57 _ _ _ _ _ r_g2 hf
  unfold f_Model_store at hf
  refine mv_iconst (pc := 0) (v := 1) B d_Model_store_0 (by decide) ?_
  refine mv_iload_n (pc := 1) B d_Model_store_1 rfl 1 rfl ?_
  refine mv_bipush (pc := 2) (v := 15) B d_Model_store_2 (by decide) ?_
  refine mv_isub (pc := 4) B d_Model_store_4 ?_
  refine mv_ishl (pc := 5) B d_Model_store_5 ?_
  refine mv_istore_n (pc := 6) B d_Model_store_6 rfl (by decide) rfl ?_
  refine mv_aload_n (pc := 7) B d_Model_store_7 rfl 1 rfl ?_
  refine mv_getR (pc := 8) (ci := 11) (C := R_Model) (T := F_Model) (N := 16) B 7 rfl rfl (by decide) i_Model (B.2.2.2.1 _ k_2052) rfl (hb.1 70 7 _ rfl) d_Model_store_8 ?_
  refine mv_iload_n (pc := 11) B d_Model_store_11 rfl 3 rfl ?_
  refine mv_bipush (pc := 12) (v := 19) B d_Model_store_12 (by decide) ?_
  refine mv_bipush (pc := 14) (v := 15) B d_Model_store_14 (by decide) ?_
  obtain ⟨u4, g3, eg3, hf⟩ := xhb_e hf
  refine mv_callSi (pc := 16) (n := 3) B (mK_ok sk sv) hNs (ch_Model_piece l hi _ _ _ _ eg3) rfl (ma_goodc kc_Model_piece) (B.2.2.2.1 _ k_2360) (B.2.2.2.1 _ k_2361) (B.2.2.2.1 _ k_12) ⟨by decide +kernel, by decide +kernel, by decide +kernel⟩ rfl d_Model_store_16 rfl (Nat.le_of_ble_eq_true rfl) ⟨by first | decide | (dsimp only; omega), by first | decide | (dsimp only; omega)⟩ ⟨Nat.le_refl _, Nat.le_refl _⟩ ⟨Nat.le_refl _, Nat.le_refl _⟩ (mv_noH hno _) (fun w16 σ16 h16 => ?_)
  obtain ⟨rfl, rfl, s_g3⟩ := h16
  have r_g3 : mv_r g3 = mv_r h := s_g3.trans rfl
  obtain ⟨q5, hf⟩ := xvi_e hf
  refine mv_iald (pc := 19) B rfl q5 d_Model_store_19 ?_
  refine mv_iload_n (pc := 20) B d_Model_store_20 rfl 3 rfl ?_
  obtain ⟨u7, g6, eg6, hf⟩ := xhb_e hf
  refine mv_callSi (pc := 21) (n := 1) B (mK_ok sk sv) hNs (ch_Model_immS l hi _ _ eg6) rfl (ma_goodc kc_Model_immS) (B.2.2.2.1 _ k_2483) (B.2.2.2.1 _ k_2484) (B.2.2.2.1 _ k_12) ⟨by decide +kernel, by decide +kernel, by decide +kernel⟩ rfl d_Model_store_21 rfl (Nat.le_of_ble_eq_true rfl) ⟨by first | decide | (dsimp only; omega), by first | decide | (dsimp only; omega)⟩ ⟨Nat.le_refl _, Nat.le_refl _⟩ ⟨Nat.le_refl _, Nat.le_refl _⟩ (mv_noH hno _) (fun w21 σ21 h21 => ?_)
  obtain ⟨rfl, rfl, s_g6⟩ := h21
  have r_g6 : mv_r g6 = mv_r h := s_g6.trans r_g3
  refine mv_iadd (pc := 24) B d_Model_store_24 ?_
  refine mv_istore (pc := 25) B d_Model_store_25 (by decide) rfl ?_
  refine mv_aload_n (pc := 27) B d_Model_store_27 rfl 2 rfl ?_
  refine mv_getR (pc := 28) (ci := 11) (C := R_Model) (T := F_Model) (N := 16) B 7 rfl rfl (by decide) i_Model (B.2.2.2.1 _ k_2052) rfl ((congrFun (congrFun r_g6 70) 7).trans (hb.1 70 7 _ rfl)) d_Model_store_28 ?_
  refine mv_iload_n (pc := 31) B d_Model_store_31 rfl 4 rfl ?_
  refine mv_bipush (pc := 32) (v := 24) B d_Model_store_32 (by decide) ?_
  refine mv_bipush (pc := 34) (v := 20) B d_Model_store_34 (by decide) ?_
  obtain ⟨u9, g8, eg8, hf⟩ := xhb_e hf
  refine mv_callSi (pc := 36) (n := 3) B (mK_ok sk sv) hNs (ch_Model_piece l hi _ _ _ _ eg8) rfl (ma_goodc kc_Model_piece) (B.2.2.2.1 _ k_2360) (B.2.2.2.1 _ k_2361) (B.2.2.2.1 _ k_12) ⟨by decide +kernel, by decide +kernel, by decide +kernel⟩ rfl d_Model_store_36 rfl (Nat.le_of_ble_eq_true rfl) ⟨by first | decide | (dsimp only; omega), by first | decide | (dsimp only; omega)⟩ ⟨Nat.le_refl _, Nat.le_refl _⟩ ⟨Nat.le_refl _, Nat.le_refl _⟩ (mv_noH hno _) (fun w36 σ36 h36 => ?_)
  obtain ⟨rfl, rfl, s_g8⟩ := h36
  have r_g8 : mv_r g8 = mv_r h := s_g8.trans r_g6
  obtain ⟨q10, hf⟩ := xvi_e hf
  refine mv_iald (pc := 39) B rfl q10 d_Model_store_39 ?_
  refine mv_istore (pc := 40) B d_Model_store_40 (by decide) rfl ?_
  refine mv_iload (pc := 42) B d_Model_store_42 1 rfl ?_
  refine mv_iload_n (pc := 44) B d_Model_store_44 rfl 2 rfl ?_
  obtain ⟨u12, g11, eg11, hf⟩ := xhb_e hf
  refine mv_callSi (pc := 45) (n := 2) B (mK_ok sk sv) hNs (ch_Model_inMemory l hi _ _ _ eg11) rfl (ma_goodc kc_Model_inMemory) (B.2.2.2.1 _ k_2476) (B.2.2.2.1 _ k_2477) (B.2.2.2.1 _ k_12) ⟨by decide +kernel, by decide +kernel, by decide +kernel⟩ rfl d_Model_store_45 rfl (Nat.le_of_ble_eq_true rfl) ⟨by first | decide | (dsimp only; omega), by first | decide | (dsimp only; omega)⟩ ⟨Nat.le_refl _, Nat.le_refl _⟩ ⟨Nat.le_refl _, Nat.le_refl _⟩ (mv_noH hno _) (fun w45 σ45 h45 => ?_)
  obtain ⟨rfl, rfl, s_g11⟩ := h45
  have r_g11 : mv_r g11 = mv_r h := s_g11.trans r_g8
  refine mv_if_ne (pc := 48) (tgt := 54) B d_Model_store_48 rfl (fun h48 => ?_) (fun h48 => ?_)
  · skip
    have hf := xif_f h48 hf
    refine mv_iconst (pc := 54) (v := 0) B d_Model_store_54 (by decide) ?_
    refine mv_istore (pc := 55) B d_Model_store_55 (by decide) rfl ?_
    refine mv_lpick [4, 3, 2, 1, 0] rfl ?_
    exact lp57 _ _ _ _ _ _ r_g11 hf
  · skip
    have hf := xif_t h48 hf
    refine mv_bipush (pc := 51) (v := -3) B d_Model_store_51 (by decide) ?_
    exact mv_iret (pc := 53) B hr rfl d_Model_store_53 (Nat.le_refl _) (Nat.le_refl _) ⟨_, rfl, xrh_i hf r_g11⟩
def f_Model_shippedStep_306 (P : Nat) (x7 : Int32) (hz : mv_H) : Option (Int32 × mv_H) := some (x7, hz)
def f_Model_shippedStep_294 (P : Nat) (x3 : Int32) (x7 : Int32) (hz : mv_H) : Option (Int32 × mv_H) := if x7 = (0 : Int32) then (xk (mv_si hz 70 6 (x3 + (4 : Int32))) fun g1 => f_Model_shippedStep_306 P x7 g1) else (f_Model_shippedStep_306 P x7 hz)
def f_Model_shippedStep_288 (P : Nat) (x3 : Int32) (x7 : Int32) (y0 : Int32) (y1 : Int32) (y2 : Int32) (y3 : Int32) (hz : mv_H) : Option (Int32 × mv_H) := xhb (f_Model_reckon hz y2 y1 y0) fun u3 g2 => xhv (f_Model_set P g2 y3 u3) fun g4 => f_Model_shippedStep_294 P x3 x7 g4
def f_Model_shippedStep_203 (P : Nat) (x3 : Int32) (x7 : Int32) (y0 : Int32) (y1 : Int32) (y2 : Int32) (hz : mv_H) : Option (Int32 × mv_H) := xhv (f_Model_set P hz y2 (y1 + y0)) fun g6 => f_Model_shippedStep_294 P x3 x7 g6
def f_Model_shippedStep_182 (P : Nat) (x1 : Int32) (x2 : Int32) (x3 : Int32) (x4 : Int32) (x7 : Int32) (hz : mv_H) : Option (Int32 × mv_H) := if x2 = (1 : Int32) then (f_Model_shippedStep_203 P x3 x7 (mv_i hz 70 6) (x1 &&& (-4096 : Int32)) x4 hz) else (f_Model_shippedStep_203 P x3 x7 (0 : Int32) (x1 &&& (-4096 : Int32)) x4 hz)
def f_Model_shippedStep_173 (P : Nat) (x1 : Int32) (x2 : Int32) (x3 : Int32) (x4 : Int32) (x5 : Int32) (x6 : Int32) (x7 : Int32) (hz : mv_H) : Option (Int32 × mv_H) := if x2 = (0 : Int32) then (f_Model_shippedStep_182 P x1 x2 x3 x4 x7 hz) else (if x2 = (1 : Int32) then (f_Model_shippedStep_182 P x1 x2 x3 x4 x7 hz) else (if (14 : Int32) < x2 then (if (17 : Int32) < x2 then (if x2 = (37 : Int32) then (f_Model_shippedStep_294 P x3 x7 hz) else (if (23 : Int32) < x2 then (if (26 : Int32) < x2 then (f_Model_shippedStep_288 P x3 x7 x6 x5 x2 x4 hz) else (xhb (f_Model_piece hz x1 (24 : Int32) (20 : Int32)) fun u9 g8 => f_Model_shippedStep_288 P x3 x7 u9 x5 x2 x4 g8)) else (xhb (f_Model_immI hz x1) fun u11 g10 => f_Model_shippedStep_288 P x3 x7 u11 x5 x2 x4 g10))) else (xhb (f_Model_store P hz x2 x1) fun u13 g12 => f_Model_shippedStep_294 P x3 u13 g12)) else (xhb (f_Model_load P hz x2 x1) fun u15 g14 => f_Model_shippedStep_294 P x3 u15 g14)))
def f_Model_shippedStep_134 (P : Nat) (x7 : Int32) (hz : mv_H) : Option (Int32 × mv_H) := some (x7, hz)
def f_Model_shippedStep_115 (P : Nat) (x3 : Int32) (x4 : Int32) (y0 : Int32) (hz : mv_H) : Option (Int32 × mv_H) := xhb (f_Model_jump P hz y0) fun u17 g16 => if u17 = (0 : Int32) then (xhv (f_Model_set P g16 x4 (x3 + (4 : Int32))) fun g18 => f_Model_shippedStep_134 P u17 g18) else (f_Model_shippedStep_134 P u17 g16)
def f_Model_shippedStep_87 (P : Nat) (x1 : Int32) (x2 : Int32) (x3 : Int32) (x4 : Int32) (x5 : Int32) (hz : mv_H) : Option (Int32 × mv_H) := if x2 = (2 : Int32) then (xhb (f_Model_immJ hz x1) fun u23 g22 => f_Model_shippedStep_115 P x3 x4 ((mv_i hz 70 6) + u23) g22) else (xhb (f_Model_immI hz x1) fun u21 g20 => f_Model_shippedStep_115 P x3 x4 ((x5 + u21) &&& (-2 : Int32)) g20)
def f_Model_shippedStep (P : Nat) (h : mv_H) (a0 : Int32) : Option (Int32 × mv_H) := xhb (f_Model_shippedOp h a0) fun u25 g24 => xhb (f_Model_piece g24 a0 (11 : Int32) (7 : Int32)) fun u27 g26 => xhb (f_Model_piece g26 a0 (19 : Int32) (15 : Int32)) fun u29 g28 => bif xvi u29 32 then xhb (f_Model_piece g28 a0 (24 : Int32) (20 : Int32)) fun u32 g31 => bif xvi u32 32 then if (0 : Int32) ≤ u25 then (if u25 = (38 : Int32) then (some ((8 : Int32), g31)) else (if u25 = (39 : Int32) then (some ((3 : Int32), g31)) else (if u25 = (2 : Int32) then (f_Model_shippedStep_87 P a0 u25 (mv_i g24 70 6) u27 (mv_a g28 72 (u29).toNatClampNeg) g31) else (if u25 = (3 : Int32) then (f_Model_shippedStep_87 P a0 u25 (mv_i g24 70 6) u27 (mv_a g28 72 (u29).toNatClampNeg) g31) else (if u25 < (4 : Int32) then (f_Model_shippedStep_173 P a0 u25 (mv_i g24 70 6) u27 (mv_a g28 72 (u29).toNatClampNeg) (mv_a g31 72 (u32).toNatClampNeg) (0 : Int32) g31) else (if (9 : Int32) < u25 then (f_Model_shippedStep_173 P a0 u25 (mv_i g24 70 6) u27 (mv_a g28 72 (u29).toNatClampNeg) (mv_a g31 72 (u32).toNatClampNeg) (0 : Int32) g31) else (xhb (f_Model_taken g31 u25 (mv_a g28 72 (u29).toNatClampNeg) (mv_a g31 72 (u32).toNatClampNeg)) fun u35 g34 => if u35 = (0 : Int32) then (f_Model_shippedStep_294 P (mv_i g24 70 6) (0 : Int32) g34) else (xhb (f_Model_immB g34 a0) fun u37 g36 => xhb (f_Model_jump P g36 ((mv_i g34 70 6) + u37)) fun u39 g38 => some (u39, g38))))))))) else (some ((-2 : Int32), g31)) else none else none
set_option maxHeartbeats 4000000 in
set_option maxRecDepth 100000 in
theorem ch_Model_shippedStep_x (l : Launch) {dA : FieldType → ClassId} {D : va_G} {al : Nat → Nat} {ext : mv_Sh} {sk sv : Nat → Nat} (hi : mv_inj (mg dA D al ext)) (h : mv_H) (hb : mh (mv_r h) ∧ mv_r h 70 9 = some 74)  (a0 : Int32) {rv : Int32} {rg : mv_H} (hf : f_Model_shippedStep 74 h a0 = some (rv, rg)) : mv_C l y_Model_shippedStep (Cond.code y_Model_shippedStep b_Model_shippedStep 8 (Option.some Jvm.ClassFile.FieldType.int) :: ma) ({ frames := 3, cells := 0, slots := 0, locals := 72 }) (mg dA D al ext) (mK sk sv) [.ref (al 70), .int a0] h (mv_Ri (fun v σ1 => rv = v ∧ rg = σ1 ∧ mv_r σ1 = mv_r h)) := by
  refine mv_C.ofV (cc := b_Model_shippedStep) (nL := 8) (ret := (Option.some Jvm.ClassFile.FieldType.int)) (by decide +kernel) rfl hi (Nat.le_of_ble_eq_true rfl) ?_
  intro p e s m below meth c B hNs hr hnm hno
  have jn306 : ∀ (x7 : Int32) (hz : mv_H), mv_r hz = mv_r h → f_Model_shippedStep_306 74 x7 hz = some (rv, rg) → mv_V p l e ({ frames := 3, cells := 0, slots := 0, locals := 72 }) s m ([.ref (al 70), .int a0] : List Value).toArray below meth c (mg dA D al ext) 8 0 0 (mv_Q (mg dA D al ext) below s 0 0 (mv_Ri (fun v σ1 => rv = v ∧ rg = σ1 ∧ mv_r σ1 = mv_r h))) hz 306 [(7, .int x7)] [] := by
    intro x7 hz r_hz hf
    unfold f_Model_shippedStep_306 at hf
    refine mv_iload (pc := 306) B d_Model_shippedStep_306 0 rfl ?_
    exact mv_iret (pc := 308) B hr rfl d_Model_shippedStep_308 (Nat.le_refl _) (Nat.le_refl _) ⟨_, rfl, xrh_i hf r_hz⟩
  have jn294 : ∀ (x3 : Int32) (x7 : Int32) (hz : mv_H), mv_r hz = mv_r h → f_Model_shippedStep_294 74 x3 x7 hz = some (rv, rg) → mv_V p l e ({ frames := 3, cells := 0, slots := 0, locals := 72 }) s m ([.ref (al 70), .int a0] : List Value).toArray below meth c (mg dA D al ext) 8 0 0 (mv_Q (mg dA D al ext) below s 0 0 (mv_Ri (fun v σ1 => rv = v ∧ rg = σ1 ∧ mv_r σ1 = mv_r h))) hz 294 [(0, .ref (al 70)), (3, .int x3), (7, .int x7)] [] := by
    intro x3 x7 hz r_hz hf
    unfold f_Model_shippedStep_294 at hf
    refine mv_iload (pc := 294) B d_Model_shippedStep_294 2 rfl ?_
    refine mv_if_ne (pc := 296) (tgt := 306) B d_Model_shippedStep_296 rfl (fun h296 => ?_) (fun h296 => ?_)
    · skip
      have hf := xif_f h296 hf
      refine mv_lpick [2] rfl ?_
      exact jn306 _ _ r_hz hf
    · skip
      have hf := xif_t h296 hf
      refine mv_aload_n (pc := 299) B d_Model_shippedStep_299 rfl 0 rfl ?_
      refine mv_iload_n (pc := 300) B d_Model_shippedStep_300 rfl 1 rfl ?_
      refine mv_iconst (pc := 301) (v := 4) B d_Model_shippedStep_301 (by decide) ?_
      refine mv_iadd (pc := 302) B d_Model_shippedStep_302 ?_
      refine mv_putI (pc := 303) (ci := 11) (C := R_Model) (T := F_Model) (N := 16) B 6 rfl rfl (by decide) i_Model t_Model_ok n_Model (B.2.2.2.1 _ k_2051) rfl rfl rfl rfl d_Model_shippedStep_303 ?_
      refine mvh_hp (R9 := mv_r h) hf r_hz (fun g1 hf r_g1 => ?_)
      refine mv_lpick [2] rfl ?_
      exact jn306 _ _ r_g1 hf
  have jn288 : ∀ (x3 : Int32) (x7 : Int32) (y0 : Int32) (y1 : Int32) (y2 : Int32) (y3 : Int32) (hz : mv_H), mv_r hz = mv_r h → f_Model_shippedStep_288 74 x3 x7 y0 y1 y2 y3 hz = some (rv, rg) → mv_V p l e ({ frames := 3, cells := 0, slots := 0, locals := 72 }) s m ([.ref (al 70), .int a0] : List Value).toArray below meth c (mg dA D al ext) 8 0 0 (mv_Q (mg dA D al ext) below s 0 0 (mv_Ri (fun v σ1 => rv = v ∧ rg = σ1 ∧ mv_r σ1 = mv_r h))) hz 288 [(0, .ref (al 70)), (3, .int x3), (7, .int x7)] [.int y0, .int y1, .int y2, .int y3, .ref (al 70)] := by
    intro x3 x7 y0 y1 y2 y3 hz r_hz hf
    unfold f_Model_shippedStep_288 at hf
    obtain ⟨u3, g2, eg2, hf⟩ := xhb_e hf
    refine mv_callSi (pc := 288) (n := 3) B (mK_ok sk sv) hNs (ch_Model_reckon l hi _ _ _ _ eg2) rfl (ma_goodc kc_Model_reckon) (B.2.2.2.1 _ k_2486) (B.2.2.2.1 _ k_2487) (B.2.2.2.1 _ k_12) ⟨by decide +kernel, by decide +kernel, by decide +kernel⟩ rfl d_Model_shippedStep_288 rfl (Nat.le_of_ble_eq_true rfl) ⟨by first | decide | (dsimp only; omega), by first | decide | (dsimp only; omega)⟩ ⟨Nat.le_refl _, Nat.le_refl _⟩ ⟨Nat.le_refl _, Nat.le_refl _⟩ (mv_noH hno _) (fun w288 σ288 h288 => ?_)
    obtain ⟨rfl, rfl, s_g2⟩ := h288
    have r_g2 : mv_r g2 = mv_r h := s_g2.trans r_hz
    obtain ⟨g4, eg4, hf⟩ := xhv_e hf
    refine mv_callVv (pc := 291) (n := 2) (ci := 11) (C := R_Model) B (mK_ok sk sv) hNs rfl rfl (ch_Model_set_x l hi _ (⟨xrw r_g2 hb.1, (congrFun (congrFun r_g2 70) 9).trans hb.2⟩) _ _ eg4) rfl (ma_goodc kc_Model_set) (B.2.2.2.1 _ k_2430) (B.2.2.2.1 _ k_2432) (B.2.2.2.1 _ ks_125) (B.2.2.2.1 _ k_12) ⟨by decide +kernel, by decide +kernel, by decide +kernel⟩ rfl d_Model_shippedStep_291 rfl (Nat.le_of_ble_eq_true rfl) ⟨by first | decide | (dsimp only; omega), by first | decide | (dsimp only; omega)⟩ ⟨Nat.le_refl _, Nat.le_refl _⟩ ⟨Nat.le_refl _, Nat.le_refl _⟩ (mv_noH hno _) (fun σ291 h291 => ?_)
    obtain ⟨rfl, s_g4⟩ := h291
    have r_g4 : mv_r g4 = mv_r h := s_g4.trans r_g2
    refine mv_lpick [0, 1, 2] rfl ?_
    exact jn294 _ _ _ r_g4 hf
  have jn203 : ∀ (x3 : Int32) (x7 : Int32) (y0 : Int32) (y1 : Int32) (y2 : Int32) (hz : mv_H), mv_r hz = mv_r h → f_Model_shippedStep_203 74 x3 x7 y0 y1 y2 hz = some (rv, rg) → mv_V p l e ({ frames := 3, cells := 0, slots := 0, locals := 72 }) s m ([.ref (al 70), .int a0] : List Value).toArray below meth c (mg dA D al ext) 8 0 0 (mv_Q (mg dA D al ext) below s 0 0 (mv_Ri (fun v σ1 => rv = v ∧ rg = σ1 ∧ mv_r σ1 = mv_r h))) hz 203 [(0, .ref (al 70)), (3, .int x3), (7, .int x7)] [.int y0, .int y1, .int y2, .ref (al 70)] := by
    intro x3 x7 y0 y1 y2 hz r_hz hf
    unfold f_Model_shippedStep_203 at hf
    refine mv_iadd (pc := 203) B d_Model_shippedStep_203 ?_
    obtain ⟨g6, eg6, hf⟩ := xhv_e hf
    refine mv_callVv (pc := 204) (n := 2) (ci := 11) (C := R_Model) B (mK_ok sk sv) hNs rfl rfl (ch_Model_set_x l hi _ (⟨xrw r_hz hb.1, (congrFun (congrFun r_hz 70) 9).trans hb.2⟩) _ _ eg6) rfl (ma_goodc kc_Model_set) (B.2.2.2.1 _ k_2430) (B.2.2.2.1 _ k_2432) (B.2.2.2.1 _ ks_125) (B.2.2.2.1 _ k_12) ⟨by decide +kernel, by decide +kernel, by decide +kernel⟩ rfl d_Model_shippedStep_204 rfl (Nat.le_of_ble_eq_true rfl) ⟨by first | decide | (dsimp only; omega), by first | decide | (dsimp only; omega)⟩ ⟨Nat.le_refl _, Nat.le_refl _⟩ ⟨Nat.le_refl _, Nat.le_refl _⟩ (mv_noH hno _) (fun σ204 h204 => ?_)
    obtain ⟨rfl, s_g6⟩ := h204
    have r_g6 : mv_r g6 = mv_r h := s_g6.trans r_hz
    refine mv_goto (pc := 207) (tgt := 294) B d_Model_shippedStep_207 rfl ?_
    refine mv_lpick [0, 1, 2] rfl ?_
    exact jn294 _ _ _ r_g6 hf
  have jn182 : ∀ (x1 : Int32) (x2 : Int32) (x3 : Int32) (x4 : Int32) (x7 : Int32) (hz : mv_H), mv_r hz = mv_r h → f_Model_shippedStep_182 74 x1 x2 x3 x4 x7 hz = some (rv, rg) → mv_V p l e ({ frames := 3, cells := 0, slots := 0, locals := 72 }) s m ([.ref (al 70), .int a0] : List Value).toArray below meth c (mg dA D al ext) 8 0 0 (mv_Q (mg dA D al ext) below s 0 0 (mv_Ri (fun v σ1 => rv = v ∧ rg = σ1 ∧ mv_r σ1 = mv_r h))) hz 182 [(0, .ref (al 70)), (1, .int x1), (2, .int x2), (3, .int x3), (4, .int x4), (7, .int x7)] [] := by
    intro x1 x2 x3 x4 x7 hz r_hz hf
    unfold f_Model_shippedStep_182 at hf
    refine mv_aload_n (pc := 182) B d_Model_shippedStep_182 rfl 0 rfl ?_
    refine mv_iload (pc := 183) B d_Model_shippedStep_183 4 rfl ?_
    refine mv_iload_n (pc := 185) B d_Model_shippedStep_185 rfl 1 rfl ?_
    refine mv_sipush (pc := 186) (v := -4096) B d_Model_shippedStep_186 (by decide) ?_
    refine mv_iand (pc := 189) B d_Model_shippedStep_189 ?_
    refine mv_iload_n (pc := 190) B d_Model_shippedStep_190 rfl 2 rfl ?_
    refine mv_iconst (pc := 191) (v := 1) B d_Model_shippedStep_191 (by decide) ?_
    refine mv_icmp_ne (pc := 192) (tgt := 202) B d_Model_shippedStep_192 rfl (fun h192 => ?_) (fun h192 => ?_)
    · skip
      have hf := xif_f h192 hf
      refine mv_iconst (pc := 202) (v := 0) B d_Model_shippedStep_202 (by decide) ?_
      refine mv_lpick [0, 3, 5] rfl ?_
      exact jn203 _ _ _ _ _ _ r_hz hf
    · skip
      have hf := xif_t h192 hf
      refine mv_aload_n (pc := 195) B d_Model_shippedStep_195 rfl 0 rfl ?_
      refine mv_getI (pc := 196) (ci := 11) (C := R_Model) (T := F_Model) (N := 16) B 6 rfl rfl (by decide) i_Model (B.2.2.2.1 _ k_2051) rfl d_Model_shippedStep_196 ?_
      refine mv_goto (pc := 199) (tgt := 203) B d_Model_shippedStep_199 rfl ?_
      refine mv_lpick [0, 3, 5] rfl ?_
      exact jn203 _ _ _ _ _ _ r_hz hf
  have jn173 : ∀ (x1 : Int32) (x2 : Int32) (x3 : Int32) (x4 : Int32) (x5 : Int32) (x6 : Int32) (x7 : Int32) (hz : mv_H), mv_r hz = mv_r h → f_Model_shippedStep_173 74 x1 x2 x3 x4 x5 x6 x7 hz = some (rv, rg) → mv_V p l e ({ frames := 3, cells := 0, slots := 0, locals := 72 }) s m ([.ref (al 70), .int a0] : List Value).toArray below meth c (mg dA D al ext) 8 0 0 (mv_Q (mg dA D al ext) below s 0 0 (mv_Ri (fun v σ1 => rv = v ∧ rg = σ1 ∧ mv_r σ1 = mv_r h))) hz 173 [(0, .ref (al 70)), (1, .int x1), (2, .int x2), (3, .int x3), (4, .int x4), (5, .int x5), (6, .int x6), (7, .int x7)] [] := by
    intro x1 x2 x3 x4 x5 x6 x7 hz r_hz hf
    unfold f_Model_shippedStep_173 at hf
    refine mv_iload_n (pc := 173) B d_Model_shippedStep_173 rfl 2 rfl ?_
    refine mv_if_eq (pc := 174) (tgt := 182) B d_Model_shippedStep_174 rfl (fun h174 => ?_) (fun h174 => ?_)
    · skip
      have hf := xif_t h174 hf
      refine mv_lpick [0, 1, 2, 3, 4, 7] rfl ?_
      exact jn182 _ _ _ _ _ _ r_hz hf
    · skip
      have hf := xif_f h174 hf
      refine mv_iload_n (pc := 177) B d_Model_shippedStep_177 rfl 2 rfl ?_
      refine mv_iconst (pc := 178) (v := 1) B d_Model_shippedStep_178 (by decide) ?_
      refine mv_icmp_ne (pc := 179) (tgt := 210) B d_Model_shippedStep_179 rfl (fun h179 => ?_) (fun h179 => ?_)
      · skip
        have hf := xif_f h179 hf
        refine mv_iload_n (pc := 210) B d_Model_shippedStep_210 rfl 2 rfl ?_
        refine mv_bipush (pc := 211) (v := 14) B d_Model_shippedStep_211 (by decide) ?_
        refine mv_icmp_gt (pc := 213) (tgt := 227) B d_Model_shippedStep_213 rfl (fun h213 => ?_) (fun h213 => ?_)
        · skip
          have hf := xif_t h213 hf
          refine mv_iload_n (pc := 227) B d_Model_shippedStep_227 rfl 2 rfl ?_
          refine mv_bipush (pc := 228) (v := 17) B d_Model_shippedStep_228 (by decide) ?_
          refine mv_icmp_gt (pc := 230) (tgt := 244) B d_Model_shippedStep_230 rfl (fun h230 => ?_) (fun h230 => ?_)
          · skip
            have hf := xif_t h230 hf
            refine mv_iload_n (pc := 244) B d_Model_shippedStep_244 rfl 2 rfl ?_
            refine mv_bipush (pc := 245) (v := 37) B d_Model_shippedStep_245 (by decide) ?_
            refine mv_icmp_eq (pc := 247) (tgt := 294) B d_Model_shippedStep_247 rfl (fun h247 => ?_) (fun h247 => ?_)
            · skip
              have hf := xif_t h247 hf
              refine mv_lpick [0, 3, 7] rfl ?_
              exact jn294 _ _ _ r_hz hf
            · skip
              have hf := xif_f h247 hf
              refine mv_aload_n (pc := 250) B d_Model_shippedStep_250 rfl 0 rfl ?_
              refine mv_iload (pc := 251) B d_Model_shippedStep_251 4 rfl ?_
              refine mv_iload_n (pc := 253) B d_Model_shippedStep_253 rfl 2 rfl ?_
              refine mv_iload (pc := 254) B d_Model_shippedStep_254 5 rfl ?_
              refine mv_iload_n (pc := 256) B d_Model_shippedStep_256 rfl 2 rfl ?_
              refine mv_bipush (pc := 257) (v := 23) B d_Model_shippedStep_257 (by decide) ?_
              refine mv_icmp_gt (pc := 259) (tgt := 269) B d_Model_shippedStep_259 rfl (fun h259 => ?_) (fun h259 => ?_)
              · skip
                have hf := xif_t h259 hf
                refine mv_iload_n (pc := 269) B d_Model_shippedStep_269 rfl 2 rfl ?_
                refine mv_bipush (pc := 270) (v := 26) B d_Model_shippedStep_270 (by decide) ?_
                refine mv_icmp_gt (pc := 272) (tgt := 286) B d_Model_shippedStep_272 rfl (fun h272 => ?_) (fun h272 => ?_)
                · skip
                  have hf := xif_t h272 hf
                  refine mv_iload (pc := 286) B d_Model_shippedStep_286 6 rfl ?_
                  refine mv_lpick [0, 3, 7] rfl ?_
                  exact jn288 _ _ _ _ _ _ _ r_hz hf
                · skip
                  have hf := xif_f h272 hf
                  refine mv_iload_n (pc := 275) B d_Model_shippedStep_275 rfl 1 rfl ?_
                  refine mv_bipush (pc := 276) (v := 24) B d_Model_shippedStep_276 (by decide) ?_
                  refine mv_bipush (pc := 278) (v := 20) B d_Model_shippedStep_278 (by decide) ?_
                  obtain ⟨u9, g8, eg8, hf⟩ := xhb_e hf
                  refine mv_callSi (pc := 280) (n := 3) B (mK_ok sk sv) hNs (ch_Model_piece l hi _ _ _ _ eg8) rfl (ma_goodc kc_Model_piece) (B.2.2.2.1 _ k_2360) (B.2.2.2.1 _ k_2361) (B.2.2.2.1 _ k_12) ⟨by decide +kernel, by decide +kernel, by decide +kernel⟩ rfl d_Model_shippedStep_280 rfl (Nat.le_of_ble_eq_true rfl) ⟨by first | decide | (dsimp only; omega), by first | decide | (dsimp only; omega)⟩ ⟨Nat.le_refl _, Nat.le_refl _⟩ ⟨Nat.le_refl _, Nat.le_refl _⟩ (mv_noH hno _) (fun w280 σ280 h280 => ?_)
                  obtain ⟨rfl, rfl, s_g8⟩ := h280
                  have r_g8 : mv_r g8 = mv_r h := s_g8.trans r_hz
                  refine mv_goto (pc := 283) (tgt := 288) B d_Model_shippedStep_283 rfl ?_
                  refine mv_lpick [0, 3, 7] rfl ?_
                  exact jn288 _ _ _ _ _ _ _ r_g8 hf
              · skip
                have hf := xif_f h259 hf
                refine mv_iload_n (pc := 262) B d_Model_shippedStep_262 rfl 1 rfl ?_
                obtain ⟨u11, g10, eg10, hf⟩ := xhb_e hf
                refine mv_callSi (pc := 263) (n := 1) B (mK_ok sk sv) hNs (ch_Model_immI l hi _ _ eg10) rfl (ma_goodc kc_Model_immI) (B.2.2.2.1 _ k_2455) (B.2.2.2.1 _ k_2456) (B.2.2.2.1 _ k_12) ⟨by decide +kernel, by decide +kernel, by decide +kernel⟩ rfl d_Model_shippedStep_263 rfl (Nat.le_of_ble_eq_true rfl) ⟨by first | decide | (dsimp only; omega), by first | decide | (dsimp only; omega)⟩ ⟨Nat.le_refl _, Nat.le_refl _⟩ ⟨Nat.le_refl _, Nat.le_refl _⟩ (mv_noH hno _) (fun w263 σ263 h263 => ?_)
                obtain ⟨rfl, rfl, s_g10⟩ := h263
                have r_g10 : mv_r g10 = mv_r h := s_g10.trans r_hz
                refine mv_goto (pc := 266) (tgt := 288) B d_Model_shippedStep_266 rfl ?_
                refine mv_lpick [0, 3, 7] rfl ?_
                exact jn288 _ _ _ _ _ _ _ r_g10 hf
          · skip
            have hf := xif_f h230 hf
            refine mv_aload_n (pc := 233) B d_Model_shippedStep_233 rfl 0 rfl ?_
            refine mv_iload_n (pc := 234) B d_Model_shippedStep_234 rfl 2 rfl ?_
            refine mv_iload_n (pc := 235) B d_Model_shippedStep_235 rfl 1 rfl ?_
            obtain ⟨u13, g12, eg12, hf⟩ := xhb_e hf
            refine mv_callVi (pc := 236) (n := 2) (ci := 11) (C := R_Model) B (mK_ok sk sv) hNs rfl rfl (ch_Model_store_x l hi _ (⟨xrw r_hz hb.1, (congrFun (congrFun r_hz 70) 9).trans hb.2⟩) _ _ eg12) rfl (ma_goodc kc_Model_store) (B.2.2.2.1 _ k_2479) (B.2.2.2.1 _ k_2481) (B.2.2.2.1 _ ks_129) (B.2.2.2.1 _ k_12) ⟨by decide +kernel, by decide +kernel, by decide +kernel⟩ rfl d_Model_shippedStep_236 rfl (Nat.le_of_ble_eq_true rfl) ⟨by first | decide | (dsimp only; omega), by first | decide | (dsimp only; omega)⟩ ⟨Nat.le_refl _, Nat.le_refl _⟩ ⟨Nat.le_refl _, Nat.le_refl _⟩ (mv_noH hno _) (fun w236 σ236 h236 => ?_)
            obtain ⟨rfl, rfl, s_g12⟩ := h236
            have r_g12 : mv_r g12 = mv_r h := s_g12.trans r_hz
            refine mv_istore (pc := 239) B d_Model_shippedStep_239 (by decide) rfl ?_
            refine mv_goto (pc := 241) (tgt := 294) B d_Model_shippedStep_241 rfl ?_
            refine mv_lpick [1, 4, 0] rfl ?_
            exact jn294 _ _ _ r_g12 hf
        · skip
          have hf := xif_f h213 hf
          refine mv_aload_n (pc := 216) B d_Model_shippedStep_216 rfl 0 rfl ?_
          refine mv_iload_n (pc := 217) B d_Model_shippedStep_217 rfl 2 rfl ?_
          refine mv_iload_n (pc := 218) B d_Model_shippedStep_218 rfl 1 rfl ?_
          obtain ⟨u15, g14, eg14, hf⟩ := xhb_e hf
          refine mv_callVi (pc := 219) (n := 2) (ci := 11) (C := R_Model) B (mK_ok sk sv) hNs rfl rfl (ch_Model_load_x l hi _ (⟨xrw r_hz hb.1, (congrFun (congrFun r_hz 70) 9).trans hb.2⟩) _ _ eg14) rfl (ma_goodc kc_Model_load) (B.2.2.2.1 _ k_2472) (B.2.2.2.1 _ k_2474) (B.2.2.2.1 _ ks_128) (B.2.2.2.1 _ k_12) ⟨by decide +kernel, by decide +kernel, by decide +kernel⟩ rfl d_Model_shippedStep_219 rfl (Nat.le_of_ble_eq_true rfl) ⟨by first | decide | (dsimp only; omega), by first | decide | (dsimp only; omega)⟩ ⟨Nat.le_refl _, Nat.le_refl _⟩ ⟨Nat.le_refl _, Nat.le_refl _⟩ (mv_noH hno _) (fun w219 σ219 h219 => ?_)
          obtain ⟨rfl, rfl, s_g14⟩ := h219
          have r_g14 : mv_r g14 = mv_r h := s_g14.trans r_hz
          refine mv_istore (pc := 222) B d_Model_shippedStep_222 (by decide) rfl ?_
          refine mv_goto (pc := 224) (tgt := 294) B d_Model_shippedStep_224 rfl ?_
          refine mv_lpick [1, 4, 0] rfl ?_
          exact jn294 _ _ _ r_g14 hf
      · skip
        have hf := xif_t h179 hf
        refine mv_lpick [0, 1, 2, 3, 4, 7] rfl ?_
        exact jn182 _ _ _ _ _ _ r_hz hf
  have jn134 : ∀ (x7 : Int32) (hz : mv_H), mv_r hz = mv_r h → f_Model_shippedStep_134 74 x7 hz = some (rv, rg) → mv_V p l e ({ frames := 3, cells := 0, slots := 0, locals := 72 }) s m ([.ref (al 70), .int a0] : List Value).toArray below meth c (mg dA D al ext) 8 0 0 (mv_Q (mg dA D al ext) below s 0 0 (mv_Ri (fun v σ1 => rv = v ∧ rg = σ1 ∧ mv_r σ1 = mv_r h))) hz 134 [(7, .int x7)] [] := by
    intro x7 hz r_hz hf
    unfold f_Model_shippedStep_134 at hf
    refine mv_iload (pc := 134) B d_Model_shippedStep_134 0 rfl ?_
    exact mv_iret (pc := 136) B hr rfl d_Model_shippedStep_136 (Nat.le_refl _) (Nat.le_refl _) ⟨_, rfl, xrh_i hf r_hz⟩
  have jn115 : ∀ (x3 : Int32) (x4 : Int32) (y0 : Int32) (hz : mv_H), mv_r hz = mv_r h → f_Model_shippedStep_115 74 x3 x4 y0 hz = some (rv, rg) → mv_V p l e ({ frames := 3, cells := 0, slots := 0, locals := 72 }) s m ([.ref (al 70), .int a0] : List Value).toArray below meth c (mg dA D al ext) 8 0 0 (mv_Q (mg dA D al ext) below s 0 0 (mv_Ri (fun v σ1 => rv = v ∧ rg = σ1 ∧ mv_r σ1 = mv_r h))) hz 115 [(0, .ref (al 70)), (3, .int x3), (4, .int x4)] [.int y0, .ref (al 70)] := by
    intro x3 x4 y0 hz r_hz hf
    unfold f_Model_shippedStep_115 at hf
    obtain ⟨u17, g16, eg16, hf⟩ := xhb_e hf
    refine mv_callVi (pc := 115) (n := 1) (ci := 11) (C := R_Model) B (mK_ok sk sv) hNs rfl rfl (ch_Model_jump_x l hi _ (⟨xrw r_hz hb.1, (congrFun (congrFun r_hz 70) 9).trans hb.2⟩) _ eg16) rfl (ma_goodc kc_Model_jump) (B.2.2.2.1 _ k_2458) (B.2.2.2.1 _ k_2460) (B.2.2.2.1 _ ks_127) (B.2.2.2.1 _ k_12) ⟨by decide +kernel, by decide +kernel, by decide +kernel⟩ rfl d_Model_shippedStep_115 rfl (Nat.le_of_ble_eq_true rfl) ⟨by first | decide | (dsimp only; omega), by first | decide | (dsimp only; omega)⟩ ⟨Nat.le_refl _, Nat.le_refl _⟩ ⟨Nat.le_refl _, Nat.le_refl _⟩ (mv_noH hno _) (fun w115 σ115 h115 => ?_)
    obtain ⟨rfl, rfl, s_g16⟩ := h115
    have r_g16 : mv_r g16 = mv_r h := s_g16.trans r_hz
    refine mv_istore (pc := 118) B d_Model_shippedStep_118 (by decide) rfl ?_
    refine mv_iload (pc := 120) B d_Model_shippedStep_120 0 rfl ?_
    refine mv_if_ne (pc := 122) (tgt := 134) B d_Model_shippedStep_122 rfl (fun h122 => ?_) (fun h122 => ?_)
    · skip
      have hf := xif_f h122 hf
      refine mv_lpick [0] rfl ?_
      exact jn134 _ _ r_g16 hf
    · skip
      have hf := xif_t h122 hf
      refine mv_aload_n (pc := 125) B d_Model_shippedStep_125 rfl 1 rfl ?_
      refine mv_iload (pc := 126) B d_Model_shippedStep_126 3 rfl ?_
      refine mv_iload_n (pc := 128) B d_Model_shippedStep_128 rfl 2 rfl ?_
      refine mv_iconst (pc := 129) (v := 4) B d_Model_shippedStep_129 (by decide) ?_
      refine mv_iadd (pc := 130) B d_Model_shippedStep_130 ?_
      obtain ⟨g18, eg18, hf⟩ := xhv_e hf
      refine mv_callVv (pc := 131) (n := 2) (ci := 11) (C := R_Model) B (mK_ok sk sv) hNs rfl rfl (ch_Model_set_x l hi _ (⟨xrw r_g16 hb.1, (congrFun (congrFun r_g16 70) 9).trans hb.2⟩) _ _ eg18) rfl (ma_goodc kc_Model_set) (B.2.2.2.1 _ k_2430) (B.2.2.2.1 _ k_2432) (B.2.2.2.1 _ ks_125) (B.2.2.2.1 _ k_12) ⟨by decide +kernel, by decide +kernel, by decide +kernel⟩ rfl d_Model_shippedStep_131 rfl (Nat.le_of_ble_eq_true rfl) ⟨by first | decide | (dsimp only; omega), by first | decide | (dsimp only; omega)⟩ ⟨Nat.le_refl _, Nat.le_refl _⟩ ⟨Nat.le_refl _, Nat.le_refl _⟩ (mv_noH hno _) (fun σ131 h131 => ?_)
      obtain ⟨rfl, s_g18⟩ := h131
      have r_g18 : mv_r g18 = mv_r h := s_g18.trans r_g16
      refine mv_lpick [0] rfl ?_
      exact jn134 _ _ r_g18 hf
  have jn87 : ∀ (x1 : Int32) (x2 : Int32) (x3 : Int32) (x4 : Int32) (x5 : Int32) (hz : mv_H), mv_r hz = mv_r h → f_Model_shippedStep_87 74 x1 x2 x3 x4 x5 hz = some (rv, rg) → mv_V p l e ({ frames := 3, cells := 0, slots := 0, locals := 72 }) s m ([.ref (al 70), .int a0] : List Value).toArray below meth c (mg dA D al ext) 8 0 0 (mv_Q (mg dA D al ext) below s 0 0 (mv_Ri (fun v σ1 => rv = v ∧ rg = σ1 ∧ mv_r σ1 = mv_r h))) hz 87 [(0, .ref (al 70)), (1, .int x1), (2, .int x2), (3, .int x3), (4, .int x4), (5, .int x5)] [] := by
    intro x1 x2 x3 x4 x5 hz r_hz hf
    unfold f_Model_shippedStep_87 at hf
    refine mv_aload_n (pc := 87) B d_Model_shippedStep_87 rfl 0 rfl ?_
    refine mv_iload_n (pc := 88) B d_Model_shippedStep_88 rfl 2 rfl ?_
    refine mv_iconst (pc := 89) (v := 2) B d_Model_shippedStep_89 (by decide) ?_
    refine mv_icmp_ne (pc := 90) (tgt := 105) B d_Model_shippedStep_90 rfl (fun h90 => ?_) (fun h90 => ?_)
    · skip
      have hf := xif_f h90 hf
      refine mv_iload (pc := 105) B d_Model_shippedStep_105 5 rfl ?_
      refine mv_iload_n (pc := 107) B d_Model_shippedStep_107 rfl 1 rfl ?_
      obtain ⟨u21, g20, eg20, hf⟩ := xhb_e hf
      refine mv_callSi (pc := 108) (n := 1) B (mK_ok sk sv) hNs (ch_Model_immI l hi _ _ eg20) rfl (ma_goodc kc_Model_immI) (B.2.2.2.1 _ k_2455) (B.2.2.2.1 _ k_2456) (B.2.2.2.1 _ k_12) ⟨by decide +kernel, by decide +kernel, by decide +kernel⟩ rfl d_Model_shippedStep_108 rfl (Nat.le_of_ble_eq_true rfl) ⟨by first | decide | (dsimp only; omega), by first | decide | (dsimp only; omega)⟩ ⟨Nat.le_refl _, Nat.le_refl _⟩ ⟨Nat.le_refl _, Nat.le_refl _⟩ (mv_noH hno _) (fun w108 σ108 h108 => ?_)
      obtain ⟨rfl, rfl, s_g20⟩ := h108
      have r_g20 : mv_r g20 = mv_r h := s_g20.trans r_hz
      refine mv_iadd (pc := 111) B d_Model_shippedStep_111 ?_
      refine mv_bipush (pc := 112) (v := -2) B d_Model_shippedStep_112 (by decide) ?_
      refine mv_iand (pc := 114) B d_Model_shippedStep_114 ?_
      refine mv_lpick [0, 3, 4] rfl ?_
      exact jn115 _ _ _ _ r_g20 hf
    · skip
      have hf := xif_t h90 hf
      refine mv_aload_n (pc := 93) B d_Model_shippedStep_93 rfl 0 rfl ?_
      refine mv_getI (pc := 94) (ci := 11) (C := R_Model) (T := F_Model) (N := 16) B 6 rfl rfl (by decide) i_Model (B.2.2.2.1 _ k_2051) rfl d_Model_shippedStep_94 ?_
      refine mv_iload_n (pc := 97) B d_Model_shippedStep_97 rfl 1 rfl ?_
      obtain ⟨u23, g22, eg22, hf⟩ := xhb_e hf
      refine mv_callSi (pc := 98) (n := 1) B (mK_ok sk sv) hNs (ch_Model_immJ l hi _ _ eg22) rfl (ma_goodc kc_Model_immJ) (B.2.2.2.1 _ k_2452) (B.2.2.2.1 _ k_2453) (B.2.2.2.1 _ k_12) ⟨by decide +kernel, by decide +kernel, by decide +kernel⟩ rfl d_Model_shippedStep_98 rfl (Nat.le_of_ble_eq_true rfl) ⟨by first | decide | (dsimp only; omega), by first | decide | (dsimp only; omega)⟩ ⟨Nat.le_refl _, Nat.le_refl _⟩ ⟨Nat.le_refl _, Nat.le_refl _⟩ (mv_noH hno _) (fun w98 σ98 h98 => ?_)
      obtain ⟨rfl, rfl, s_g22⟩ := h98
      have r_g22 : mv_r g22 = mv_r h := s_g22.trans r_hz
      refine mv_iadd (pc := 101) B d_Model_shippedStep_101 ?_
      refine mv_goto (pc := 102) (tgt := 115) B d_Model_shippedStep_102 rfl ?_
      refine mv_lpick [0, 3, 4] rfl ?_
      exact jn115 _ _ _ _ r_g22 hf
  unfold f_Model_shippedStep at hf
  refine mv_iload_n (pc := 0) B d_Model_shippedStep_0 rfl 1 rfl ?_
  obtain ⟨u25, g24, eg24, hf⟩ := xhb_e hf
  refine mv_callSi (pc := 1) (n := 1) B (mK_ok sk sv) hNs (ch_Model_shippedOp l hi _ _ eg24) rfl (ma_goodc kc_Model_shippedOp) (B.2.2.2.1 _ k_2357) (B.2.2.2.1 _ k_2358) (B.2.2.2.1 _ k_12) ⟨by decide +kernel, by decide +kernel, by decide +kernel⟩ rfl d_Model_shippedStep_1 rfl (Nat.le_of_ble_eq_true rfl) ⟨by first | decide | (dsimp only; omega), by first | decide | (dsimp only; omega)⟩ ⟨Nat.le_refl _, Nat.le_refl _⟩ ⟨Nat.le_refl _, Nat.le_refl _⟩ (mv_noH hno _) (fun w1 σ1 h1 => ?_)
  obtain ⟨rfl, rfl, s_g24⟩ := h1
  have r_g24 : mv_r g24 = mv_r h := s_g24.trans rfl
  refine mv_istore_n (pc := 4) B d_Model_shippedStep_4 rfl (by decide) rfl ?_
  refine mv_aload_n (pc := 5) B d_Model_shippedStep_5 rfl 1 rfl ?_
  refine mv_getI (pc := 6) (ci := 11) (C := R_Model) (T := F_Model) (N := 16) B 6 rfl rfl (by decide) i_Model (B.2.2.2.1 _ k_2051) rfl d_Model_shippedStep_6 ?_
  refine mv_istore_n (pc := 9) B d_Model_shippedStep_9 rfl (by decide) rfl ?_
  refine mv_iload_n (pc := 10) B d_Model_shippedStep_10 rfl 3 rfl ?_
  refine mv_bipush (pc := 11) (v := 11) B d_Model_shippedStep_11 (by decide) ?_
  refine mv_bipush (pc := 13) (v := 7) B d_Model_shippedStep_13 (by decide) ?_
  obtain ⟨u27, g26, eg26, hf⟩ := xhb_e hf
  refine mv_callSi (pc := 15) (n := 3) B (mK_ok sk sv) hNs (ch_Model_piece l hi _ _ _ _ eg26) rfl (ma_goodc kc_Model_piece) (B.2.2.2.1 _ k_2360) (B.2.2.2.1 _ k_2361) (B.2.2.2.1 _ k_12) ⟨by decide +kernel, by decide +kernel, by decide +kernel⟩ rfl d_Model_shippedStep_15 rfl (Nat.le_of_ble_eq_true rfl) ⟨by first | decide | (dsimp only; omega), by first | decide | (dsimp only; omega)⟩ ⟨Nat.le_refl _, Nat.le_refl _⟩ ⟨Nat.le_refl _, Nat.le_refl _⟩ (mv_noH hno _) (fun w15 σ15 h15 => ?_)
  obtain ⟨rfl, rfl, s_g26⟩ := h15
  have r_g26 : mv_r g26 = mv_r h := s_g26.trans r_g24
  refine mv_istore (pc := 18) B d_Model_shippedStep_18 (by decide) rfl ?_
  refine mv_aload_n (pc := 20) B d_Model_shippedStep_20 rfl 3 rfl ?_
  refine mv_getR (pc := 21) (ci := 11) (C := R_Model) (T := F_Model) (N := 16) B 7 rfl rfl (by decide) i_Model (B.2.2.2.1 _ k_2052) rfl ((congrFun (congrFun r_g26 70) 7).trans (hb.1 70 7 _ rfl)) d_Model_shippedStep_21 ?_
  refine mv_iload_n (pc := 24) B d_Model_shippedStep_24 rfl 4 rfl ?_
  refine mv_bipush (pc := 25) (v := 19) B d_Model_shippedStep_25 (by decide) ?_
  refine mv_bipush (pc := 27) (v := 15) B d_Model_shippedStep_27 (by decide) ?_
  obtain ⟨u29, g28, eg28, hf⟩ := xhb_e hf
  refine mv_callSi (pc := 29) (n := 3) B (mK_ok sk sv) hNs (ch_Model_piece l hi _ _ _ _ eg28) rfl (ma_goodc kc_Model_piece) (B.2.2.2.1 _ k_2360) (B.2.2.2.1 _ k_2361) (B.2.2.2.1 _ k_12) ⟨by decide +kernel, by decide +kernel, by decide +kernel⟩ rfl d_Model_shippedStep_29 rfl (Nat.le_of_ble_eq_true rfl) ⟨by first | decide | (dsimp only; omega), by first | decide | (dsimp only; omega)⟩ ⟨Nat.le_refl _, Nat.le_refl _⟩ ⟨Nat.le_refl _, Nat.le_refl _⟩ (mv_noH hno _) (fun w29 σ29 h29 => ?_)
  obtain ⟨rfl, rfl, s_g28⟩ := h29
  have r_g28 : mv_r g28 = mv_r h := s_g28.trans r_g26
  obtain ⟨q30, hf⟩ := xvi_e hf
  refine mv_iald (pc := 32) B rfl q30 d_Model_shippedStep_32 ?_
  refine mv_istore (pc := 33) B d_Model_shippedStep_33 (by decide) rfl ?_
  refine mv_aload_n (pc := 35) B d_Model_shippedStep_35 rfl 4 rfl ?_
  refine mv_getR (pc := 36) (ci := 11) (C := R_Model) (T := F_Model) (N := 16) B 7 rfl rfl (by decide) i_Model (B.2.2.2.1 _ k_2052) rfl ((congrFun (congrFun r_g28 70) 7).trans (hb.1 70 7 _ rfl)) d_Model_shippedStep_36 ?_
  refine mv_iload_n (pc := 39) B d_Model_shippedStep_39 rfl 5 rfl ?_
  refine mv_bipush (pc := 40) (v := 24) B d_Model_shippedStep_40 (by decide) ?_
  refine mv_bipush (pc := 42) (v := 20) B d_Model_shippedStep_42 (by decide) ?_
  obtain ⟨u32, g31, eg31, hf⟩ := xhb_e hf
  refine mv_callSi (pc := 44) (n := 3) B (mK_ok sk sv) hNs (ch_Model_piece l hi _ _ _ _ eg31) rfl (ma_goodc kc_Model_piece) (B.2.2.2.1 _ k_2360) (B.2.2.2.1 _ k_2361) (B.2.2.2.1 _ k_12) ⟨by decide +kernel, by decide +kernel, by decide +kernel⟩ rfl d_Model_shippedStep_44 rfl (Nat.le_of_ble_eq_true rfl) ⟨by first | decide | (dsimp only; omega), by first | decide | (dsimp only; omega)⟩ ⟨Nat.le_refl _, Nat.le_refl _⟩ ⟨Nat.le_refl _, Nat.le_refl _⟩ (mv_noH hno _) (fun w44 σ44 h44 => ?_)
  obtain ⟨rfl, rfl, s_g31⟩ := h44
  have r_g31 : mv_r g31 = mv_r h := s_g31.trans r_g28
  obtain ⟨q33, hf⟩ := xvi_e hf
  refine mv_iald (pc := 47) B rfl q33 d_Model_shippedStep_47 ?_
  refine mv_istore (pc := 48) B d_Model_shippedStep_48 (by decide) rfl ?_
  refine mv_iconst (pc := 50) (v := 0) B d_Model_shippedStep_50 (by decide) ?_
  refine mv_istore (pc := 51) B d_Model_shippedStep_51 (by decide) rfl ?_
  refine mv_iload_n (pc := 53) B d_Model_shippedStep_53 rfl 5 rfl ?_
  refine mv_if_ge (pc := 54) (tgt := 60) B d_Model_shippedStep_54 rfl (fun h54 => ?_) (fun h54 => ?_)
  · skip
    have hf := xif_t h54 hf
    refine mv_iload_n (pc := 60) B d_Model_shippedStep_60 rfl 5 rfl ?_
    refine mv_bipush (pc := 61) (v := 38) B d_Model_shippedStep_61 (by decide) ?_
    refine mv_icmp_ne (pc := 63) (tgt := 69) B d_Model_shippedStep_63 rfl (fun h63 => ?_) (fun h63 => ?_)
    · skip
      have hf := xif_f h63 hf
      refine mv_iload_n (pc := 69) B d_Model_shippedStep_69 rfl 5 rfl ?_
      refine mv_bipush (pc := 70) (v := 39) B d_Model_shippedStep_70 (by decide) ?_
      refine mv_icmp_ne (pc := 72) (tgt := 77) B d_Model_shippedStep_72 rfl (fun h72 => ?_) (fun h72 => ?_)
      · skip
        have hf := xif_f h72 hf
        refine mv_iload_n (pc := 77) B d_Model_shippedStep_77 rfl 5 rfl ?_
        refine mv_iconst (pc := 78) (v := 2) B d_Model_shippedStep_78 (by decide) ?_
        refine mv_icmp_eq (pc := 79) (tgt := 87) B d_Model_shippedStep_79 rfl (fun h79 => ?_) (fun h79 => ?_)
        · skip
          have hf := xif_t h79 hf
          refine mv_lpick [6, 7, 5, 4, 3, 2] rfl ?_
          exact jn87 _ _ _ _ _ _ r_g31 hf
        · skip
          have hf := xif_f h79 hf
          refine mv_iload_n (pc := 82) B d_Model_shippedStep_82 rfl 5 rfl ?_
          refine mv_iconst (pc := 83) (v := 3) B d_Model_shippedStep_83 (by decide) ?_
          refine mv_icmp_ne (pc := 84) (tgt := 137) B d_Model_shippedStep_84 rfl (fun h84 => ?_) (fun h84 => ?_)
          · skip
            have hf := xif_f h84 hf
            refine mv_iload_n (pc := 137) B d_Model_shippedStep_137 rfl 5 rfl ?_
            refine mv_iconst (pc := 138) (v := 4) B d_Model_shippedStep_138 (by decide) ?_
            refine mv_icmp_lt (pc := 139) (tgt := 173) B d_Model_shippedStep_139 rfl (fun h139 => ?_) (fun h139 => ?_)
            · skip
              have hf := xif_t h139 hf
              refine mv_lpick [6, 7, 5, 4, 3, 2, 1, 0] rfl ?_
              exact jn173 _ _ _ _ _ _ _ _ r_g31 hf
            · skip
              have hf := xif_f h139 hf
              refine mv_iload_n (pc := 142) B d_Model_shippedStep_142 rfl 5 rfl ?_
              refine mv_bipush (pc := 143) (v := 9) B d_Model_shippedStep_143 (by decide) ?_
              refine mv_icmp_gt (pc := 145) (tgt := 173) B d_Model_shippedStep_145 rfl (fun h145 => ?_) (fun h145 => ?_)
              · skip
                have hf := xif_t h145 hf
                refine mv_lpick [6, 7, 5, 4, 3, 2, 1, 0] rfl ?_
                exact jn173 _ _ _ _ _ _ _ _ r_g31 hf
              · skip
                have hf := xif_f h145 hf
                refine mv_iload_n (pc := 148) B d_Model_shippedStep_148 rfl 5 rfl ?_
                refine mv_iload (pc := 149) B d_Model_shippedStep_149 2 rfl ?_
                refine mv_iload (pc := 151) B d_Model_shippedStep_151 1 rfl ?_
                obtain ⟨u35, g34, eg34, hf⟩ := xhb_e hf
                refine mv_callSi (pc := 153) (n := 3) B (mK_ok sk sv) hNs (ch_Model_taken l hi _ _ _ _ eg34) rfl (ma_goodc kc_Model_taken) (B.2.2.2.1 _ k_2462) (B.2.2.2.1 _ k_2463) (B.2.2.2.1 _ k_12) ⟨by decide +kernel, by decide +kernel, by decide +kernel⟩ rfl d_Model_shippedStep_153 rfl (Nat.le_of_ble_eq_true rfl) ⟨by first | decide | (dsimp only; omega), by first | decide | (dsimp only; omega)⟩ ⟨Nat.le_refl _, Nat.le_refl _⟩ ⟨Nat.le_refl _, Nat.le_refl _⟩ (mv_noH hno _) (fun w153 σ153 h153 => ?_)
                obtain ⟨rfl, rfl, s_g34⟩ := h153
                have r_g34 : mv_r g34 = mv_r h := s_g34.trans r_g31
                refine mv_if_eq (pc := 156) (tgt := 294) B d_Model_shippedStep_156 rfl (fun h156 => ?_) (fun h156 => ?_)
                · skip
                  have hf := xif_t h156 hf
                  refine mv_lpick [6, 4, 0] rfl ?_
                  exact jn294 _ _ _ r_g34 hf
                · skip
                  have hf := xif_f h156 hf
                  refine mv_aload_n (pc := 159) B d_Model_shippedStep_159 rfl 6 rfl ?_
                  refine mv_aload_n (pc := 160) B d_Model_shippedStep_160 rfl 6 rfl ?_
                  refine mv_getI (pc := 161) (ci := 11) (C := R_Model) (T := F_Model) (N := 16) B 6 rfl rfl (by decide) i_Model (B.2.2.2.1 _ k_2051) rfl d_Model_shippedStep_161 ?_
                  refine mv_iload_n (pc := 164) B d_Model_shippedStep_164 rfl 7 rfl ?_
                  obtain ⟨u37, g36, eg36, hf⟩ := xhb_e hf
                  refine mv_callSi (pc := 165) (n := 1) B (mK_ok sk sv) hNs (ch_Model_immB l hi _ _ eg36) rfl (ma_goodc kc_Model_immB) (B.2.2.2.1 _ k_2469) (B.2.2.2.1 _ k_2470) (B.2.2.2.1 _ k_12) ⟨by decide +kernel, by decide +kernel, by decide +kernel⟩ rfl d_Model_shippedStep_165 rfl (Nat.le_of_ble_eq_true rfl) ⟨by first | decide | (dsimp only; omega), by first | decide | (dsimp only; omega)⟩ ⟨Nat.le_refl _, Nat.le_refl _⟩ ⟨Nat.le_refl _, Nat.le_refl _⟩ (mv_noH hno _) (fun w165 σ165 h165 => ?_)
                  obtain ⟨rfl, rfl, s_g36⟩ := h165
                  have r_g36 : mv_r g36 = mv_r h := s_g36.trans r_g34
                  refine mv_iadd (pc := 168) B d_Model_shippedStep_168 ?_
                  obtain ⟨u39, g38, eg38, hf⟩ := xhb_e hf
                  refine mv_callVi (pc := 169) (n := 1) (ci := 11) (C := R_Model) B (mK_ok sk sv) hNs rfl rfl (ch_Model_jump_x l hi _ (⟨xrw r_g36 hb.1, (congrFun (congrFun r_g36 70) 9).trans hb.2⟩) _ eg38) rfl (ma_goodc kc_Model_jump) (B.2.2.2.1 _ k_2458) (B.2.2.2.1 _ k_2460) (B.2.2.2.1 _ ks_127) (B.2.2.2.1 _ k_12) ⟨by decide +kernel, by decide +kernel, by decide +kernel⟩ rfl d_Model_shippedStep_169 rfl (Nat.le_of_ble_eq_true rfl) ⟨by first | decide | (dsimp only; omega), by first | decide | (dsimp only; omega)⟩ ⟨Nat.le_refl _, Nat.le_refl _⟩ ⟨Nat.le_refl _, Nat.le_refl _⟩ (mv_noH hno _) (fun w169 σ169 h169 => ?_)
                  obtain ⟨rfl, rfl, s_g38⟩ := h169
                  have r_g38 : mv_r g38 = mv_r h := s_g38.trans r_g36
                  exact mv_iret (pc := 172) B hr rfl d_Model_shippedStep_172 (Nat.le_refl _) (Nat.le_refl _) ⟨_, rfl, xrh_i hf r_g38⟩
          · skip
            have hf := xif_t h84 hf
            refine mv_lpick [6, 7, 5, 4, 3, 2] rfl ?_
            exact jn87 _ _ _ _ _ _ r_g31 hf
      · skip
        have hf := xif_t h72 hf
        refine mv_iconst (pc := 75) (v := 3) B d_Model_shippedStep_75 (by decide) ?_
        exact mv_iret (pc := 76) B hr rfl d_Model_shippedStep_76 (Nat.le_refl _) (Nat.le_refl _) ⟨_, rfl, xrh_i hf r_g31⟩
    · skip
      have hf := xif_t h63 hf
      refine mv_bipush (pc := 66) (v := 8) B d_Model_shippedStep_66 (by decide) ?_
      exact mv_iret (pc := 68) B hr rfl d_Model_shippedStep_68 (Nat.le_refl _) (Nat.le_refl _) ⟨_, rfl, xrh_i hf r_g31⟩
  · skip
    have hf := xif_f h54 hf
    refine mv_bipush (pc := 57) (v := -2) B d_Model_shippedStep_57 (by decide) ?_
    exact mv_iret (pc := 59) B hr rfl d_Model_shippedStep_59 (Nat.le_refl _) (Nat.le_refl _) ⟨_, rfl, xrh_i hf r_g31⟩
set_option maxHeartbeats 4000000 in
set_option maxRecDepth 100000 in
theorem ch_Model_shippedStep_y (l : Launch) {dA : FieldType → ClassId} {D : va_G} {al : Nat → Nat} {ext : mv_Sh} {sk sv : Nat → Nat} (hi : mv_inj (mg dA D al ext)) (h : mv_H) (hb : mh (mv_r h) ∧ mv_r h 70 9 = some 108)  (a0 : Int32) {rv : Int32} {rg : mv_H} (hf : f_Model_shippedStep 108 h a0 = some (rv, rg)) : mv_C l y_Model_shippedStep (Cond.code y_Model_shippedStep b_Model_shippedStep 8 (Option.some Jvm.ClassFile.FieldType.int) :: ma) ({ frames := 3, cells := 0, slots := 0, locals := 72 }) (mg dA D al ext) (mK sk sv) [.ref (al 70), .int a0] h (mv_Ri (fun v σ1 => rv = v ∧ rg = σ1 ∧ mv_r σ1 = mv_r h)) := by
  refine mv_C.ofV (cc := b_Model_shippedStep) (nL := 8) (ret := (Option.some Jvm.ClassFile.FieldType.int)) (by decide +kernel) rfl hi (Nat.le_of_ble_eq_true rfl) ?_
  intro p e s m below meth c B hNs hr hnm hno
  have jn306 : ∀ (x7 : Int32) (hz : mv_H), mv_r hz = mv_r h → f_Model_shippedStep_306 108 x7 hz = some (rv, rg) → mv_V p l e ({ frames := 3, cells := 0, slots := 0, locals := 72 }) s m ([.ref (al 70), .int a0] : List Value).toArray below meth c (mg dA D al ext) 8 0 0 (mv_Q (mg dA D al ext) below s 0 0 (mv_Ri (fun v σ1 => rv = v ∧ rg = σ1 ∧ mv_r σ1 = mv_r h))) hz 306 [(7, .int x7)] [] := by
    intro x7 hz r_hz hf
    unfold f_Model_shippedStep_306 at hf
    refine mv_iload (pc := 306) B d_Model_shippedStep_306 0 rfl ?_
    exact mv_iret (pc := 308) B hr rfl d_Model_shippedStep_308 (Nat.le_refl _) (Nat.le_refl _) ⟨_, rfl, xrh_i hf r_hz⟩
  have jn294 : ∀ (x3 : Int32) (x7 : Int32) (hz : mv_H), mv_r hz = mv_r h → f_Model_shippedStep_294 108 x3 x7 hz = some (rv, rg) → mv_V p l e ({ frames := 3, cells := 0, slots := 0, locals := 72 }) s m ([.ref (al 70), .int a0] : List Value).toArray below meth c (mg dA D al ext) 8 0 0 (mv_Q (mg dA D al ext) below s 0 0 (mv_Ri (fun v σ1 => rv = v ∧ rg = σ1 ∧ mv_r σ1 = mv_r h))) hz 294 [(0, .ref (al 70)), (3, .int x3), (7, .int x7)] [] := by
    intro x3 x7 hz r_hz hf
    unfold f_Model_shippedStep_294 at hf
    refine mv_iload (pc := 294) B d_Model_shippedStep_294 2 rfl ?_
    refine mv_if_ne (pc := 296) (tgt := 306) B d_Model_shippedStep_296 rfl (fun h296 => ?_) (fun h296 => ?_)
    · skip
      have hf := xif_f h296 hf
      refine mv_lpick [2] rfl ?_
      exact jn306 _ _ r_hz hf
    · skip
      have hf := xif_t h296 hf
      refine mv_aload_n (pc := 299) B d_Model_shippedStep_299 rfl 0 rfl ?_
      refine mv_iload_n (pc := 300) B d_Model_shippedStep_300 rfl 1 rfl ?_
      refine mv_iconst (pc := 301) (v := 4) B d_Model_shippedStep_301 (by decide) ?_
      refine mv_iadd (pc := 302) B d_Model_shippedStep_302 ?_
      refine mv_putI (pc := 303) (ci := 11) (C := R_Model) (T := F_Model) (N := 16) B 6 rfl rfl (by decide) i_Model t_Model_ok n_Model (B.2.2.2.1 _ k_2051) rfl rfl rfl rfl d_Model_shippedStep_303 ?_
      refine mvh_hp (R9 := mv_r h) hf r_hz (fun g1 hf r_g1 => ?_)
      refine mv_lpick [2] rfl ?_
      exact jn306 _ _ r_g1 hf
  have jn288 : ∀ (x3 : Int32) (x7 : Int32) (y0 : Int32) (y1 : Int32) (y2 : Int32) (y3 : Int32) (hz : mv_H), mv_r hz = mv_r h → f_Model_shippedStep_288 108 x3 x7 y0 y1 y2 y3 hz = some (rv, rg) → mv_V p l e ({ frames := 3, cells := 0, slots := 0, locals := 72 }) s m ([.ref (al 70), .int a0] : List Value).toArray below meth c (mg dA D al ext) 8 0 0 (mv_Q (mg dA D al ext) below s 0 0 (mv_Ri (fun v σ1 => rv = v ∧ rg = σ1 ∧ mv_r σ1 = mv_r h))) hz 288 [(0, .ref (al 70)), (3, .int x3), (7, .int x7)] [.int y0, .int y1, .int y2, .int y3, .ref (al 70)] := by
    intro x3 x7 y0 y1 y2 y3 hz r_hz hf
    unfold f_Model_shippedStep_288 at hf
    obtain ⟨u3, g2, eg2, hf⟩ := xhb_e hf
    refine mv_callSi (pc := 288) (n := 3) B (mK_ok sk sv) hNs (ch_Model_reckon l hi _ _ _ _ eg2) rfl (ma_goodc kc_Model_reckon) (B.2.2.2.1 _ k_2486) (B.2.2.2.1 _ k_2487) (B.2.2.2.1 _ k_12) ⟨by decide +kernel, by decide +kernel, by decide +kernel⟩ rfl d_Model_shippedStep_288 rfl (Nat.le_of_ble_eq_true rfl) ⟨by first | decide | (dsimp only; omega), by first | decide | (dsimp only; omega)⟩ ⟨Nat.le_refl _, Nat.le_refl _⟩ ⟨Nat.le_refl _, Nat.le_refl _⟩ (mv_noH hno _) (fun w288 σ288 h288 => ?_)
    obtain ⟨rfl, rfl, s_g2⟩ := h288
    have r_g2 : mv_r g2 = mv_r h := s_g2.trans r_hz
    obtain ⟨g4, eg4, hf⟩ := xhv_e hf
    refine mv_callVv (pc := 291) (n := 2) (ci := 11) (C := R_Model) B (mK_ok sk sv) hNs rfl rfl (ch_Model_set_y l hi _ (⟨xrw r_g2 hb.1, (congrFun (congrFun r_g2 70) 9).trans hb.2⟩) _ _ eg4) rfl (ma_goodc kc_Model_set) (B.2.2.2.1 _ k_2430) (B.2.2.2.1 _ k_2432) (B.2.2.2.1 _ ks_125) (B.2.2.2.1 _ k_12) ⟨by decide +kernel, by decide +kernel, by decide +kernel⟩ rfl d_Model_shippedStep_291 rfl (Nat.le_of_ble_eq_true rfl) ⟨by first | decide | (dsimp only; omega), by first | decide | (dsimp only; omega)⟩ ⟨Nat.le_refl _, Nat.le_refl _⟩ ⟨Nat.le_refl _, Nat.le_refl _⟩ (mv_noH hno _) (fun σ291 h291 => ?_)
    obtain ⟨rfl, s_g4⟩ := h291
    have r_g4 : mv_r g4 = mv_r h := s_g4.trans r_g2
    refine mv_lpick [0, 1, 2] rfl ?_
    exact jn294 _ _ _ r_g4 hf
  have jn203 : ∀ (x3 : Int32) (x7 : Int32) (y0 : Int32) (y1 : Int32) (y2 : Int32) (hz : mv_H), mv_r hz = mv_r h → f_Model_shippedStep_203 108 x3 x7 y0 y1 y2 hz = some (rv, rg) → mv_V p l e ({ frames := 3, cells := 0, slots := 0, locals := 72 }) s m ([.ref (al 70), .int a0] : List Value).toArray below meth c (mg dA D al ext) 8 0 0 (mv_Q (mg dA D al ext) below s 0 0 (mv_Ri (fun v σ1 => rv = v ∧ rg = σ1 ∧ mv_r σ1 = mv_r h))) hz 203 [(0, .ref (al 70)), (3, .int x3), (7, .int x7)] [.int y0, .int y1, .int y2, .ref (al 70)] := by
    intro x3 x7 y0 y1 y2 hz r_hz hf
    unfold f_Model_shippedStep_203 at hf
    refine mv_iadd (pc := 203) B d_Model_shippedStep_203 ?_
    obtain ⟨g6, eg6, hf⟩ := xhv_e hf
    refine mv_callVv (pc := 204) (n := 2) (ci := 11) (C := R_Model) B (mK_ok sk sv) hNs rfl rfl (ch_Model_set_y l hi _ (⟨xrw r_hz hb.1, (congrFun (congrFun r_hz 70) 9).trans hb.2⟩) _ _ eg6) rfl (ma_goodc kc_Model_set) (B.2.2.2.1 _ k_2430) (B.2.2.2.1 _ k_2432) (B.2.2.2.1 _ ks_125) (B.2.2.2.1 _ k_12) ⟨by decide +kernel, by decide +kernel, by decide +kernel⟩ rfl d_Model_shippedStep_204 rfl (Nat.le_of_ble_eq_true rfl) ⟨by first | decide | (dsimp only; omega), by first | decide | (dsimp only; omega)⟩ ⟨Nat.le_refl _, Nat.le_refl _⟩ ⟨Nat.le_refl _, Nat.le_refl _⟩ (mv_noH hno _) (fun σ204 h204 => ?_)
    obtain ⟨rfl, s_g6⟩ := h204
    have r_g6 : mv_r g6 = mv_r h := s_g6.trans r_hz
    refine mv_goto (pc := 207) (tgt := 294) B d_Model_shippedStep_207 rfl ?_
    refine mv_lpick [0, 1, 2] rfl ?_
    exact jn294 _ _ _ r_g6 hf
  have jn182 : ∀ (x1 : Int32) (x2 : Int32) (x3 : Int32) (x4 : Int32) (x7 : Int32) (hz : mv_H), mv_r hz = mv_r h → f_Model_shippedStep_182 108 x1 x2 x3 x4 x7 hz = some (rv, rg) → mv_V p l e ({ frames := 3, cells := 0, slots := 0, locals := 72 }) s m ([.ref (al 70), .int a0] : List Value).toArray below meth c (mg dA D al ext) 8 0 0 (mv_Q (mg dA D al ext) below s 0 0 (mv_Ri (fun v σ1 => rv = v ∧ rg = σ1 ∧ mv_r σ1 = mv_r h))) hz 182 [(0, .ref (al 70)), (1, .int x1), (2, .int x2), (3, .int x3), (4, .int x4), (7, .int x7)] [] := by
    intro x1 x2 x3 x4 x7 hz r_hz hf
    unfold f_Model_shippedStep_182 at hf
    refine mv_aload_n (pc := 182) B d_Model_shippedStep_182 rfl 0 rfl ?_
    refine mv_iload (pc := 183) B d_Model_shippedStep_183 4 rfl ?_
    refine mv_iload_n (pc := 185) B d_Model_shippedStep_185 rfl 1 rfl ?_
    refine mv_sipush (pc := 186) (v := -4096) B d_Model_shippedStep_186 (by decide) ?_
    refine mv_iand (pc := 189) B d_Model_shippedStep_189 ?_
    refine mv_iload_n (pc := 190) B d_Model_shippedStep_190 rfl 2 rfl ?_
    refine mv_iconst (pc := 191) (v := 1) B d_Model_shippedStep_191 (by decide) ?_
    refine mv_icmp_ne (pc := 192) (tgt := 202) B d_Model_shippedStep_192 rfl (fun h192 => ?_) (fun h192 => ?_)
    · skip
      have hf := xif_f h192 hf
      refine mv_iconst (pc := 202) (v := 0) B d_Model_shippedStep_202 (by decide) ?_
      refine mv_lpick [0, 3, 5] rfl ?_
      exact jn203 _ _ _ _ _ _ r_hz hf
    · skip
      have hf := xif_t h192 hf
      refine mv_aload_n (pc := 195) B d_Model_shippedStep_195 rfl 0 rfl ?_
      refine mv_getI (pc := 196) (ci := 11) (C := R_Model) (T := F_Model) (N := 16) B 6 rfl rfl (by decide) i_Model (B.2.2.2.1 _ k_2051) rfl d_Model_shippedStep_196 ?_
      refine mv_goto (pc := 199) (tgt := 203) B d_Model_shippedStep_199 rfl ?_
      refine mv_lpick [0, 3, 5] rfl ?_
      exact jn203 _ _ _ _ _ _ r_hz hf
  have jn173 : ∀ (x1 : Int32) (x2 : Int32) (x3 : Int32) (x4 : Int32) (x5 : Int32) (x6 : Int32) (x7 : Int32) (hz : mv_H), mv_r hz = mv_r h → f_Model_shippedStep_173 108 x1 x2 x3 x4 x5 x6 x7 hz = some (rv, rg) → mv_V p l e ({ frames := 3, cells := 0, slots := 0, locals := 72 }) s m ([.ref (al 70), .int a0] : List Value).toArray below meth c (mg dA D al ext) 8 0 0 (mv_Q (mg dA D al ext) below s 0 0 (mv_Ri (fun v σ1 => rv = v ∧ rg = σ1 ∧ mv_r σ1 = mv_r h))) hz 173 [(0, .ref (al 70)), (1, .int x1), (2, .int x2), (3, .int x3), (4, .int x4), (5, .int x5), (6, .int x6), (7, .int x7)] [] := by
    intro x1 x2 x3 x4 x5 x6 x7 hz r_hz hf
    unfold f_Model_shippedStep_173 at hf
    refine mv_iload_n (pc := 173) B d_Model_shippedStep_173 rfl 2 rfl ?_
    refine mv_if_eq (pc := 174) (tgt := 182) B d_Model_shippedStep_174 rfl (fun h174 => ?_) (fun h174 => ?_)
    · skip
      have hf := xif_t h174 hf
      refine mv_lpick [0, 1, 2, 3, 4, 7] rfl ?_
      exact jn182 _ _ _ _ _ _ r_hz hf
    · skip
      have hf := xif_f h174 hf
      refine mv_iload_n (pc := 177) B d_Model_shippedStep_177 rfl 2 rfl ?_
      refine mv_iconst (pc := 178) (v := 1) B d_Model_shippedStep_178 (by decide) ?_
      refine mv_icmp_ne (pc := 179) (tgt := 210) B d_Model_shippedStep_179 rfl (fun h179 => ?_) (fun h179 => ?_)
      · skip
        have hf := xif_f h179 hf
        refine mv_iload_n (pc := 210) B d_Model_shippedStep_210 rfl 2 rfl ?_
        refine mv_bipush (pc := 211) (v := 14) B d_Model_shippedStep_211 (by decide) ?_
        refine mv_icmp_gt (pc := 213) (tgt := 227) B d_Model_shippedStep_213 rfl (fun h213 => ?_) (fun h213 => ?_)
        · skip
          have hf := xif_t h213 hf
          refine mv_iload_n (pc := 227) B d_Model_shippedStep_227 rfl 2 rfl ?_
          refine mv_bipush (pc := 228) (v := 17) B d_Model_shippedStep_228 (by decide) ?_
          refine mv_icmp_gt (pc := 230) (tgt := 244) B d_Model_shippedStep_230 rfl (fun h230 => ?_) (fun h230 => ?_)
          · skip
            have hf := xif_t h230 hf
            refine mv_iload_n (pc := 244) B d_Model_shippedStep_244 rfl 2 rfl ?_
            refine mv_bipush (pc := 245) (v := 37) B d_Model_shippedStep_245 (by decide) ?_
            refine mv_icmp_eq (pc := 247) (tgt := 294) B d_Model_shippedStep_247 rfl (fun h247 => ?_) (fun h247 => ?_)
            · skip
              have hf := xif_t h247 hf
              refine mv_lpick [0, 3, 7] rfl ?_
              exact jn294 _ _ _ r_hz hf
            · skip
              have hf := xif_f h247 hf
              refine mv_aload_n (pc := 250) B d_Model_shippedStep_250 rfl 0 rfl ?_
              refine mv_iload (pc := 251) B d_Model_shippedStep_251 4 rfl ?_
              refine mv_iload_n (pc := 253) B d_Model_shippedStep_253 rfl 2 rfl ?_
              refine mv_iload (pc := 254) B d_Model_shippedStep_254 5 rfl ?_
              refine mv_iload_n (pc := 256) B d_Model_shippedStep_256 rfl 2 rfl ?_
              refine mv_bipush (pc := 257) (v := 23) B d_Model_shippedStep_257 (by decide) ?_
              refine mv_icmp_gt (pc := 259) (tgt := 269) B d_Model_shippedStep_259 rfl (fun h259 => ?_) (fun h259 => ?_)
              · skip
                have hf := xif_t h259 hf
                refine mv_iload_n (pc := 269) B d_Model_shippedStep_269 rfl 2 rfl ?_
                refine mv_bipush (pc := 270) (v := 26) B d_Model_shippedStep_270 (by decide) ?_
                refine mv_icmp_gt (pc := 272) (tgt := 286) B d_Model_shippedStep_272 rfl (fun h272 => ?_) (fun h272 => ?_)
                · skip
                  have hf := xif_t h272 hf
                  refine mv_iload (pc := 286) B d_Model_shippedStep_286 6 rfl ?_
                  refine mv_lpick [0, 3, 7] rfl ?_
                  exact jn288 _ _ _ _ _ _ _ r_hz hf
                · skip
                  have hf := xif_f h272 hf
                  refine mv_iload_n (pc := 275) B d_Model_shippedStep_275 rfl 1 rfl ?_
                  refine mv_bipush (pc := 276) (v := 24) B d_Model_shippedStep_276 (by decide) ?_
                  refine mv_bipush (pc := 278) (v := 20) B d_Model_shippedStep_278 (by decide) ?_
                  obtain ⟨u9, g8, eg8, hf⟩ := xhb_e hf
                  refine mv_callSi (pc := 280) (n := 3) B (mK_ok sk sv) hNs (ch_Model_piece l hi _ _ _ _ eg8) rfl (ma_goodc kc_Model_piece) (B.2.2.2.1 _ k_2360) (B.2.2.2.1 _ k_2361) (B.2.2.2.1 _ k_12) ⟨by decide +kernel, by decide +kernel, by decide +kernel⟩ rfl d_Model_shippedStep_280 rfl (Nat.le_of_ble_eq_true rfl) ⟨by first | decide | (dsimp only; omega), by first | decide | (dsimp only; omega)⟩ ⟨Nat.le_refl _, Nat.le_refl _⟩ ⟨Nat.le_refl _, Nat.le_refl _⟩ (mv_noH hno _) (fun w280 σ280 h280 => ?_)
                  obtain ⟨rfl, rfl, s_g8⟩ := h280
                  have r_g8 : mv_r g8 = mv_r h := s_g8.trans r_hz
                  refine mv_goto (pc := 283) (tgt := 288) B d_Model_shippedStep_283 rfl ?_
                  refine mv_lpick [0, 3, 7] rfl ?_
                  exact jn288 _ _ _ _ _ _ _ r_g8 hf
              · skip
                have hf := xif_f h259 hf
                refine mv_iload_n (pc := 262) B d_Model_shippedStep_262 rfl 1 rfl ?_
                obtain ⟨u11, g10, eg10, hf⟩ := xhb_e hf
                refine mv_callSi (pc := 263) (n := 1) B (mK_ok sk sv) hNs (ch_Model_immI l hi _ _ eg10) rfl (ma_goodc kc_Model_immI) (B.2.2.2.1 _ k_2455) (B.2.2.2.1 _ k_2456) (B.2.2.2.1 _ k_12) ⟨by decide +kernel, by decide +kernel, by decide +kernel⟩ rfl d_Model_shippedStep_263 rfl (Nat.le_of_ble_eq_true rfl) ⟨by first | decide | (dsimp only; omega), by first | decide | (dsimp only; omega)⟩ ⟨Nat.le_refl _, Nat.le_refl _⟩ ⟨Nat.le_refl _, Nat.le_refl _⟩ (mv_noH hno _) (fun w263 σ263 h263 => ?_)
                obtain ⟨rfl, rfl, s_g10⟩ := h263
                have r_g10 : mv_r g10 = mv_r h := s_g10.trans r_hz
                refine mv_goto (pc := 266) (tgt := 288) B d_Model_shippedStep_266 rfl ?_
                refine mv_lpick [0, 3, 7] rfl ?_
                exact jn288 _ _ _ _ _ _ _ r_g10 hf
          · skip
            have hf := xif_f h230 hf
            refine mv_aload_n (pc := 233) B d_Model_shippedStep_233 rfl 0 rfl ?_
            refine mv_iload_n (pc := 234) B d_Model_shippedStep_234 rfl 2 rfl ?_
            refine mv_iload_n (pc := 235) B d_Model_shippedStep_235 rfl 1 rfl ?_
            obtain ⟨u13, g12, eg12, hf⟩ := xhb_e hf
            refine mv_callVi (pc := 236) (n := 2) (ci := 11) (C := R_Model) B (mK_ok sk sv) hNs rfl rfl (ch_Model_store_y l hi _ (⟨xrw r_hz hb.1, (congrFun (congrFun r_hz 70) 9).trans hb.2⟩) _ _ eg12) rfl (ma_goodc kc_Model_store) (B.2.2.2.1 _ k_2479) (B.2.2.2.1 _ k_2481) (B.2.2.2.1 _ ks_129) (B.2.2.2.1 _ k_12) ⟨by decide +kernel, by decide +kernel, by decide +kernel⟩ rfl d_Model_shippedStep_236 rfl (Nat.le_of_ble_eq_true rfl) ⟨by first | decide | (dsimp only; omega), by first | decide | (dsimp only; omega)⟩ ⟨Nat.le_refl _, Nat.le_refl _⟩ ⟨Nat.le_refl _, Nat.le_refl _⟩ (mv_noH hno _) (fun w236 σ236 h236 => ?_)
            obtain ⟨rfl, rfl, s_g12⟩ := h236
            have r_g12 : mv_r g12 = mv_r h := s_g12.trans r_hz
            refine mv_istore (pc := 239) B d_Model_shippedStep_239 (by decide) rfl ?_
            refine mv_goto (pc := 241) (tgt := 294) B d_Model_shippedStep_241 rfl ?_
            refine mv_lpick [1, 4, 0] rfl ?_
            exact jn294 _ _ _ r_g12 hf
        · skip
          have hf := xif_f h213 hf
          refine mv_aload_n (pc := 216) B d_Model_shippedStep_216 rfl 0 rfl ?_
          refine mv_iload_n (pc := 217) B d_Model_shippedStep_217 rfl 2 rfl ?_
          refine mv_iload_n (pc := 218) B d_Model_shippedStep_218 rfl 1 rfl ?_
          obtain ⟨u15, g14, eg14, hf⟩ := xhb_e hf
          refine mv_callVi (pc := 219) (n := 2) (ci := 11) (C := R_Model) B (mK_ok sk sv) hNs rfl rfl (ch_Model_load_y l hi _ (⟨xrw r_hz hb.1, (congrFun (congrFun r_hz 70) 9).trans hb.2⟩) _ _ eg14) rfl (ma_goodc kc_Model_load) (B.2.2.2.1 _ k_2472) (B.2.2.2.1 _ k_2474) (B.2.2.2.1 _ ks_128) (B.2.2.2.1 _ k_12) ⟨by decide +kernel, by decide +kernel, by decide +kernel⟩ rfl d_Model_shippedStep_219 rfl (Nat.le_of_ble_eq_true rfl) ⟨by first | decide | (dsimp only; omega), by first | decide | (dsimp only; omega)⟩ ⟨Nat.le_refl _, Nat.le_refl _⟩ ⟨Nat.le_refl _, Nat.le_refl _⟩ (mv_noH hno _) (fun w219 σ219 h219 => ?_)
          obtain ⟨rfl, rfl, s_g14⟩ := h219
          have r_g14 : mv_r g14 = mv_r h := s_g14.trans r_hz
          refine mv_istore (pc := 222) B d_Model_shippedStep_222 (by decide) rfl ?_
          refine mv_goto (pc := 224) (tgt := 294) B d_Model_shippedStep_224 rfl ?_
          refine mv_lpick [1, 4, 0] rfl ?_
          exact jn294 _ _ _ r_g14 hf
      · skip
        have hf := xif_t h179 hf
        refine mv_lpick [0, 1, 2, 3, 4, 7] rfl ?_
        exact jn182 _ _ _ _ _ _ r_hz hf
  have jn134 : ∀ (x7 : Int32) (hz : mv_H), mv_r hz = mv_r h → f_Model_shippedStep_134 108 x7 hz = some (rv, rg) → mv_V p l e ({ frames := 3, cells := 0, slots := 0, locals := 72 }) s m ([.ref (al 70), .int a0] : List Value).toArray below meth c (mg dA D al ext) 8 0 0 (mv_Q (mg dA D al ext) below s 0 0 (mv_Ri (fun v σ1 => rv = v ∧ rg = σ1 ∧ mv_r σ1 = mv_r h))) hz 134 [(7, .int x7)] [] := by
    intro x7 hz r_hz hf
    unfold f_Model_shippedStep_134 at hf
    refine mv_iload (pc := 134) B d_Model_shippedStep_134 0 rfl ?_
    exact mv_iret (pc := 136) B hr rfl d_Model_shippedStep_136 (Nat.le_refl _) (Nat.le_refl _) ⟨_, rfl, xrh_i hf r_hz⟩
  have jn115 : ∀ (x3 : Int32) (x4 : Int32) (y0 : Int32) (hz : mv_H), mv_r hz = mv_r h → f_Model_shippedStep_115 108 x3 x4 y0 hz = some (rv, rg) → mv_V p l e ({ frames := 3, cells := 0, slots := 0, locals := 72 }) s m ([.ref (al 70), .int a0] : List Value).toArray below meth c (mg dA D al ext) 8 0 0 (mv_Q (mg dA D al ext) below s 0 0 (mv_Ri (fun v σ1 => rv = v ∧ rg = σ1 ∧ mv_r σ1 = mv_r h))) hz 115 [(0, .ref (al 70)), (3, .int x3), (4, .int x4)] [.int y0, .ref (al 70)] := by
    intro x3 x4 y0 hz r_hz hf
    unfold f_Model_shippedStep_115 at hf
    obtain ⟨u17, g16, eg16, hf⟩ := xhb_e hf
    refine mv_callVi (pc := 115) (n := 1) (ci := 11) (C := R_Model) B (mK_ok sk sv) hNs rfl rfl (ch_Model_jump_y l hi _ (⟨xrw r_hz hb.1, (congrFun (congrFun r_hz 70) 9).trans hb.2⟩) _ eg16) rfl (ma_goodc kc_Model_jump) (B.2.2.2.1 _ k_2458) (B.2.2.2.1 _ k_2460) (B.2.2.2.1 _ ks_127) (B.2.2.2.1 _ k_12) ⟨by decide +kernel, by decide +kernel, by decide +kernel⟩ rfl d_Model_shippedStep_115 rfl (Nat.le_of_ble_eq_true rfl) ⟨by first | decide | (dsimp only; omega), by first | decide | (dsimp only; omega)⟩ ⟨Nat.le_refl _, Nat.le_refl _⟩ ⟨Nat.le_refl _, Nat.le_refl _⟩ (mv_noH hno _) (fun w115 σ115 h115 => ?_)
    obtain ⟨rfl, rfl, s_g16⟩ := h115
    have r_g16 : mv_r g16 = mv_r h := s_g16.trans r_hz
    refine mv_istore (pc := 118) B d_Model_shippedStep_118 (by decide) rfl ?_
    refine mv_iload (pc := 120) B d_Model_shippedStep_120 0 rfl ?_
    refine mv_if_ne (pc := 122) (tgt := 134) B d_Model_shippedStep_122 rfl (fun h122 => ?_) (fun h122 => ?_)
    · skip
      have hf := xif_f h122 hf
      refine mv_lpick [0] rfl ?_
      exact jn134 _ _ r_g16 hf
    · skip
      have hf := xif_t h122 hf
      refine mv_aload_n (pc := 125) B d_Model_shippedStep_125 rfl 1 rfl ?_
      refine mv_iload (pc := 126) B d_Model_shippedStep_126 3 rfl ?_
      refine mv_iload_n (pc := 128) B d_Model_shippedStep_128 rfl 2 rfl ?_
      refine mv_iconst (pc := 129) (v := 4) B d_Model_shippedStep_129 (by decide) ?_
      refine mv_iadd (pc := 130) B d_Model_shippedStep_130 ?_
      obtain ⟨g18, eg18, hf⟩ := xhv_e hf
      refine mv_callVv (pc := 131) (n := 2) (ci := 11) (C := R_Model) B (mK_ok sk sv) hNs rfl rfl (ch_Model_set_y l hi _ (⟨xrw r_g16 hb.1, (congrFun (congrFun r_g16 70) 9).trans hb.2⟩) _ _ eg18) rfl (ma_goodc kc_Model_set) (B.2.2.2.1 _ k_2430) (B.2.2.2.1 _ k_2432) (B.2.2.2.1 _ ks_125) (B.2.2.2.1 _ k_12) ⟨by decide +kernel, by decide +kernel, by decide +kernel⟩ rfl d_Model_shippedStep_131 rfl (Nat.le_of_ble_eq_true rfl) ⟨by first | decide | (dsimp only; omega), by first | decide | (dsimp only; omega)⟩ ⟨Nat.le_refl _, Nat.le_refl _⟩ ⟨Nat.le_refl _, Nat.le_refl _⟩ (mv_noH hno _) (fun σ131 h131 => ?_)
      obtain ⟨rfl, s_g18⟩ := h131
      have r_g18 : mv_r g18 = mv_r h := s_g18.trans r_g16
      refine mv_lpick [0] rfl ?_
      exact jn134 _ _ r_g18 hf
  have jn87 : ∀ (x1 : Int32) (x2 : Int32) (x3 : Int32) (x4 : Int32) (x5 : Int32) (hz : mv_H), mv_r hz = mv_r h → f_Model_shippedStep_87 108 x1 x2 x3 x4 x5 hz = some (rv, rg) → mv_V p l e ({ frames := 3, cells := 0, slots := 0, locals := 72 }) s m ([.ref (al 70), .int a0] : List Value).toArray below meth c (mg dA D al ext) 8 0 0 (mv_Q (mg dA D al ext) below s 0 0 (mv_Ri (fun v σ1 => rv = v ∧ rg = σ1 ∧ mv_r σ1 = mv_r h))) hz 87 [(0, .ref (al 70)), (1, .int x1), (2, .int x2), (3, .int x3), (4, .int x4), (5, .int x5)] [] := by
    intro x1 x2 x3 x4 x5 hz r_hz hf
    unfold f_Model_shippedStep_87 at hf
    refine mv_aload_n (pc := 87) B d_Model_shippedStep_87 rfl 0 rfl ?_
    refine mv_iload_n (pc := 88) B d_Model_shippedStep_88 rfl 2 rfl ?_
    refine mv_iconst (pc := 89) (v := 2) B d_Model_shippedStep_89 (by decide) ?_
    refine mv_icmp_ne (pc := 90) (tgt := 105) B d_Model_shippedStep_90 rfl (fun h90 => ?_) (fun h90 => ?_)
    · skip
      have hf := xif_f h90 hf
      refine mv_iload (pc := 105) B d_Model_shippedStep_105 5 rfl ?_
      refine mv_iload_n (pc := 107) B d_Model_shippedStep_107 rfl 1 rfl ?_
      obtain ⟨u21, g20, eg20, hf⟩ := xhb_e hf
      refine mv_callSi (pc := 108) (n := 1) B (mK_ok sk sv) hNs (ch_Model_immI l hi _ _ eg20) rfl (ma_goodc kc_Model_immI) (B.2.2.2.1 _ k_2455) (B.2.2.2.1 _ k_2456) (B.2.2.2.1 _ k_12) ⟨by decide +kernel, by decide +kernel, by decide +kernel⟩ rfl d_Model_shippedStep_108 rfl (Nat.le_of_ble_eq_true rfl) ⟨by first | decide | (dsimp only; omega), by first | decide | (dsimp only; omega)⟩ ⟨Nat.le_refl _, Nat.le_refl _⟩ ⟨Nat.le_refl _, Nat.le_refl _⟩ (mv_noH hno _) (fun w108 σ108 h108 => ?_)
      obtain ⟨rfl, rfl, s_g20⟩ := h108
      have r_g20 : mv_r g20 = mv_r h := s_g20.trans r_hz
      refine mv_iadd (pc := 111) B d_Model_shippedStep_111 ?_
      refine mv_bipush (pc := 112) (v := -2) B d_Model_shippedStep_112 (by decide) ?_
      refine mv_iand (pc := 114) B d_Model_shippedStep_114 ?_
      refine mv_lpick [0, 3, 4] rfl ?_
      exact jn115 _ _ _ _ r_g20 hf
    · skip
      have hf := xif_t h90 hf
      refine mv_aload_n (pc := 93) B d_Model_shippedStep_93 rfl 0 rfl ?_
      refine mv_getI (pc := 94) (ci := 11) (C := R_Model) (T := F_Model) (N := 16) B 6 rfl rfl (by decide) i_Model (B.2.2.2.1 _ k_2051) rfl d_Model_shippedStep_94 ?_
      refine mv_iload_n (pc := 97) B d_Model_shippedStep_97 rfl 1 rfl ?_
      obtain ⟨u23, g22, eg22, hf⟩ := xhb_e hf
      refine mv_callSi (pc := 98) (n := 1) B (mK_ok sk sv) hNs (ch_Model_immJ l hi _ _ eg22) rfl (ma_goodc kc_Model_immJ) (B.2.2.2.1 _ k_2452) (B.2.2.2.1 _ k_2453) (B.2.2.2.1 _ k_12) ⟨by decide +kernel, by decide +kernel, by decide +kernel⟩ rfl d_Model_shippedStep_98 rfl (Nat.le_of_ble_eq_true rfl) ⟨by first | decide | (dsimp only; omega), by first | decide | (dsimp only; omega)⟩ ⟨Nat.le_refl _, Nat.le_refl _⟩ ⟨Nat.le_refl _, Nat.le_refl _⟩ (mv_noH hno _) (fun w98 σ98 h98 => ?_)
      obtain ⟨rfl, rfl, s_g22⟩ := h98
      have r_g22 : mv_r g22 = mv_r h := s_g22.trans r_hz
      refine mv_iadd (pc := 101) B d_Model_shippedStep_101 ?_
      refine mv_goto (pc := 102) (tgt := 115) B d_Model_shippedStep_102 rfl ?_
      refine mv_lpick [0, 3, 4] rfl ?_
      exact jn115 _ _ _ _ r_g22 hf
  unfold f_Model_shippedStep at hf
  refine mv_iload_n (pc := 0) B d_Model_shippedStep_0 rfl 1 rfl ?_
  obtain ⟨u25, g24, eg24, hf⟩ := xhb_e hf
  refine mv_callSi (pc := 1) (n := 1) B (mK_ok sk sv) hNs (ch_Model_shippedOp l hi _ _ eg24) rfl (ma_goodc kc_Model_shippedOp) (B.2.2.2.1 _ k_2357) (B.2.2.2.1 _ k_2358) (B.2.2.2.1 _ k_12) ⟨by decide +kernel, by decide +kernel, by decide +kernel⟩ rfl d_Model_shippedStep_1 rfl (Nat.le_of_ble_eq_true rfl) ⟨by first | decide | (dsimp only; omega), by first | decide | (dsimp only; omega)⟩ ⟨Nat.le_refl _, Nat.le_refl _⟩ ⟨Nat.le_refl _, Nat.le_refl _⟩ (mv_noH hno _) (fun w1 σ1 h1 => ?_)
  obtain ⟨rfl, rfl, s_g24⟩ := h1
  have r_g24 : mv_r g24 = mv_r h := s_g24.trans rfl
  refine mv_istore_n (pc := 4) B d_Model_shippedStep_4 rfl (by decide) rfl ?_
  refine mv_aload_n (pc := 5) B d_Model_shippedStep_5 rfl 1 rfl ?_
  refine mv_getI (pc := 6) (ci := 11) (C := R_Model) (T := F_Model) (N := 16) B 6 rfl rfl (by decide) i_Model (B.2.2.2.1 _ k_2051) rfl d_Model_shippedStep_6 ?_
  refine mv_istore_n (pc := 9) B d_Model_shippedStep_9 rfl (by decide) rfl ?_
  refine mv_iload_n (pc := 10) B d_Model_shippedStep_10 rfl 3 rfl ?_
  refine mv_bipush (pc := 11) (v := 11) B d_Model_shippedStep_11 (by decide) ?_
  refine mv_bipush (pc := 13) (v := 7) B d_Model_shippedStep_13 (by decide) ?_
  obtain ⟨u27, g26, eg26, hf⟩ := xhb_e hf
  refine mv_callSi (pc := 15) (n := 3) B (mK_ok sk sv) hNs (ch_Model_piece l hi _ _ _ _ eg26) rfl (ma_goodc kc_Model_piece) (B.2.2.2.1 _ k_2360) (B.2.2.2.1 _ k_2361) (B.2.2.2.1 _ k_12) ⟨by decide +kernel, by decide +kernel, by decide +kernel⟩ rfl d_Model_shippedStep_15 rfl (Nat.le_of_ble_eq_true rfl) ⟨by first | decide | (dsimp only; omega), by first | decide | (dsimp only; omega)⟩ ⟨Nat.le_refl _, Nat.le_refl _⟩ ⟨Nat.le_refl _, Nat.le_refl _⟩ (mv_noH hno _) (fun w15 σ15 h15 => ?_)
  obtain ⟨rfl, rfl, s_g26⟩ := h15
  have r_g26 : mv_r g26 = mv_r h := s_g26.trans r_g24
  refine mv_istore (pc := 18) B d_Model_shippedStep_18 (by decide) rfl ?_
  refine mv_aload_n (pc := 20) B d_Model_shippedStep_20 rfl 3 rfl ?_
  refine mv_getR (pc := 21) (ci := 11) (C := R_Model) (T := F_Model) (N := 16) B 7 rfl rfl (by decide) i_Model (B.2.2.2.1 _ k_2052) rfl ((congrFun (congrFun r_g26 70) 7).trans (hb.1 70 7 _ rfl)) d_Model_shippedStep_21 ?_
  refine mv_iload_n (pc := 24) B d_Model_shippedStep_24 rfl 4 rfl ?_
  refine mv_bipush (pc := 25) (v := 19) B d_Model_shippedStep_25 (by decide) ?_
  refine mv_bipush (pc := 27) (v := 15) B d_Model_shippedStep_27 (by decide) ?_
  obtain ⟨u29, g28, eg28, hf⟩ := xhb_e hf
  refine mv_callSi (pc := 29) (n := 3) B (mK_ok sk sv) hNs (ch_Model_piece l hi _ _ _ _ eg28) rfl (ma_goodc kc_Model_piece) (B.2.2.2.1 _ k_2360) (B.2.2.2.1 _ k_2361) (B.2.2.2.1 _ k_12) ⟨by decide +kernel, by decide +kernel, by decide +kernel⟩ rfl d_Model_shippedStep_29 rfl (Nat.le_of_ble_eq_true rfl) ⟨by first | decide | (dsimp only; omega), by first | decide | (dsimp only; omega)⟩ ⟨Nat.le_refl _, Nat.le_refl _⟩ ⟨Nat.le_refl _, Nat.le_refl _⟩ (mv_noH hno _) (fun w29 σ29 h29 => ?_)
  obtain ⟨rfl, rfl, s_g28⟩ := h29
  have r_g28 : mv_r g28 = mv_r h := s_g28.trans r_g26
  obtain ⟨q30, hf⟩ := xvi_e hf
  refine mv_iald (pc := 32) B rfl q30 d_Model_shippedStep_32 ?_
  refine mv_istore (pc := 33) B d_Model_shippedStep_33 (by decide) rfl ?_
  refine mv_aload_n (pc := 35) B d_Model_shippedStep_35 rfl 4 rfl ?_
  refine mv_getR (pc := 36) (ci := 11) (C := R_Model) (T := F_Model) (N := 16) B 7 rfl rfl (by decide) i_Model (B.2.2.2.1 _ k_2052) rfl ((congrFun (congrFun r_g28 70) 7).trans (hb.1 70 7 _ rfl)) d_Model_shippedStep_36 ?_
  refine mv_iload_n (pc := 39) B d_Model_shippedStep_39 rfl 5 rfl ?_
  refine mv_bipush (pc := 40) (v := 24) B d_Model_shippedStep_40 (by decide) ?_
  refine mv_bipush (pc := 42) (v := 20) B d_Model_shippedStep_42 (by decide) ?_
  obtain ⟨u32, g31, eg31, hf⟩ := xhb_e hf
  refine mv_callSi (pc := 44) (n := 3) B (mK_ok sk sv) hNs (ch_Model_piece l hi _ _ _ _ eg31) rfl (ma_goodc kc_Model_piece) (B.2.2.2.1 _ k_2360) (B.2.2.2.1 _ k_2361) (B.2.2.2.1 _ k_12) ⟨by decide +kernel, by decide +kernel, by decide +kernel⟩ rfl d_Model_shippedStep_44 rfl (Nat.le_of_ble_eq_true rfl) ⟨by first | decide | (dsimp only; omega), by first | decide | (dsimp only; omega)⟩ ⟨Nat.le_refl _, Nat.le_refl _⟩ ⟨Nat.le_refl _, Nat.le_refl _⟩ (mv_noH hno _) (fun w44 σ44 h44 => ?_)
  obtain ⟨rfl, rfl, s_g31⟩ := h44
  have r_g31 : mv_r g31 = mv_r h := s_g31.trans r_g28
  obtain ⟨q33, hf⟩ := xvi_e hf
  refine mv_iald (pc := 47) B rfl q33 d_Model_shippedStep_47 ?_
  refine mv_istore (pc := 48) B d_Model_shippedStep_48 (by decide) rfl ?_
  refine mv_iconst (pc := 50) (v := 0) B d_Model_shippedStep_50 (by decide) ?_
  refine mv_istore (pc := 51) B d_Model_shippedStep_51 (by decide) rfl ?_
  refine mv_iload_n (pc := 53) B d_Model_shippedStep_53 rfl 5 rfl ?_
  refine mv_if_ge (pc := 54) (tgt := 60) B d_Model_shippedStep_54 rfl (fun h54 => ?_) (fun h54 => ?_)
  · skip
    have hf := xif_t h54 hf
    refine mv_iload_n (pc := 60) B d_Model_shippedStep_60 rfl 5 rfl ?_
    refine mv_bipush (pc := 61) (v := 38) B d_Model_shippedStep_61 (by decide) ?_
    refine mv_icmp_ne (pc := 63) (tgt := 69) B d_Model_shippedStep_63 rfl (fun h63 => ?_) (fun h63 => ?_)
    · skip
      have hf := xif_f h63 hf
      refine mv_iload_n (pc := 69) B d_Model_shippedStep_69 rfl 5 rfl ?_
      refine mv_bipush (pc := 70) (v := 39) B d_Model_shippedStep_70 (by decide) ?_
      refine mv_icmp_ne (pc := 72) (tgt := 77) B d_Model_shippedStep_72 rfl (fun h72 => ?_) (fun h72 => ?_)
      · skip
        have hf := xif_f h72 hf
        refine mv_iload_n (pc := 77) B d_Model_shippedStep_77 rfl 5 rfl ?_
        refine mv_iconst (pc := 78) (v := 2) B d_Model_shippedStep_78 (by decide) ?_
        refine mv_icmp_eq (pc := 79) (tgt := 87) B d_Model_shippedStep_79 rfl (fun h79 => ?_) (fun h79 => ?_)
        · skip
          have hf := xif_t h79 hf
          refine mv_lpick [6, 7, 5, 4, 3, 2] rfl ?_
          exact jn87 _ _ _ _ _ _ r_g31 hf
        · skip
          have hf := xif_f h79 hf
          refine mv_iload_n (pc := 82) B d_Model_shippedStep_82 rfl 5 rfl ?_
          refine mv_iconst (pc := 83) (v := 3) B d_Model_shippedStep_83 (by decide) ?_
          refine mv_icmp_ne (pc := 84) (tgt := 137) B d_Model_shippedStep_84 rfl (fun h84 => ?_) (fun h84 => ?_)
          · skip
            have hf := xif_f h84 hf
            refine mv_iload_n (pc := 137) B d_Model_shippedStep_137 rfl 5 rfl ?_
            refine mv_iconst (pc := 138) (v := 4) B d_Model_shippedStep_138 (by decide) ?_
            refine mv_icmp_lt (pc := 139) (tgt := 173) B d_Model_shippedStep_139 rfl (fun h139 => ?_) (fun h139 => ?_)
            · skip
              have hf := xif_t h139 hf
              refine mv_lpick [6, 7, 5, 4, 3, 2, 1, 0] rfl ?_
              exact jn173 _ _ _ _ _ _ _ _ r_g31 hf
            · skip
              have hf := xif_f h139 hf
              refine mv_iload_n (pc := 142) B d_Model_shippedStep_142 rfl 5 rfl ?_
              refine mv_bipush (pc := 143) (v := 9) B d_Model_shippedStep_143 (by decide) ?_
              refine mv_icmp_gt (pc := 145) (tgt := 173) B d_Model_shippedStep_145 rfl (fun h145 => ?_) (fun h145 => ?_)
              · skip
                have hf := xif_t h145 hf
                refine mv_lpick [6, 7, 5, 4, 3, 2, 1, 0] rfl ?_
                exact jn173 _ _ _ _ _ _ _ _ r_g31 hf
              · skip
                have hf := xif_f h145 hf
                refine mv_iload_n (pc := 148) B d_Model_shippedStep_148 rfl 5 rfl ?_
                refine mv_iload (pc := 149) B d_Model_shippedStep_149 2 rfl ?_
                refine mv_iload (pc := 151) B d_Model_shippedStep_151 1 rfl ?_
                obtain ⟨u35, g34, eg34, hf⟩ := xhb_e hf
                refine mv_callSi (pc := 153) (n := 3) B (mK_ok sk sv) hNs (ch_Model_taken l hi _ _ _ _ eg34) rfl (ma_goodc kc_Model_taken) (B.2.2.2.1 _ k_2462) (B.2.2.2.1 _ k_2463) (B.2.2.2.1 _ k_12) ⟨by decide +kernel, by decide +kernel, by decide +kernel⟩ rfl d_Model_shippedStep_153 rfl (Nat.le_of_ble_eq_true rfl) ⟨by first | decide | (dsimp only; omega), by first | decide | (dsimp only; omega)⟩ ⟨Nat.le_refl _, Nat.le_refl _⟩ ⟨Nat.le_refl _, Nat.le_refl _⟩ (mv_noH hno _) (fun w153 σ153 h153 => ?_)
                obtain ⟨rfl, rfl, s_g34⟩ := h153
                have r_g34 : mv_r g34 = mv_r h := s_g34.trans r_g31
                refine mv_if_eq (pc := 156) (tgt := 294) B d_Model_shippedStep_156 rfl (fun h156 => ?_) (fun h156 => ?_)
                · skip
                  have hf := xif_t h156 hf
                  refine mv_lpick [6, 4, 0] rfl ?_
                  exact jn294 _ _ _ r_g34 hf
                · skip
                  have hf := xif_f h156 hf
                  refine mv_aload_n (pc := 159) B d_Model_shippedStep_159 rfl 6 rfl ?_
                  refine mv_aload_n (pc := 160) B d_Model_shippedStep_160 rfl 6 rfl ?_
                  refine mv_getI (pc := 161) (ci := 11) (C := R_Model) (T := F_Model) (N := 16) B 6 rfl rfl (by decide) i_Model (B.2.2.2.1 _ k_2051) rfl d_Model_shippedStep_161 ?_
                  refine mv_iload_n (pc := 164) B d_Model_shippedStep_164 rfl 7 rfl ?_
                  obtain ⟨u37, g36, eg36, hf⟩ := xhb_e hf
                  refine mv_callSi (pc := 165) (n := 1) B (mK_ok sk sv) hNs (ch_Model_immB l hi _ _ eg36) rfl (ma_goodc kc_Model_immB) (B.2.2.2.1 _ k_2469) (B.2.2.2.1 _ k_2470) (B.2.2.2.1 _ k_12) ⟨by decide +kernel, by decide +kernel, by decide +kernel⟩ rfl d_Model_shippedStep_165 rfl (Nat.le_of_ble_eq_true rfl) ⟨by first | decide | (dsimp only; omega), by first | decide | (dsimp only; omega)⟩ ⟨Nat.le_refl _, Nat.le_refl _⟩ ⟨Nat.le_refl _, Nat.le_refl _⟩ (mv_noH hno _) (fun w165 σ165 h165 => ?_)
                  obtain ⟨rfl, rfl, s_g36⟩ := h165
                  have r_g36 : mv_r g36 = mv_r h := s_g36.trans r_g34
                  refine mv_iadd (pc := 168) B d_Model_shippedStep_168 ?_
                  obtain ⟨u39, g38, eg38, hf⟩ := xhb_e hf
                  refine mv_callVi (pc := 169) (n := 1) (ci := 11) (C := R_Model) B (mK_ok sk sv) hNs rfl rfl (ch_Model_jump_y l hi _ (⟨xrw r_g36 hb.1, (congrFun (congrFun r_g36 70) 9).trans hb.2⟩) _ eg38) rfl (ma_goodc kc_Model_jump) (B.2.2.2.1 _ k_2458) (B.2.2.2.1 _ k_2460) (B.2.2.2.1 _ ks_127) (B.2.2.2.1 _ k_12) ⟨by decide +kernel, by decide +kernel, by decide +kernel⟩ rfl d_Model_shippedStep_169 rfl (Nat.le_of_ble_eq_true rfl) ⟨by first | decide | (dsimp only; omega), by first | decide | (dsimp only; omega)⟩ ⟨Nat.le_refl _, Nat.le_refl _⟩ ⟨Nat.le_refl _, Nat.le_refl _⟩ (mv_noH hno _) (fun w169 σ169 h169 => ?_)
                  obtain ⟨rfl, rfl, s_g38⟩ := h169
                  have r_g38 : mv_r g38 = mv_r h := s_g38.trans r_g36
                  exact mv_iret (pc := 172) B hr rfl d_Model_shippedStep_172 (Nat.le_refl _) (Nat.le_refl _) ⟨_, rfl, xrh_i hf r_g38⟩
          · skip
            have hf := xif_t h84 hf
            refine mv_lpick [6, 7, 5, 4, 3, 2] rfl ?_
            exact jn87 _ _ _ _ _ _ r_g31 hf
      · skip
        have hf := xif_t h72 hf
        refine mv_iconst (pc := 75) (v := 3) B d_Model_shippedStep_75 (by decide) ?_
        exact mv_iret (pc := 76) B hr rfl d_Model_shippedStep_76 (Nat.le_refl _) (Nat.le_refl _) ⟨_, rfl, xrh_i hf r_g31⟩
    · skip
      have hf := xif_t h63 hf
      refine mv_bipush (pc := 66) (v := 8) B d_Model_shippedStep_66 (by decide) ?_
      exact mv_iret (pc := 68) B hr rfl d_Model_shippedStep_68 (Nat.le_refl _) (Nat.le_refl _) ⟨_, rfl, xrh_i hf r_g31⟩
  · skip
    have hf := xif_f h54 hf
    refine mv_bipush (pc := 57) (v := -2) B d_Model_shippedStep_57 (by decide) ?_
    exact mv_iret (pc := 59) B hr rfl d_Model_shippedStep_59 (Nat.le_refl _) (Nat.le_refl _) ⟨_, rfl, xrh_i hf r_g31⟩
def f_Model_told (P : Nat) (h : mv_H) (a0 : Int32) : Option mv_H := xk (mv_si h 70 14 a0) fun g1 => if a0 = (0 : Int32) then (xk (mv_si g1 70 12 ((mv_i g1 70 12) + (1 : Int32))) fun g3 => some g3) else (xk (mv_si g1 70 13 ((mv_i g1 70 13) + (1 : Int32))) fun g2 => some g2)
set_option maxHeartbeats 4000000 in
set_option maxRecDepth 100000 in
theorem ch_Model_told_x (l : Launch) {dA : FieldType → ClassId} {D : va_G} {al : Nat → Nat} {ext : mv_Sh} {sk sv : Nat → Nat} (hi : mv_inj (mg dA D al ext)) (h : mv_H) (hb : mh (mv_r h) ∧ mv_r h 70 9 = some 74)  (a0 : Int32) {rg : mv_H} (hf : f_Model_told 74 h a0 = some rg) : mv_C l y_Model_told (Cond.code y_Model_told b_Model_told 2 (Option.none : Option Jvm.ClassFile.FieldType) :: ma) ({ frames := 0, cells := 0, slots := 0, locals := 0 }) (mg dA D al ext) (mK sk sv) [.ref (al 70), .int a0] h (mv_Rv (fun σ1 => rg = σ1 ∧ mv_r σ1 = mv_r h)) := by
  refine mv_C.ofV (cc := b_Model_told) (nL := 2) (ret := (Option.none : Option Jvm.ClassFile.FieldType)) (by decide +kernel) rfl hi (Nat.le_of_ble_eq_true rfl) ?_
  intro p e s m below meth c B hNs hr hnm hno
  unfold f_Model_told at hf
  refine mv_aload_n (pc := 0) B d_Model_told_0 rfl 0 rfl ?_
  refine mv_iload_n (pc := 1) B d_Model_told_1 rfl 1 rfl ?_
  refine mv_putI (pc := 2) (ci := 11) (C := R_Model) (T := F_Model) (N := 16) B 14 rfl rfl (by decide) i_Model t_Model_ok n_Model (B.2.2.2.1 _ k_2059) rfl rfl rfl rfl d_Model_told_2 ?_
  refine mvh_hp (R9 := mv_r h) hf rfl (fun g1 hf r_g1 => ?_)
  refine mv_iload_n (pc := 5) B d_Model_told_5 rfl 1 rfl ?_
  refine mv_if_ne (pc := 6) (tgt := 22) B d_Model_told_6 rfl (fun h6 => ?_) (fun h6 => ?_)
  · skip
    have hf := xif_f h6 hf
    refine mv_aload_n (pc := 22) B d_Model_told_22 rfl 0 rfl ?_
    refine mv_dup (pc := 23) B d_Model_told_23 rfl ?_
    refine mv_getI (pc := 24) (ci := 11) (C := R_Model) (T := F_Model) (N := 16) B 13 rfl rfl (by decide) i_Model (B.2.2.2.1 _ k_2058) rfl d_Model_told_24 ?_
    refine mv_iconst (pc := 27) (v := 1) B d_Model_told_27 (by decide) ?_
    refine mv_iadd (pc := 28) B d_Model_told_28 ?_
    refine mv_putI (pc := 29) (ci := 11) (C := R_Model) (T := F_Model) (N := 16) B 13 rfl rfl (by decide) i_Model t_Model_ok n_Model (B.2.2.2.1 _ k_2058) rfl rfl rfl rfl d_Model_told_29 ?_
    refine mvh_hp (R9 := mv_r h) hf r_g1 (fun g2 hf r_g2 => ?_)
    exact mv_vret (pc := 32) B hr d_Model_told_32 (Nat.le_refl _) (Nat.le_refl _) ⟨rfl, xrh_v hf r_g2⟩
  · skip
    have hf := xif_t h6 hf
    refine mv_aload_n (pc := 9) B d_Model_told_9 rfl 0 rfl ?_
    refine mv_dup (pc := 10) B d_Model_told_10 rfl ?_
    refine mv_getI (pc := 11) (ci := 11) (C := R_Model) (T := F_Model) (N := 16) B 12 rfl rfl (by decide) i_Model (B.2.2.2.1 _ k_2057) rfl d_Model_told_11 ?_
    refine mv_iconst (pc := 14) (v := 1) B d_Model_told_14 (by decide) ?_
    refine mv_iadd (pc := 15) B d_Model_told_15 ?_
    refine mv_putI (pc := 16) (ci := 11) (C := R_Model) (T := F_Model) (N := 16) B 12 rfl rfl (by decide) i_Model t_Model_ok n_Model (B.2.2.2.1 _ k_2057) rfl rfl rfl rfl d_Model_told_16 ?_
    refine mvh_hp (R9 := mv_r h) hf r_g1 (fun g3 hf r_g3 => ?_)
    refine mv_goto (pc := 19) (tgt := 32) B d_Model_told_19 rfl ?_
    exact mv_vret (pc := 32) B hr d_Model_told_32 (Nat.le_refl _) (Nat.le_refl _) ⟨rfl, xrh_v hf r_g3⟩
set_option maxHeartbeats 4000000 in
set_option maxRecDepth 100000 in
theorem ch_Model_told_y (l : Launch) {dA : FieldType → ClassId} {D : va_G} {al : Nat → Nat} {ext : mv_Sh} {sk sv : Nat → Nat} (hi : mv_inj (mg dA D al ext)) (h : mv_H) (hb : mh (mv_r h) ∧ mv_r h 70 9 = some 108)  (a0 : Int32) {rg : mv_H} (hf : f_Model_told 108 h a0 = some rg) : mv_C l y_Model_told (Cond.code y_Model_told b_Model_told 2 (Option.none : Option Jvm.ClassFile.FieldType) :: ma) ({ frames := 0, cells := 0, slots := 0, locals := 0 }) (mg dA D al ext) (mK sk sv) [.ref (al 70), .int a0] h (mv_Rv (fun σ1 => rg = σ1 ∧ mv_r σ1 = mv_r h)) := by
  refine mv_C.ofV (cc := b_Model_told) (nL := 2) (ret := (Option.none : Option Jvm.ClassFile.FieldType)) (by decide +kernel) rfl hi (Nat.le_of_ble_eq_true rfl) ?_
  intro p e s m below meth c B hNs hr hnm hno
  unfold f_Model_told at hf
  refine mv_aload_n (pc := 0) B d_Model_told_0 rfl 0 rfl ?_
  refine mv_iload_n (pc := 1) B d_Model_told_1 rfl 1 rfl ?_
  refine mv_putI (pc := 2) (ci := 11) (C := R_Model) (T := F_Model) (N := 16) B 14 rfl rfl (by decide) i_Model t_Model_ok n_Model (B.2.2.2.1 _ k_2059) rfl rfl rfl rfl d_Model_told_2 ?_
  refine mvh_hp (R9 := mv_r h) hf rfl (fun g1 hf r_g1 => ?_)
  refine mv_iload_n (pc := 5) B d_Model_told_5 rfl 1 rfl ?_
  refine mv_if_ne (pc := 6) (tgt := 22) B d_Model_told_6 rfl (fun h6 => ?_) (fun h6 => ?_)
  · skip
    have hf := xif_f h6 hf
    refine mv_aload_n (pc := 22) B d_Model_told_22 rfl 0 rfl ?_
    refine mv_dup (pc := 23) B d_Model_told_23 rfl ?_
    refine mv_getI (pc := 24) (ci := 11) (C := R_Model) (T := F_Model) (N := 16) B 13 rfl rfl (by decide) i_Model (B.2.2.2.1 _ k_2058) rfl d_Model_told_24 ?_
    refine mv_iconst (pc := 27) (v := 1) B d_Model_told_27 (by decide) ?_
    refine mv_iadd (pc := 28) B d_Model_told_28 ?_
    refine mv_putI (pc := 29) (ci := 11) (C := R_Model) (T := F_Model) (N := 16) B 13 rfl rfl (by decide) i_Model t_Model_ok n_Model (B.2.2.2.1 _ k_2058) rfl rfl rfl rfl d_Model_told_29 ?_
    refine mvh_hp (R9 := mv_r h) hf r_g1 (fun g2 hf r_g2 => ?_)
    exact mv_vret (pc := 32) B hr d_Model_told_32 (Nat.le_refl _) (Nat.le_refl _) ⟨rfl, xrh_v hf r_g2⟩
  · skip
    have hf := xif_t h6 hf
    refine mv_aload_n (pc := 9) B d_Model_told_9 rfl 0 rfl ?_
    refine mv_dup (pc := 10) B d_Model_told_10 rfl ?_
    refine mv_getI (pc := 11) (ci := 11) (C := R_Model) (T := F_Model) (N := 16) B 12 rfl rfl (by decide) i_Model (B.2.2.2.1 _ k_2057) rfl d_Model_told_11 ?_
    refine mv_iconst (pc := 14) (v := 1) B d_Model_told_14 (by decide) ?_
    refine mv_iadd (pc := 15) B d_Model_told_15 ?_
    refine mv_putI (pc := 16) (ci := 11) (C := R_Model) (T := F_Model) (N := 16) B 12 rfl rfl (by decide) i_Model t_Model_ok n_Model (B.2.2.2.1 _ k_2057) rfl rfl rfl rfl d_Model_told_16 ?_
    refine mvh_hp (R9 := mv_r h) hf r_g1 (fun g3 hf r_g3 => ?_)
    refine mv_goto (pc := 19) (tgt := 32) B d_Model_told_19 rfl ?_
    exact mv_vret (pc := 32) B hr d_Model_told_32 (Nat.le_refl _) (Nat.le_refl _) ⟨rfl, xrh_v hf r_g3⟩
def f_Model_decode_44 (P : Nat) (hz : mv_H) : Option (Int32 × mv_H) := xhb (f_Book_op P hz) fun u2 g1 => some (u2, g1)
def f_Model_decode (P : Nat) (h : mv_H) (a0 : Int64) : Option (Int32 × mv_H) := xk (mv_si h 70 2 (0 : Int32)) fun g3 => if (mv_i g3 70 11) = (0 : Int32) then (xhb (f_Book_decode P g3 a0) fun u5 g4 => if u5 ≤ (1 : Int32) then (f_Model_decode_44 P  g4) else (xk (mv_si g4 70 15 ((mv_i g4 70 15) + (u5 - (1 : Int32)))) fun g6 => f_Model_decode_44 P  g6)) else (xhb (f_Model_shippedOp g3 ((a0).toInt32)) fun u8 g7 => some (u8, g7))
set_option maxHeartbeats 4000000 in
set_option maxRecDepth 100000 in
theorem ch_Model_decode_x (l : Launch) {dA : FieldType → ClassId} {D : va_G} {al : Nat → Nat} {ext : mv_Sh} {sk sv : Nat → Nat} (hi : mv_inj (mg dA D al ext)) (h : mv_H) (hb : mh (mv_r h) ∧ mv_r h 70 9 = some 74)  (a0 : Int64) {rv : Int32} {rg : mv_H} (hf : f_Model_decode 74 h a0 = some (rv, rg)) : mv_C l y_Model_decode (Cond.code y_Model_decode b_Model_decode 4 (Option.some Jvm.ClassFile.FieldType.int) :: ma) ({ frames := 2, cells := 0, slots := 0, locals := 49 }) (mg dA D al ext) (mK sk sv) [.ref (al 70), .long a0] h (mv_Ri (fun v σ1 => rv = v ∧ rg = σ1 ∧ mv_r σ1 = mv_r h)) := by
  refine mv_C.ofV (cc := b_Model_decode) (nL := 4) (ret := (Option.some Jvm.ClassFile.FieldType.int)) (by decide +kernel) rfl hi (Nat.le_of_ble_eq_true rfl) ?_
  intro p e s m below meth c B hNs hr hnm hno
  have jn44 : ∀ (hz : mv_H), mv_r hz = mv_r h → f_Model_decode_44 74  hz = some (rv, rg) → mv_V p l e ({ frames := 2, cells := 0, slots := 0, locals := 49 }) s m ([.ref (al 70), .long a0] : List Value).toArray below meth c (mg dA D al ext) 4 0 0 (mv_Q (mg dA D al ext) below s 0 0 (mv_Ri (fun v σ1 => rv = v ∧ rg = σ1 ∧ mv_r σ1 = mv_r h))) hz 44 [(0, .ref (al 70))] [] := by
    intro  hz r_hz hf
    unfold f_Model_decode_44 at hf
    refine mv_aload_n (pc := 44) B d_Model_decode_44 rfl 0 rfl ?_
    refine mv_getR (pc := 45) (ci := 11) (C := R_Model) (T := F_Model) (N := 16) B 9 rfl rfl (by decide) i_Model (B.2.2.2.1 _ k_2054) rfl ((congrFun (congrFun r_hz 70) 9).trans hb.2) d_Model_decode_45 ?_
    obtain ⟨u2, g1, eg1, hf⟩ := xhb_e hf
    refine mv_callVi (pc := 48) (n := 0) (ci := 12) (C := R_Book) B (mK_ok sk sv) hNs rfl rfl (ch_Book_op_x l hi _ (xrw r_hz hb.1) eg1) rfl (ma_goodc kc_Book_op) (B.2.2.2.1 _ k_2378) (B.2.2.2.1 _ k_2379) (B.2.2.2.1 _ k_2380) (B.2.2.2.1 _ k_13) ⟨by decide +kernel, by decide +kernel, by decide +kernel⟩ rfl d_Model_decode_48 rfl (Nat.le_of_ble_eq_true rfl) ⟨by first | decide | (dsimp only; omega), by first | decide | (dsimp only; omega)⟩ ⟨Nat.le_refl _, Nat.le_refl _⟩ ⟨Nat.le_refl _, Nat.le_refl _⟩ (mv_noH hno _) (fun w48 σ48 h48 => ?_)
    obtain ⟨rfl, rfl, s_g1⟩ := h48
    have r_g1 : mv_r g1 = mv_r h := s_g1.trans r_hz
    exact mv_iret (pc := 51) B hr rfl d_Model_decode_51 (Nat.le_refl _) (Nat.le_refl _) ⟨_, rfl, xrh_i hf r_g1⟩
  unfold f_Model_decode at hf
  refine mv_aload_n (pc := 0) B d_Model_decode_0 rfl 0 rfl ?_
  refine mv_iconst (pc := 1) (v := 0) B d_Model_decode_1 (by decide) ?_
  refine mv_putI (pc := 2) (ci := 11) (C := R_Model) (T := F_Model) (N := 16) B 2 rfl rfl (by decide) i_Model t_Model_ok n_Model (B.2.2.2.1 _ k_2047) rfl rfl rfl rfl d_Model_decode_2 ?_
  refine mvh_hp (R9 := mv_r h) hf rfl (fun g3 hf r_g3 => ?_)
  refine mv_aload_n (pc := 5) B d_Model_decode_5 rfl 0 rfl ?_
  refine mv_getI (pc := 6) (ci := 11) (C := R_Model) (T := F_Model) (N := 16) B 11 rfl rfl (by decide) i_Model (B.2.2.2.1 _ k_2056) rfl d_Model_decode_6 ?_
  refine mv_if_eq (pc := 9) (tgt := 18) B d_Model_decode_9 rfl (fun h9 => ?_) (fun h9 => ?_)
  · skip
    have hf := xif_t h9 hf
    refine mv_aload_n (pc := 18) B d_Model_decode_18 rfl 0 rfl ?_
    refine mv_getR (pc := 19) (ci := 11) (C := R_Model) (T := F_Model) (N := 16) B 9 rfl rfl (by decide) i_Model (B.2.2.2.1 _ k_2054) rfl ((congrFun (congrFun r_g3 70) 9).trans hb.2) d_Model_decode_19 ?_
    refine mv_lload_n (pc := 22) B d_Model_decode_22 rfl 1 rfl ?_
    obtain ⟨u5, g4, eg4, hf⟩ := xhb_e hf
    refine mv_callVi (pc := 23) (n := 1) (ci := 12) (C := R_Book) B (mK_ok sk sv) hNs rfl rfl (ch_Book_decode_x l hi _ (xrw r_g3 hb.1) _ eg4) rfl (ma_goodc kc_Book_decode) (B.2.2.2.1 _ k_2370) (B.2.2.2.1 _ k_2371) (B.2.2.2.1 _ k_2372) (B.2.2.2.1 _ k_13) ⟨by decide +kernel, by decide +kernel, by decide +kernel⟩ rfl d_Model_decode_23 rfl (Nat.le_of_ble_eq_true rfl) ⟨by first | decide | (dsimp only; omega), by first | decide | (dsimp only; omega)⟩ ⟨Nat.le_refl _, Nat.le_refl _⟩ ⟨Nat.le_refl _, Nat.le_refl _⟩ (mv_noH hno _) (fun w23 σ23 h23 => ?_)
    obtain ⟨rfl, rfl, s_g4⟩ := h23
    have r_g4 : mv_r g4 = mv_r h := s_g4.trans r_g3
    refine mv_istore_n (pc := 26) B d_Model_decode_26 rfl (by decide) rfl ?_
    refine mv_iload_n (pc := 27) B d_Model_decode_27 rfl 0 rfl ?_
    refine mv_iconst (pc := 28) (v := 1) B d_Model_decode_28 (by decide) ?_
    refine mv_icmp_le (pc := 29) (tgt := 44) B d_Model_decode_29 rfl (fun h29 => ?_) (fun h29 => ?_)
    · skip
      have hf := xif_t h29 hf
      refine mv_lpick [1] rfl ?_
      exact jn44  _ r_g4 hf
    · skip
      have hf := xif_f h29 hf
      refine mv_aload_n (pc := 32) B d_Model_decode_32 rfl 1 rfl ?_
      refine mv_dup (pc := 33) B d_Model_decode_33 rfl ?_
      refine mv_getI (pc := 34) (ci := 11) (C := R_Model) (T := F_Model) (N := 16) B 15 rfl rfl (by decide) i_Model (B.2.2.2.1 _ k_2060) rfl d_Model_decode_34 ?_
      refine mv_iload_n (pc := 37) B d_Model_decode_37 rfl 0 rfl ?_
      refine mv_iconst (pc := 38) (v := 1) B d_Model_decode_38 (by decide) ?_
      refine mv_isub (pc := 39) B d_Model_decode_39 ?_
      refine mv_iadd (pc := 40) B d_Model_decode_40 ?_
      refine mv_putI (pc := 41) (ci := 11) (C := R_Model) (T := F_Model) (N := 16) B 15 rfl rfl (by decide) i_Model t_Model_ok n_Model (B.2.2.2.1 _ k_2060) rfl rfl rfl rfl d_Model_decode_41 ?_
      refine mvh_hp (R9 := mv_r h) hf r_g4 (fun g6 hf r_g6 => ?_)
      refine mv_lpick [1] rfl ?_
      exact jn44  _ r_g6 hf
  · skip
    have hf := xif_f h9 hf
    refine mv_lload_n (pc := 12) B d_Model_decode_12 rfl 1 rfl ?_
    refine mv_l2i (pc := 13) B d_Model_decode_13 ?_
    obtain ⟨u8, g7, eg7, hf⟩ := xhb_e hf
    refine mv_callSi (pc := 14) (n := 1) B (mK_ok sk sv) hNs (ch_Model_shippedOp l hi _ _ eg7) rfl (ma_goodc kc_Model_shippedOp) (B.2.2.2.1 _ k_2357) (B.2.2.2.1 _ k_2358) (B.2.2.2.1 _ k_12) ⟨by decide +kernel, by decide +kernel, by decide +kernel⟩ rfl d_Model_decode_14 rfl (Nat.le_of_ble_eq_true rfl) ⟨by first | decide | (dsimp only; omega), by first | decide | (dsimp only; omega)⟩ ⟨Nat.le_refl _, Nat.le_refl _⟩ ⟨Nat.le_refl _, Nat.le_refl _⟩ (mv_noH hno _) (fun w14 σ14 h14 => ?_)
    obtain ⟨rfl, rfl, s_g7⟩ := h14
    have r_g7 : mv_r g7 = mv_r h := s_g7.trans r_g3
    exact mv_iret (pc := 17) B hr rfl d_Model_decode_17 (Nat.le_refl _) (Nat.le_refl _) ⟨_, rfl, xrh_i hf r_g7⟩
set_option maxHeartbeats 4000000 in
set_option maxRecDepth 100000 in
theorem ch_Model_decode_y (l : Launch) {dA : FieldType → ClassId} {D : va_G} {al : Nat → Nat} {ext : mv_Sh} {sk sv : Nat → Nat} (hi : mv_inj (mg dA D al ext)) (h : mv_H) (hb : mh (mv_r h) ∧ mv_r h 70 9 = some 108)  (a0 : Int64) {rv : Int32} {rg : mv_H} (hf : f_Model_decode 108 h a0 = some (rv, rg)) : mv_C l y_Model_decode (Cond.code y_Model_decode b_Model_decode 4 (Option.some Jvm.ClassFile.FieldType.int) :: ma) ({ frames := 2, cells := 0, slots := 0, locals := 49 }) (mg dA D al ext) (mK sk sv) [.ref (al 70), .long a0] h (mv_Ri (fun v σ1 => rv = v ∧ rg = σ1 ∧ mv_r σ1 = mv_r h)) := by
  refine mv_C.ofV (cc := b_Model_decode) (nL := 4) (ret := (Option.some Jvm.ClassFile.FieldType.int)) (by decide +kernel) rfl hi (Nat.le_of_ble_eq_true rfl) ?_
  intro p e s m below meth c B hNs hr hnm hno
  have jn44 : ∀ (hz : mv_H), mv_r hz = mv_r h → f_Model_decode_44 108  hz = some (rv, rg) → mv_V p l e ({ frames := 2, cells := 0, slots := 0, locals := 49 }) s m ([.ref (al 70), .long a0] : List Value).toArray below meth c (mg dA D al ext) 4 0 0 (mv_Q (mg dA D al ext) below s 0 0 (mv_Ri (fun v σ1 => rv = v ∧ rg = σ1 ∧ mv_r σ1 = mv_r h))) hz 44 [(0, .ref (al 70))] [] := by
    intro  hz r_hz hf
    unfold f_Model_decode_44 at hf
    refine mv_aload_n (pc := 44) B d_Model_decode_44 rfl 0 rfl ?_
    refine mv_getR (pc := 45) (ci := 11) (C := R_Model) (T := F_Model) (N := 16) B 9 rfl rfl (by decide) i_Model (B.2.2.2.1 _ k_2054) rfl ((congrFun (congrFun r_hz 70) 9).trans hb.2) d_Model_decode_45 ?_
    obtain ⟨u2, g1, eg1, hf⟩ := xhb_e hf
    refine mv_callVi (pc := 48) (n := 0) (ci := 12) (C := R_Book) B (mK_ok sk sv) hNs rfl rfl (ch_Book_op_y l hi _ (xrw r_hz hb.1) eg1) rfl (ma_goodc kc_Book_op) (B.2.2.2.1 _ k_2378) (B.2.2.2.1 _ k_2379) (B.2.2.2.1 _ k_2380) (B.2.2.2.1 _ k_13) ⟨by decide +kernel, by decide +kernel, by decide +kernel⟩ rfl d_Model_decode_48 rfl (Nat.le_of_ble_eq_true rfl) ⟨by first | decide | (dsimp only; omega), by first | decide | (dsimp only; omega)⟩ ⟨Nat.le_refl _, Nat.le_refl _⟩ ⟨Nat.le_refl _, Nat.le_refl _⟩ (mv_noH hno _) (fun w48 σ48 h48 => ?_)
    obtain ⟨rfl, rfl, s_g1⟩ := h48
    have r_g1 : mv_r g1 = mv_r h := s_g1.trans r_hz
    exact mv_iret (pc := 51) B hr rfl d_Model_decode_51 (Nat.le_refl _) (Nat.le_refl _) ⟨_, rfl, xrh_i hf r_g1⟩
  unfold f_Model_decode at hf
  refine mv_aload_n (pc := 0) B d_Model_decode_0 rfl 0 rfl ?_
  refine mv_iconst (pc := 1) (v := 0) B d_Model_decode_1 (by decide) ?_
  refine mv_putI (pc := 2) (ci := 11) (C := R_Model) (T := F_Model) (N := 16) B 2 rfl rfl (by decide) i_Model t_Model_ok n_Model (B.2.2.2.1 _ k_2047) rfl rfl rfl rfl d_Model_decode_2 ?_
  refine mvh_hp (R9 := mv_r h) hf rfl (fun g3 hf r_g3 => ?_)
  refine mv_aload_n (pc := 5) B d_Model_decode_5 rfl 0 rfl ?_
  refine mv_getI (pc := 6) (ci := 11) (C := R_Model) (T := F_Model) (N := 16) B 11 rfl rfl (by decide) i_Model (B.2.2.2.1 _ k_2056) rfl d_Model_decode_6 ?_
  refine mv_if_eq (pc := 9) (tgt := 18) B d_Model_decode_9 rfl (fun h9 => ?_) (fun h9 => ?_)
  · skip
    have hf := xif_t h9 hf
    refine mv_aload_n (pc := 18) B d_Model_decode_18 rfl 0 rfl ?_
    refine mv_getR (pc := 19) (ci := 11) (C := R_Model) (T := F_Model) (N := 16) B 9 rfl rfl (by decide) i_Model (B.2.2.2.1 _ k_2054) rfl ((congrFun (congrFun r_g3 70) 9).trans hb.2) d_Model_decode_19 ?_
    refine mv_lload_n (pc := 22) B d_Model_decode_22 rfl 1 rfl ?_
    obtain ⟨u5, g4, eg4, hf⟩ := xhb_e hf
    refine mv_callVi (pc := 23) (n := 1) (ci := 12) (C := R_Book) B (mK_ok sk sv) hNs rfl rfl (ch_Book_decode_y l hi _ (xrw r_g3 hb.1) _ eg4) rfl (ma_goodc kc_Book_decode) (B.2.2.2.1 _ k_2370) (B.2.2.2.1 _ k_2371) (B.2.2.2.1 _ k_2372) (B.2.2.2.1 _ k_13) ⟨by decide +kernel, by decide +kernel, by decide +kernel⟩ rfl d_Model_decode_23 rfl (Nat.le_of_ble_eq_true rfl) ⟨by first | decide | (dsimp only; omega), by first | decide | (dsimp only; omega)⟩ ⟨Nat.le_refl _, Nat.le_refl _⟩ ⟨Nat.le_refl _, Nat.le_refl _⟩ (mv_noH hno _) (fun w23 σ23 h23 => ?_)
    obtain ⟨rfl, rfl, s_g4⟩ := h23
    have r_g4 : mv_r g4 = mv_r h := s_g4.trans r_g3
    refine mv_istore_n (pc := 26) B d_Model_decode_26 rfl (by decide) rfl ?_
    refine mv_iload_n (pc := 27) B d_Model_decode_27 rfl 0 rfl ?_
    refine mv_iconst (pc := 28) (v := 1) B d_Model_decode_28 (by decide) ?_
    refine mv_icmp_le (pc := 29) (tgt := 44) B d_Model_decode_29 rfl (fun h29 => ?_) (fun h29 => ?_)
    · skip
      have hf := xif_t h29 hf
      refine mv_lpick [1] rfl ?_
      exact jn44  _ r_g4 hf
    · skip
      have hf := xif_f h29 hf
      refine mv_aload_n (pc := 32) B d_Model_decode_32 rfl 1 rfl ?_
      refine mv_dup (pc := 33) B d_Model_decode_33 rfl ?_
      refine mv_getI (pc := 34) (ci := 11) (C := R_Model) (T := F_Model) (N := 16) B 15 rfl rfl (by decide) i_Model (B.2.2.2.1 _ k_2060) rfl d_Model_decode_34 ?_
      refine mv_iload_n (pc := 37) B d_Model_decode_37 rfl 0 rfl ?_
      refine mv_iconst (pc := 38) (v := 1) B d_Model_decode_38 (by decide) ?_
      refine mv_isub (pc := 39) B d_Model_decode_39 ?_
      refine mv_iadd (pc := 40) B d_Model_decode_40 ?_
      refine mv_putI (pc := 41) (ci := 11) (C := R_Model) (T := F_Model) (N := 16) B 15 rfl rfl (by decide) i_Model t_Model_ok n_Model (B.2.2.2.1 _ k_2060) rfl rfl rfl rfl d_Model_decode_41 ?_
      refine mvh_hp (R9 := mv_r h) hf r_g4 (fun g6 hf r_g6 => ?_)
      refine mv_lpick [1] rfl ?_
      exact jn44  _ r_g6 hf
  · skip
    have hf := xif_f h9 hf
    refine mv_lload_n (pc := 12) B d_Model_decode_12 rfl 1 rfl ?_
    refine mv_l2i (pc := 13) B d_Model_decode_13 ?_
    obtain ⟨u8, g7, eg7, hf⟩ := xhb_e hf
    refine mv_callSi (pc := 14) (n := 1) B (mK_ok sk sv) hNs (ch_Model_shippedOp l hi _ _ eg7) rfl (ma_goodc kc_Model_shippedOp) (B.2.2.2.1 _ k_2357) (B.2.2.2.1 _ k_2358) (B.2.2.2.1 _ k_12) ⟨by decide +kernel, by decide +kernel, by decide +kernel⟩ rfl d_Model_decode_14 rfl (Nat.le_of_ble_eq_true rfl) ⟨by first | decide | (dsimp only; omega), by first | decide | (dsimp only; omega)⟩ ⟨Nat.le_refl _, Nat.le_refl _⟩ ⟨Nat.le_refl _, Nat.le_refl _⟩ (mv_noH hno _) (fun w14 σ14 h14 => ?_)
    obtain ⟨rfl, rfl, s_g7⟩ := h14
    have r_g7 : mv_r g7 = mv_r h := s_g7.trans r_g3
    exact mv_iret (pc := 17) B hr rfl d_Model_decode_17 (Nat.le_refl _) (Nat.le_refl _) ⟨_, rfl, xrh_i hf r_g7⟩
def f_Model_step_36 (P : Nat) (x3 : Int32) (y0 : Int32) (hz : mv_H) : Option (Int32 × mv_H) := xhv (f_Model_told P hz y0) fun g1 => if (0 : Int32) ≤ x3 then (some ((mv_i g1 70 14), g1)) else (some ((-2 : Int32), g1))
def f_Model_step (P : Nat) (h : mv_H) (a0 : Int64) : Option (Int32 × mv_H) := xk (mv_si h 70 2 (0 : Int32)) fun g3 => xhb (f_Model_decode P g3 a0) fun u5 g4 => if (mv_i g4 70 11) = (0 : Int32) then (xhb (f_Book_step P g4 a0) fun u7 g6 => f_Model_step_36 P u5 u7 g6) else (xhb (f_Model_shippedStep P g4 ((a0).toInt32)) fun u9 g8 => f_Model_step_36 P u5 u9 g8)
set_option maxHeartbeats 4000000 in
set_option maxRecDepth 100000 in
theorem ch_Model_step_x (l : Launch) {dA : FieldType → ClassId} {D : va_G} {al : Nat → Nat} {ext : mv_Sh} {sk sv : Nat → Nat} (hi : mv_inj (mg dA D al ext)) (h : mv_H) (hb : mh (mv_r h) ∧ mv_r h 70 9 = some 74)  (a0 : Int64) {rv : Int32} {rg : mv_H} (hf : f_Model_step 74 h a0 = some (rv, rg)) : mv_C l y_Model_step (Cond.code y_Model_step b_Model_step 4 (Option.some Jvm.ClassFile.FieldType.int) :: ma) ({ frames := 2041, cells := 0, slots := 0, locals := 61828 }) (mg dA D al ext) (mK sk sv) [.ref (al 70), .long a0] h (mv_Ri (fun v σ1 => rv = v ∧ rg = σ1 ∧ mv_r σ1 = mv_r h)) := by
  refine mv_C.ofV (cc := b_Model_step) (nL := 4) (ret := (Option.some Jvm.ClassFile.FieldType.int)) (by decide +kernel) rfl hi (Nat.le_of_ble_eq_true rfl) ?_
  intro p e s m below meth c B hNs hr hnm hno
  have jn36 : ∀ (x3 : Int32) (y0 : Int32) (hz : mv_H), mv_r hz = mv_r h → f_Model_step_36 74 x3 y0 hz = some (rv, rg) → mv_V p l e ({ frames := 2041, cells := 0, slots := 0, locals := 61828 }) s m ([.ref (al 70), .long a0] : List Value).toArray below meth c (mg dA D al ext) 4 0 0 (mv_Q (mg dA D al ext) below s 0 0 (mv_Ri (fun v σ1 => rv = v ∧ rg = σ1 ∧ mv_r σ1 = mv_r h))) hz 36 [(0, .ref (al 70)), (3, .int x3)] [.int y0, .ref (al 70)] := by
    intro x3 y0 hz r_hz hf
    unfold f_Model_step_36 at hf
    obtain ⟨g1, eg1, hf⟩ := xhv_e hf
    refine mv_callVv (pc := 36) (n := 1) (ci := 11) (C := R_Model) B (mK_ok sk sv) hNs rfl rfl (ch_Model_told_x l hi _ (⟨xrw r_hz hb.1, (congrFun (congrFun r_hz 70) 9).trans hb.2⟩) _ eg1) rfl (ma_goodc kc_Model_told) (B.2.2.2.1 _ k_2554) (B.2.2.2.1 _ k_2556) (B.2.2.2.1 _ ks_140) (B.2.2.2.1 _ k_12) ⟨by decide +kernel, by decide +kernel, by decide +kernel⟩ rfl d_Model_step_36 rfl (Nat.le_of_ble_eq_true rfl) ⟨by first | decide | (dsimp only; omega), by first | decide | (dsimp only; omega)⟩ ⟨Nat.le_refl _, Nat.le_refl _⟩ ⟨Nat.le_refl _, Nat.le_refl _⟩ (mv_noH hno _) (fun σ36 h36 => ?_)
    obtain ⟨rfl, s_g1⟩ := h36
    have r_g1 : mv_r g1 = mv_r h := s_g1.trans r_hz
    refine mv_iload_n (pc := 39) B d_Model_step_39 rfl 1 rfl ?_
    refine mv_if_ge (pc := 40) (tgt := 48) B d_Model_step_40 rfl (fun h40 => ?_) (fun h40 => ?_)
    · skip
      have hf := xif_t h40 hf
      refine mv_aload_n (pc := 48) B d_Model_step_48 rfl 0 rfl ?_
      refine mv_getI (pc := 49) (ci := 11) (C := R_Model) (T := F_Model) (N := 16) B 14 rfl rfl (by decide) i_Model (B.2.2.2.1 _ k_2059) rfl d_Model_step_49 ?_
      exact mv_iret (pc := 52) B hr rfl d_Model_step_52 (Nat.le_refl _) (Nat.le_refl _) ⟨_, rfl, xrh_i hf r_g1⟩
    · skip
      have hf := xif_f h40 hf
      refine mv_bipush (pc := 43) (v := -2) B d_Model_step_43 (by decide) ?_
      refine mv_goto (pc := 45) (tgt := 52) B d_Model_step_45 rfl ?_
      exact mv_iret (pc := 52) B hr rfl d_Model_step_52 (Nat.le_refl _) (Nat.le_refl _) ⟨_, rfl, xrh_i hf r_g1⟩
  unfold f_Model_step at hf
  refine mv_aload_n (pc := 0) B d_Model_step_0 rfl 0 rfl ?_
  refine mv_iconst (pc := 1) (v := 0) B d_Model_step_1 (by decide) ?_
  refine mv_putI (pc := 2) (ci := 11) (C := R_Model) (T := F_Model) (N := 16) B 2 rfl rfl (by decide) i_Model t_Model_ok n_Model (B.2.2.2.1 _ k_2047) rfl rfl rfl rfl d_Model_step_2 ?_
  refine mvh_hp (R9 := mv_r h) hf rfl (fun g3 hf r_g3 => ?_)
  refine mv_aload_n (pc := 5) B d_Model_step_5 rfl 0 rfl ?_
  refine mv_lload_n (pc := 6) B d_Model_step_6 rfl 1 rfl ?_
  obtain ⟨u5, g4, eg4, hf⟩ := xhb_e hf
  refine mv_callVi (pc := 7) (n := 1) (ci := 11) (C := R_Model) B (mK_ok sk sv) hNs rfl rfl (ch_Model_decode_x l hi _ (⟨xrw r_g3 hb.1, (congrFun (congrFun r_g3 70) 9).trans hb.2⟩) _ eg4) rfl (ma_goodc kc_Model_decode) (B.2.2.2.1 _ k_2447) (B.2.2.2.1 _ k_2354) (B.2.2.2.1 _ k_2355) (B.2.2.2.1 _ k_12) ⟨by decide +kernel, by decide +kernel, by decide +kernel⟩ rfl d_Model_step_7 rfl (Nat.le_of_ble_eq_true rfl) ⟨by first | decide | (dsimp only; omega), by first | decide | (dsimp only; omega)⟩ ⟨Nat.le_refl _, Nat.le_refl _⟩ ⟨Nat.le_refl _, Nat.le_refl _⟩ (mv_noH hno _) (fun w7 σ7 h7 => ?_)
  obtain ⟨rfl, rfl, s_g4⟩ := h7
  have r_g4 : mv_r g4 = mv_r h := s_g4.trans r_g3
  refine mv_istore_n (pc := 10) B d_Model_step_10 rfl (by decide) rfl ?_
  refine mv_aload_n (pc := 11) B d_Model_step_11 rfl 1 rfl ?_
  refine mv_aload_n (pc := 12) B d_Model_step_12 rfl 1 rfl ?_
  refine mv_getI (pc := 13) (ci := 11) (C := R_Model) (T := F_Model) (N := 16) B 11 rfl rfl (by decide) i_Model (B.2.2.2.1 _ k_2056) rfl d_Model_step_13 ?_
  refine mv_if_eq (pc := 16) (tgt := 28) B d_Model_step_16 rfl (fun h16 => ?_) (fun h16 => ?_)
  · skip
    have hf := xif_t h16 hf
    refine mv_aload_n (pc := 28) B d_Model_step_28 rfl 1 rfl ?_
    refine mv_getR (pc := 29) (ci := 11) (C := R_Model) (T := F_Model) (N := 16) B 9 rfl rfl (by decide) i_Model (B.2.2.2.1 _ k_2054) rfl ((congrFun (congrFun r_g4 70) 9).trans hb.2) d_Model_step_29 ?_
    refine mv_lload_n (pc := 32) B d_Model_step_32 rfl 2 rfl ?_
    obtain ⟨u7, g6, eg6, hf⟩ := xhb_e hf
    refine mv_callVi (pc := 33) (n := 1) (ci := 12) (C := R_Book) B (mK_ok sk sv) hNs rfl rfl (ch_Book_step_x l hi _ (xrw r_g4 hb.1) _ eg6) rfl (ma_goodc kc_Book_step) (B.2.2.2.1 _ k_2492) (B.2.2.2.1 _ k_2493) (B.2.2.2.1 _ k_2494) (B.2.2.2.1 _ k_13) ⟨by decide +kernel, by decide +kernel, by decide +kernel⟩ rfl d_Model_step_33 rfl (Nat.le_of_ble_eq_true rfl) ⟨by first | decide | (dsimp only; omega), by first | decide | (dsimp only; omega)⟩ ⟨Nat.le_refl _, Nat.le_refl _⟩ ⟨Nat.le_refl _, Nat.le_refl _⟩ (mv_noH hno _) (fun w33 σ33 h33 => ?_)
    obtain ⟨rfl, rfl, s_g6⟩ := h33
    have r_g6 : mv_r g6 = mv_r h := s_g6.trans r_g4
    refine mv_lpick [1, 0] rfl ?_
    exact jn36 _ _ _ r_g6 hf
  · skip
    have hf := xif_f h16 hf
    refine mv_aload_n (pc := 19) B d_Model_step_19 rfl 1 rfl ?_
    refine mv_lload_n (pc := 20) B d_Model_step_20 rfl 2 rfl ?_
    refine mv_l2i (pc := 21) B d_Model_step_21 ?_
    obtain ⟨u9, g8, eg8, hf⟩ := xhb_e hf
    refine mv_callVi (pc := 22) (n := 1) (ci := 11) (C := R_Model) B (mK_ok sk sv) hNs rfl rfl (ch_Model_shippedStep_x l hi _ (⟨xrw r_g4 hb.1, (congrFun (congrFun r_g4 70) 9).trans hb.2⟩) _ eg8) rfl (ma_goodc kc_Model_shippedStep) (B.2.2.2.1 _ k_2448) (B.2.2.2.1 _ k_2450) (B.2.2.2.1 _ ks_126) (B.2.2.2.1 _ k_12) ⟨by decide +kernel, by decide +kernel, by decide +kernel⟩ rfl d_Model_step_22 rfl (Nat.le_of_ble_eq_true rfl) ⟨by first | decide | (dsimp only; omega), by first | decide | (dsimp only; omega)⟩ ⟨Nat.le_refl _, Nat.le_refl _⟩ ⟨Nat.le_refl _, Nat.le_refl _⟩ (mv_noH hno _) (fun w22 σ22 h22 => ?_)
    obtain ⟨rfl, rfl, s_g8⟩ := h22
    have r_g8 : mv_r g8 = mv_r h := s_g8.trans r_g4
    refine mv_goto (pc := 25) (tgt := 36) B d_Model_step_25 rfl ?_
    refine mv_lpick [1, 0] rfl ?_
    exact jn36 _ _ _ r_g8 hf
set_option maxHeartbeats 4000000 in
set_option maxRecDepth 100000 in
theorem ch_Model_step_y (l : Launch) {dA : FieldType → ClassId} {D : va_G} {al : Nat → Nat} {ext : mv_Sh} {sk sv : Nat → Nat} (hi : mv_inj (mg dA D al ext)) (h : mv_H) (hb : mh (mv_r h) ∧ mv_r h 70 9 = some 108)  (a0 : Int64) {rv : Int32} {rg : mv_H} (hf : f_Model_step 108 h a0 = some (rv, rg)) : mv_C l y_Model_step (Cond.code y_Model_step b_Model_step 4 (Option.some Jvm.ClassFile.FieldType.int) :: ma) ({ frames := 2041, cells := 0, slots := 0, locals := 61828 }) (mg dA D al ext) (mK sk sv) [.ref (al 70), .long a0] h (mv_Ri (fun v σ1 => rv = v ∧ rg = σ1 ∧ mv_r σ1 = mv_r h)) := by
  refine mv_C.ofV (cc := b_Model_step) (nL := 4) (ret := (Option.some Jvm.ClassFile.FieldType.int)) (by decide +kernel) rfl hi (Nat.le_of_ble_eq_true rfl) ?_
  intro p e s m below meth c B hNs hr hnm hno
  have jn36 : ∀ (x3 : Int32) (y0 : Int32) (hz : mv_H), mv_r hz = mv_r h → f_Model_step_36 108 x3 y0 hz = some (rv, rg) → mv_V p l e ({ frames := 2041, cells := 0, slots := 0, locals := 61828 }) s m ([.ref (al 70), .long a0] : List Value).toArray below meth c (mg dA D al ext) 4 0 0 (mv_Q (mg dA D al ext) below s 0 0 (mv_Ri (fun v σ1 => rv = v ∧ rg = σ1 ∧ mv_r σ1 = mv_r h))) hz 36 [(0, .ref (al 70)), (3, .int x3)] [.int y0, .ref (al 70)] := by
    intro x3 y0 hz r_hz hf
    unfold f_Model_step_36 at hf
    obtain ⟨g1, eg1, hf⟩ := xhv_e hf
    refine mv_callVv (pc := 36) (n := 1) (ci := 11) (C := R_Model) B (mK_ok sk sv) hNs rfl rfl (ch_Model_told_y l hi _ (⟨xrw r_hz hb.1, (congrFun (congrFun r_hz 70) 9).trans hb.2⟩) _ eg1) rfl (ma_goodc kc_Model_told) (B.2.2.2.1 _ k_2554) (B.2.2.2.1 _ k_2556) (B.2.2.2.1 _ ks_140) (B.2.2.2.1 _ k_12) ⟨by decide +kernel, by decide +kernel, by decide +kernel⟩ rfl d_Model_step_36 rfl (Nat.le_of_ble_eq_true rfl) ⟨by first | decide | (dsimp only; omega), by first | decide | (dsimp only; omega)⟩ ⟨Nat.le_refl _, Nat.le_refl _⟩ ⟨Nat.le_refl _, Nat.le_refl _⟩ (mv_noH hno _) (fun σ36 h36 => ?_)
    obtain ⟨rfl, s_g1⟩ := h36
    have r_g1 : mv_r g1 = mv_r h := s_g1.trans r_hz
    refine mv_iload_n (pc := 39) B d_Model_step_39 rfl 1 rfl ?_
    refine mv_if_ge (pc := 40) (tgt := 48) B d_Model_step_40 rfl (fun h40 => ?_) (fun h40 => ?_)
    · skip
      have hf := xif_t h40 hf
      refine mv_aload_n (pc := 48) B d_Model_step_48 rfl 0 rfl ?_
      refine mv_getI (pc := 49) (ci := 11) (C := R_Model) (T := F_Model) (N := 16) B 14 rfl rfl (by decide) i_Model (B.2.2.2.1 _ k_2059) rfl d_Model_step_49 ?_
      exact mv_iret (pc := 52) B hr rfl d_Model_step_52 (Nat.le_refl _) (Nat.le_refl _) ⟨_, rfl, xrh_i hf r_g1⟩
    · skip
      have hf := xif_f h40 hf
      refine mv_bipush (pc := 43) (v := -2) B d_Model_step_43 (by decide) ?_
      refine mv_goto (pc := 45) (tgt := 52) B d_Model_step_45 rfl ?_
      exact mv_iret (pc := 52) B hr rfl d_Model_step_52 (Nat.le_refl _) (Nat.le_refl _) ⟨_, rfl, xrh_i hf r_g1⟩
  unfold f_Model_step at hf
  refine mv_aload_n (pc := 0) B d_Model_step_0 rfl 0 rfl ?_
  refine mv_iconst (pc := 1) (v := 0) B d_Model_step_1 (by decide) ?_
  refine mv_putI (pc := 2) (ci := 11) (C := R_Model) (T := F_Model) (N := 16) B 2 rfl rfl (by decide) i_Model t_Model_ok n_Model (B.2.2.2.1 _ k_2047) rfl rfl rfl rfl d_Model_step_2 ?_
  refine mvh_hp (R9 := mv_r h) hf rfl (fun g3 hf r_g3 => ?_)
  refine mv_aload_n (pc := 5) B d_Model_step_5 rfl 0 rfl ?_
  refine mv_lload_n (pc := 6) B d_Model_step_6 rfl 1 rfl ?_
  obtain ⟨u5, g4, eg4, hf⟩ := xhb_e hf
  refine mv_callVi (pc := 7) (n := 1) (ci := 11) (C := R_Model) B (mK_ok sk sv) hNs rfl rfl (ch_Model_decode_y l hi _ (⟨xrw r_g3 hb.1, (congrFun (congrFun r_g3 70) 9).trans hb.2⟩) _ eg4) rfl (ma_goodc kc_Model_decode) (B.2.2.2.1 _ k_2447) (B.2.2.2.1 _ k_2354) (B.2.2.2.1 _ k_2355) (B.2.2.2.1 _ k_12) ⟨by decide +kernel, by decide +kernel, by decide +kernel⟩ rfl d_Model_step_7 rfl (Nat.le_of_ble_eq_true rfl) ⟨by first | decide | (dsimp only; omega), by first | decide | (dsimp only; omega)⟩ ⟨Nat.le_refl _, Nat.le_refl _⟩ ⟨Nat.le_refl _, Nat.le_refl _⟩ (mv_noH hno _) (fun w7 σ7 h7 => ?_)
  obtain ⟨rfl, rfl, s_g4⟩ := h7
  have r_g4 : mv_r g4 = mv_r h := s_g4.trans r_g3
  refine mv_istore_n (pc := 10) B d_Model_step_10 rfl (by decide) rfl ?_
  refine mv_aload_n (pc := 11) B d_Model_step_11 rfl 1 rfl ?_
  refine mv_aload_n (pc := 12) B d_Model_step_12 rfl 1 rfl ?_
  refine mv_getI (pc := 13) (ci := 11) (C := R_Model) (T := F_Model) (N := 16) B 11 rfl rfl (by decide) i_Model (B.2.2.2.1 _ k_2056) rfl d_Model_step_13 ?_
  refine mv_if_eq (pc := 16) (tgt := 28) B d_Model_step_16 rfl (fun h16 => ?_) (fun h16 => ?_)
  · skip
    have hf := xif_t h16 hf
    refine mv_aload_n (pc := 28) B d_Model_step_28 rfl 1 rfl ?_
    refine mv_getR (pc := 29) (ci := 11) (C := R_Model) (T := F_Model) (N := 16) B 9 rfl rfl (by decide) i_Model (B.2.2.2.1 _ k_2054) rfl ((congrFun (congrFun r_g4 70) 9).trans hb.2) d_Model_step_29 ?_
    refine mv_lload_n (pc := 32) B d_Model_step_32 rfl 2 rfl ?_
    obtain ⟨u7, g6, eg6, hf⟩ := xhb_e hf
    refine mv_callVi (pc := 33) (n := 1) (ci := 12) (C := R_Book) B (mK_ok sk sv) hNs rfl rfl (ch_Book_step_y l hi _ (xrw r_g4 hb.1) _ eg6) rfl (ma_goodc kc_Book_step) (B.2.2.2.1 _ k_2492) (B.2.2.2.1 _ k_2493) (B.2.2.2.1 _ k_2494) (B.2.2.2.1 _ k_13) ⟨by decide +kernel, by decide +kernel, by decide +kernel⟩ rfl d_Model_step_33 rfl (Nat.le_of_ble_eq_true rfl) ⟨by first | decide | (dsimp only; omega), by first | decide | (dsimp only; omega)⟩ ⟨Nat.le_refl _, Nat.le_refl _⟩ ⟨Nat.le_refl _, Nat.le_refl _⟩ (mv_noH hno _) (fun w33 σ33 h33 => ?_)
    obtain ⟨rfl, rfl, s_g6⟩ := h33
    have r_g6 : mv_r g6 = mv_r h := s_g6.trans r_g4
    refine mv_lpick [1, 0] rfl ?_
    exact jn36 _ _ _ r_g6 hf
  · skip
    have hf := xif_f h16 hf
    refine mv_aload_n (pc := 19) B d_Model_step_19 rfl 1 rfl ?_
    refine mv_lload_n (pc := 20) B d_Model_step_20 rfl 2 rfl ?_
    refine mv_l2i (pc := 21) B d_Model_step_21 ?_
    obtain ⟨u9, g8, eg8, hf⟩ := xhb_e hf
    refine mv_callVi (pc := 22) (n := 1) (ci := 11) (C := R_Model) B (mK_ok sk sv) hNs rfl rfl (ch_Model_shippedStep_y l hi _ (⟨xrw r_g4 hb.1, (congrFun (congrFun r_g4 70) 9).trans hb.2⟩) _ eg8) rfl (ma_goodc kc_Model_shippedStep) (B.2.2.2.1 _ k_2448) (B.2.2.2.1 _ k_2450) (B.2.2.2.1 _ ks_126) (B.2.2.2.1 _ k_12) ⟨by decide +kernel, by decide +kernel, by decide +kernel⟩ rfl d_Model_step_22 rfl (Nat.le_of_ble_eq_true rfl) ⟨by first | decide | (dsimp only; omega), by first | decide | (dsimp only; omega)⟩ ⟨Nat.le_refl _, Nat.le_refl _⟩ ⟨Nat.le_refl _, Nat.le_refl _⟩ (mv_noH hno _) (fun w22 σ22 h22 => ?_)
    obtain ⟨rfl, rfl, s_g8⟩ := h22
    have r_g8 : mv_r g8 = mv_r h := s_g8.trans r_g4
    refine mv_goto (pc := 25) (tgt := 36) B d_Model_step_25 rfl ?_
    refine mv_lpick [1, 0] rfl ?_
    exact jn36 _ _ _ r_g8 hf
def f_Model_one_153 (P : Nat) (y0 : Int32) (hz : mv_H) : Option mv_H := xhv (f_Model_told P hz y0) fun g1 => some g1
def f_Model_one (P : Nat) (h : mv_H) : Option mv_H := if (mv_i h 70 11) = (0 : Int32) then (xhb (f_Book_fetchWord P h) fun u4 g3 => if u4 = (0 : Int32) then (xhv (f_Model_told P g3 (-1 : Int32)) fun g13 => some g13) else (xhb (f_Book_fetched P g3) fun u6 g5 => xhb (f_Model_decode P g5 u6) fun u8 g7 => if (0 : Int32) ≤ u8 then (xhb (f_Book_fetched P g7) fun u10 g9 => xhb (f_Book_step P g9 u10) fun u12 g11 => f_Model_one_153 P u12 g11) else (f_Model_one_153 P (-2 : Int32) g7))) else (xhb (f_Model_inMemory h (mv_i h 70 6) (4 : Int32)) fun u16 g15 => if u16 = (0 : Int32) then (xhv (f_Model_told P g15 (-1 : Int32)) fun g25 => some g25) else (bif xvi (mv_i g15 70 6) 32768 then bif xvi ((mv_i g15 70 6) + (1 : Int32)) 32768 then bif xvi ((mv_i g15 70 6) + (2 : Int32)) 32768 then bif xvi ((mv_i g15 70 6) + (3 : Int32)) 32768 then xhb (f_Model_shippedStep P g15 (((((mv_a g15 73 ((mv_i g15 70 6)).toNatClampNeg) &&& (255 : Int32)) ||| (((mv_a g15 73 (((mv_i g15 70 6) + (1 : Int32))).toNatClampNeg) &&& (255 : Int32)) <<< ((8 : Int32) &&& 31))) ||| (((mv_a g15 73 (((mv_i g15 70 6) + (2 : Int32))).toNatClampNeg) &&& (255 : Int32)) <<< ((16 : Int32) &&& 31))) ||| ((mv_a g15 73 (((mv_i g15 70 6) + (3 : Int32))).toNatClampNeg) <<< ((24 : Int32) &&& 31)))) fun u22 g21 => xhv (f_Model_told P g21 u22) fun g23 => some g23 else none else none else none else none))
set_option maxHeartbeats 4000000 in
set_option maxRecDepth 100000 in
theorem ch_Model_one_x (l : Launch) {dA : FieldType → ClassId} {D : va_G} {al : Nat → Nat} {ext : mv_Sh} {sk sv : Nat → Nat} (hi : mv_inj (mg dA D al ext)) (h : mv_H) (hb : mh (mv_r h) ∧ mv_r h 70 9 = some 74)  {rg : mv_H} (hf : f_Model_one 74 h = some rg) : mv_C l y_Model_one (Cond.code y_Model_one b_Model_one 2 (Option.none : Option Jvm.ClassFile.FieldType) :: ma) ({ frames := 2041, cells := 0, slots := 0, locals := 61828 }) (mg dA D al ext) (mK sk sv) [.ref (al 70)] h (mv_Rv (fun σ1 => rg = σ1 ∧ mv_r σ1 = mv_r h)) := by
  refine mv_C.ofV (cc := b_Model_one) (nL := 2) (ret := (Option.none : Option Jvm.ClassFile.FieldType)) (by decide +kernel) rfl hi (Nat.le_of_ble_eq_true rfl) ?_
  intro p e s m below meth c B hNs hr hnm hno
  have jn153 : ∀ (y0 : Int32) (hz : mv_H), mv_r hz = mv_r h → f_Model_one_153 74 y0 hz = some rg → mv_V p l e ({ frames := 2041, cells := 0, slots := 0, locals := 61828 }) s m ([.ref (al 70)] : List Value).toArray below meth c (mg dA D al ext) 2 0 0 (mv_Q (mg dA D al ext) below s 0 0 (mv_Rv (fun σ1 => rg = σ1 ∧ mv_r σ1 = mv_r h))) hz 153 [] [.int y0, .ref (al 70)] := by
    intro y0 hz r_hz hf
    unfold f_Model_one_153 at hf
    obtain ⟨g1, eg1, hf⟩ := xhv_e hf
    refine mv_callVv (pc := 153) (n := 1) (ci := 11) (C := R_Model) B (mK_ok sk sv) hNs rfl rfl (ch_Model_told_x l hi _ (⟨xrw r_hz hb.1, (congrFun (congrFun r_hz 70) 9).trans hb.2⟩) _ eg1) rfl (ma_goodc kc_Model_told) (B.2.2.2.1 _ k_2554) (B.2.2.2.1 _ k_2556) (B.2.2.2.1 _ ks_140) (B.2.2.2.1 _ k_12) ⟨by decide +kernel, by decide +kernel, by decide +kernel⟩ rfl d_Model_one_153 rfl (Nat.le_of_ble_eq_true rfl) ⟨by first | decide | (dsimp only; omega), by first | decide | (dsimp only; omega)⟩ ⟨Nat.le_refl _, Nat.le_refl _⟩ ⟨Nat.le_refl _, Nat.le_refl _⟩ (mv_noH hno _) (fun σ153 h153 => ?_)
    obtain ⟨rfl, s_g1⟩ := h153
    have r_g1 : mv_r g1 = mv_r h := s_g1.trans r_hz
    exact mv_vret (pc := 156) B hr d_Model_one_156 (Nat.le_refl _) (Nat.le_refl _) ⟨rfl, xrh_v hf r_g1⟩
  unfold f_Model_one at hf
  refine mv_aload_n (pc := 0) B d_Model_one_0 rfl 0 rfl ?_
  refine mv_getI (pc := 1) (ci := 11) (C := R_Model) (T := F_Model) (N := 16) B 11 rfl rfl (by decide) i_Model (B.2.2.2.1 _ k_2056) rfl d_Model_one_1 ?_
  refine mv_if_eq (pc := 4) (tgt := 101) B d_Model_one_4 rfl (fun h4 => ?_) (fun h4 => ?_)
  · skip
    have hf := xif_t h4 hf
    refine mv_aload_n (pc := 101) B d_Model_one_101 rfl 0 rfl ?_
    refine mv_getR (pc := 102) (ci := 11) (C := R_Model) (T := F_Model) (N := 16) B 9 rfl rfl (by decide) i_Model (B.2.2.2.1 _ k_2054) rfl hb.2 d_Model_one_102 ?_
    obtain ⟨u4, g3, eg3, hf⟩ := xhb_e hf
    refine mv_callVi (pc := 105) (n := 0) (ci := 12) (C := R_Book) B (mK_ok sk sv) hNs rfl rfl (ch_Book_fetchWord_x l hi _ (hb.1) eg3) rfl (ma_goodc kc_Book_fetchWord) (B.2.2.2.1 _ k_2566) (B.2.2.2.1 _ k_2567) (B.2.2.2.1 _ k_2568) (B.2.2.2.1 _ k_13) ⟨by decide +kernel, by decide +kernel, by decide +kernel⟩ rfl d_Model_one_105 rfl (Nat.le_of_ble_eq_true rfl) ⟨by first | decide | (dsimp only; omega), by first | decide | (dsimp only; omega)⟩ ⟨Nat.le_refl _, Nat.le_refl _⟩ ⟨Nat.le_refl _, Nat.le_refl _⟩ (mv_noH hno _) (fun w105 σ105 h105 => ?_)
    obtain ⟨rfl, rfl, s_g3⟩ := h105
    have r_g3 : mv_r g3 = mv_r h := s_g3.trans rfl
    refine mv_if_ne (pc := 108) (tgt := 117) B d_Model_one_108 rfl (fun h108 => ?_) (fun h108 => ?_)
    · skip
      have hf := xif_f h108 hf
      refine mv_aload_n (pc := 117) B d_Model_one_117 rfl 0 rfl ?_
      refine mv_aload_n (pc := 118) B d_Model_one_118 rfl 0 rfl ?_
      refine mv_getR (pc := 119) (ci := 11) (C := R_Model) (T := F_Model) (N := 16) B 9 rfl rfl (by decide) i_Model (B.2.2.2.1 _ k_2054) rfl ((congrFun (congrFun r_g3 70) 9).trans hb.2) d_Model_one_119 ?_
      obtain ⟨u6, g5, eg5, hf⟩ := xhb_e hf
      refine mv_callVl (pc := 122) (n := 0) (ci := 12) (C := R_Book) B (mK_ok sk sv) hNs rfl rfl (ch_Book_fetched_x l hi _ (xrw r_g3 hb.1) eg5) rfl (ma_goodc kc_Book_fetched) (B.2.2.2.1 _ k_2570) (B.2.2.2.1 _ k_2571) (B.2.2.2.1 _ k_2572) (B.2.2.2.1 _ k_13) ⟨by decide +kernel, by decide +kernel, by decide +kernel⟩ rfl d_Model_one_122 rfl (Nat.le_of_ble_eq_true rfl) ⟨by first | decide | (dsimp only; omega), by first | decide | (dsimp only; omega)⟩ ⟨Nat.le_refl _, Nat.le_refl _⟩ ⟨Nat.le_refl _, Nat.le_refl _⟩ (mv_noH hno _) (fun w122 σ122 h122 => ?_)
      obtain ⟨rfl, rfl, s_g5⟩ := h122
      have r_g5 : mv_r g5 = mv_r h := s_g5.trans r_g3
      obtain ⟨u8, g7, eg7, hf⟩ := xhb_e hf
      refine mv_callVi (pc := 125) (n := 1) (ci := 11) (C := R_Model) B (mK_ok sk sv) hNs rfl rfl (ch_Model_decode_x l hi _ (⟨xrw r_g5 hb.1, (congrFun (congrFun r_g5 70) 9).trans hb.2⟩) _ eg7) rfl (ma_goodc kc_Model_decode) (B.2.2.2.1 _ k_2447) (B.2.2.2.1 _ k_2354) (B.2.2.2.1 _ k_2355) (B.2.2.2.1 _ k_12) ⟨by decide +kernel, by decide +kernel, by decide +kernel⟩ rfl d_Model_one_125 rfl (Nat.le_of_ble_eq_true rfl) ⟨by first | decide | (dsimp only; omega), by first | decide | (dsimp only; omega)⟩ ⟨Nat.le_refl _, Nat.le_refl _⟩ ⟨Nat.le_refl _, Nat.le_refl _⟩ (mv_noH hno _) (fun w125 σ125 h125 => ?_)
      obtain ⟨rfl, rfl, s_g7⟩ := h125
      have r_g7 : mv_r g7 = mv_r h := s_g7.trans r_g5
      refine mv_istore_n (pc := 128) B d_Model_one_128 rfl (by decide) rfl ?_
      refine mv_aload_n (pc := 129) B d_Model_one_129 rfl 1 rfl ?_
      refine mv_iload_n (pc := 130) B d_Model_one_130 rfl 0 rfl ?_
      refine mv_if_ge (pc := 131) (tgt := 139) B d_Model_one_131 rfl (fun h131 => ?_) (fun h131 => ?_)
      · skip
        have hf := xif_t h131 hf
        refine mv_aload_n (pc := 139) B d_Model_one_139 rfl 1 rfl ?_
        refine mv_getR (pc := 140) (ci := 11) (C := R_Model) (T := F_Model) (N := 16) B 9 rfl rfl (by decide) i_Model (B.2.2.2.1 _ k_2054) rfl ((congrFun (congrFun r_g7 70) 9).trans hb.2) d_Model_one_140 ?_
        refine mv_aload_n (pc := 143) B d_Model_one_143 rfl 1 rfl ?_
        refine mv_getR (pc := 144) (ci := 11) (C := R_Model) (T := F_Model) (N := 16) B 9 rfl rfl (by decide) i_Model (B.2.2.2.1 _ k_2054) rfl ((congrFun (congrFun r_g7 70) 9).trans hb.2) d_Model_one_144 ?_
        obtain ⟨u10, g9, eg9, hf⟩ := xhb_e hf
        refine mv_callVl (pc := 147) (n := 0) (ci := 12) (C := R_Book) B (mK_ok sk sv) hNs rfl rfl (ch_Book_fetched_x l hi _ (xrw r_g7 hb.1) eg9) rfl (ma_goodc kc_Book_fetched) (B.2.2.2.1 _ k_2570) (B.2.2.2.1 _ k_2571) (B.2.2.2.1 _ k_2572) (B.2.2.2.1 _ k_13) ⟨by decide +kernel, by decide +kernel, by decide +kernel⟩ rfl d_Model_one_147 rfl (Nat.le_of_ble_eq_true rfl) ⟨by first | decide | (dsimp only; omega), by first | decide | (dsimp only; omega)⟩ ⟨Nat.le_refl _, Nat.le_refl _⟩ ⟨Nat.le_refl _, Nat.le_refl _⟩ (mv_noH hno _) (fun w147 σ147 h147 => ?_)
        obtain ⟨rfl, rfl, s_g9⟩ := h147
        have r_g9 : mv_r g9 = mv_r h := s_g9.trans r_g7
        obtain ⟨u12, g11, eg11, hf⟩ := xhb_e hf
        refine mv_callVi (pc := 150) (n := 1) (ci := 12) (C := R_Book) B (mK_ok sk sv) hNs rfl rfl (ch_Book_step_x l hi _ (xrw r_g9 hb.1) _ eg11) rfl (ma_goodc kc_Book_step) (B.2.2.2.1 _ k_2492) (B.2.2.2.1 _ k_2493) (B.2.2.2.1 _ k_2494) (B.2.2.2.1 _ k_13) ⟨by decide +kernel, by decide +kernel, by decide +kernel⟩ rfl d_Model_one_150 rfl (Nat.le_of_ble_eq_true rfl) ⟨by first | decide | (dsimp only; omega), by first | decide | (dsimp only; omega)⟩ ⟨Nat.le_refl _, Nat.le_refl _⟩ ⟨Nat.le_refl _, Nat.le_refl _⟩ (mv_noH hno _) (fun w150 σ150 h150 => ?_)
        obtain ⟨rfl, rfl, s_g11⟩ := h150
        have r_g11 : mv_r g11 = mv_r h := s_g11.trans r_g9
        refine mv_lpick [] rfl ?_
        exact jn153 _ _ r_g11 hf
      · skip
        have hf := xif_f h131 hf
        refine mv_bipush (pc := 134) (v := -2) B d_Model_one_134 (by decide) ?_
        refine mv_goto (pc := 136) (tgt := 153) B d_Model_one_136 rfl ?_
        refine mv_lpick [] rfl ?_
        exact jn153 _ _ r_g7 hf
    · skip
      have hf := xif_t h108 hf
      refine mv_aload_n (pc := 111) B d_Model_one_111 rfl 0 rfl ?_
      refine mv_iconst (pc := 112) (v := -1) B d_Model_one_112 (by decide) ?_
      obtain ⟨g13, eg13, hf⟩ := xhv_e hf
      refine mv_callVv (pc := 113) (n := 1) (ci := 11) (C := R_Model) B (mK_ok sk sv) hNs rfl rfl (ch_Model_told_x l hi _ (⟨xrw r_g3 hb.1, (congrFun (congrFun r_g3 70) 9).trans hb.2⟩) _ eg13) rfl (ma_goodc kc_Model_told) (B.2.2.2.1 _ k_2554) (B.2.2.2.1 _ k_2556) (B.2.2.2.1 _ ks_140) (B.2.2.2.1 _ k_12) ⟨by decide +kernel, by decide +kernel, by decide +kernel⟩ rfl d_Model_one_113 rfl (Nat.le_of_ble_eq_true rfl) ⟨by first | decide | (dsimp only; omega), by first | decide | (dsimp only; omega)⟩ ⟨Nat.le_refl _, Nat.le_refl _⟩ ⟨Nat.le_refl _, Nat.le_refl _⟩ (mv_noH hno _) (fun σ113 h113 => ?_)
      obtain ⟨rfl, s_g13⟩ := h113
      have r_g13 : mv_r g13 = mv_r h := s_g13.trans r_g3
      exact mv_vret (pc := 116) B hr d_Model_one_116 (Nat.le_refl _) (Nat.le_refl _) ⟨rfl, xrh_v hf r_g13⟩
  · skip
    have hf := xif_f h4 hf
    refine mv_aload_n (pc := 7) B d_Model_one_7 rfl 0 rfl ?_
    refine mv_getI (pc := 8) (ci := 11) (C := R_Model) (T := F_Model) (N := 16) B 6 rfl rfl (by decide) i_Model (B.2.2.2.1 _ k_2051) rfl d_Model_one_8 ?_
    refine mv_iconst (pc := 11) (v := 4) B d_Model_one_11 (by decide) ?_
    obtain ⟨u16, g15, eg15, hf⟩ := xhb_e hf
    refine mv_callSi (pc := 12) (n := 2) B (mK_ok sk sv) hNs (ch_Model_inMemory l hi _ _ _ eg15) rfl (ma_goodc kc_Model_inMemory) (B.2.2.2.1 _ k_2476) (B.2.2.2.1 _ k_2477) (B.2.2.2.1 _ k_12) ⟨by decide +kernel, by decide +kernel, by decide +kernel⟩ rfl d_Model_one_12 rfl (Nat.le_of_ble_eq_true rfl) ⟨by first | decide | (dsimp only; omega), by first | decide | (dsimp only; omega)⟩ ⟨Nat.le_refl _, Nat.le_refl _⟩ ⟨Nat.le_refl _, Nat.le_refl _⟩ (mv_noH hno _) (fun w12 σ12 h12 => ?_)
    obtain ⟨rfl, rfl, s_g15⟩ := h12
    have r_g15 : mv_r g15 = mv_r h := s_g15.trans rfl
    refine mv_if_ne (pc := 15) (tgt := 26) B d_Model_one_15 rfl (fun h15 => ?_) (fun h15 => ?_)
    · skip
      have hf := xif_f h15 hf
      refine mv_aload_n (pc := 26) B d_Model_one_26 rfl 0 rfl ?_
      refine mv_aload_n (pc := 27) B d_Model_one_27 rfl 0 rfl ?_
      refine mv_aload_n (pc := 28) B d_Model_one_28 rfl 0 rfl ?_
      refine mv_getR (pc := 29) (ci := 11) (C := R_Model) (T := F_Model) (N := 16) B 8 rfl rfl (by decide) i_Model (B.2.2.2.1 _ k_2053) rfl ((congrFun (congrFun r_g15 70) 8).trans (hb.1 70 8 _ rfl)) d_Model_one_29 ?_
      refine mv_aload_n (pc := 32) B d_Model_one_32 rfl 0 rfl ?_
      refine mv_getI (pc := 33) (ci := 11) (C := R_Model) (T := F_Model) (N := 16) B 6 rfl rfl (by decide) i_Model (B.2.2.2.1 _ k_2051) rfl d_Model_one_33 ?_
      obtain ⟨q17, hf⟩ := xvi_e hf
      refine mv_bald (pc := 36) B rfl q17 d_Model_one_36 ?_
      refine mv_sipush (pc := 37) (v := 255) B d_Model_one_37 (by decide) ?_
      refine mv_iand (pc := 40) B d_Model_one_40 ?_
      refine mv_aload_n (pc := 41) B d_Model_one_41 rfl 0 rfl ?_
      refine mv_getR (pc := 42) (ci := 11) (C := R_Model) (T := F_Model) (N := 16) B 8 rfl rfl (by decide) i_Model (B.2.2.2.1 _ k_2053) rfl ((congrFun (congrFun r_g15 70) 8).trans (hb.1 70 8 _ rfl)) d_Model_one_42 ?_
      refine mv_aload_n (pc := 45) B d_Model_one_45 rfl 0 rfl ?_
      refine mv_getI (pc := 46) (ci := 11) (C := R_Model) (T := F_Model) (N := 16) B 6 rfl rfl (by decide) i_Model (B.2.2.2.1 _ k_2051) rfl d_Model_one_46 ?_
      refine mv_iconst (pc := 49) (v := 1) B d_Model_one_49 (by decide) ?_
      refine mv_iadd (pc := 50) B d_Model_one_50 ?_
      obtain ⟨q18, hf⟩ := xvi_e hf
      refine mv_bald (pc := 51) B rfl q18 d_Model_one_51 ?_
      refine mv_sipush (pc := 52) (v := 255) B d_Model_one_52 (by decide) ?_
      refine mv_iand (pc := 55) B d_Model_one_55 ?_
      refine mv_bipush (pc := 56) (v := 8) B d_Model_one_56 (by decide) ?_
      refine mv_ishl (pc := 58) B d_Model_one_58 ?_
      refine mv_ior (pc := 59) B d_Model_one_59 ?_
      refine mv_aload_n (pc := 60) B d_Model_one_60 rfl 0 rfl ?_
      refine mv_getR (pc := 61) (ci := 11) (C := R_Model) (T := F_Model) (N := 16) B 8 rfl rfl (by decide) i_Model (B.2.2.2.1 _ k_2053) rfl ((congrFun (congrFun r_g15 70) 8).trans (hb.1 70 8 _ rfl)) d_Model_one_61 ?_
      refine mv_aload_n (pc := 64) B d_Model_one_64 rfl 0 rfl ?_
      refine mv_getI (pc := 65) (ci := 11) (C := R_Model) (T := F_Model) (N := 16) B 6 rfl rfl (by decide) i_Model (B.2.2.2.1 _ k_2051) rfl d_Model_one_65 ?_
      refine mv_iconst (pc := 68) (v := 2) B d_Model_one_68 (by decide) ?_
      refine mv_iadd (pc := 69) B d_Model_one_69 ?_
      obtain ⟨q19, hf⟩ := xvi_e hf
      refine mv_bald (pc := 70) B rfl q19 d_Model_one_70 ?_
      refine mv_sipush (pc := 71) (v := 255) B d_Model_one_71 (by decide) ?_
      refine mv_iand (pc := 74) B d_Model_one_74 ?_
      refine mv_bipush (pc := 75) (v := 16) B d_Model_one_75 (by decide) ?_
      refine mv_ishl (pc := 77) B d_Model_one_77 ?_
      refine mv_ior (pc := 78) B d_Model_one_78 ?_
      refine mv_aload_n (pc := 79) B d_Model_one_79 rfl 0 rfl ?_
      refine mv_getR (pc := 80) (ci := 11) (C := R_Model) (T := F_Model) (N := 16) B 8 rfl rfl (by decide) i_Model (B.2.2.2.1 _ k_2053) rfl ((congrFun (congrFun r_g15 70) 8).trans (hb.1 70 8 _ rfl)) d_Model_one_80 ?_
      refine mv_aload_n (pc := 83) B d_Model_one_83 rfl 0 rfl ?_
      refine mv_getI (pc := 84) (ci := 11) (C := R_Model) (T := F_Model) (N := 16) B 6 rfl rfl (by decide) i_Model (B.2.2.2.1 _ k_2051) rfl d_Model_one_84 ?_
      refine mv_iconst (pc := 87) (v := 3) B d_Model_one_87 (by decide) ?_
      refine mv_iadd (pc := 88) B d_Model_one_88 ?_
      obtain ⟨q20, hf⟩ := xvi_e hf
      refine mv_bald (pc := 89) B rfl q20 d_Model_one_89 ?_
      refine mv_bipush (pc := 90) (v := 24) B d_Model_one_90 (by decide) ?_
      refine mv_ishl (pc := 92) B d_Model_one_92 ?_
      refine mv_ior (pc := 93) B d_Model_one_93 ?_
      obtain ⟨u22, g21, eg21, hf⟩ := xhb_e hf
      refine mv_callVi (pc := 94) (n := 1) (ci := 11) (C := R_Model) B (mK_ok sk sv) hNs rfl rfl (ch_Model_shippedStep_x l hi _ (⟨xrw r_g15 hb.1, (congrFun (congrFun r_g15 70) 9).trans hb.2⟩) _ eg21) rfl (ma_goodc kc_Model_shippedStep) (B.2.2.2.1 _ k_2448) (B.2.2.2.1 _ k_2450) (B.2.2.2.1 _ ks_126) (B.2.2.2.1 _ k_12) ⟨by decide +kernel, by decide +kernel, by decide +kernel⟩ rfl d_Model_one_94 rfl (Nat.le_of_ble_eq_true rfl) ⟨by first | decide | (dsimp only; omega), by first | decide | (dsimp only; omega)⟩ ⟨Nat.le_refl _, Nat.le_refl _⟩ ⟨Nat.le_refl _, Nat.le_refl _⟩ (mv_noH hno _) (fun w94 σ94 h94 => ?_)
      obtain ⟨rfl, rfl, s_g21⟩ := h94
      have r_g21 : mv_r g21 = mv_r h := s_g21.trans r_g15
      obtain ⟨g23, eg23, hf⟩ := xhv_e hf
      refine mv_callVv (pc := 97) (n := 1) (ci := 11) (C := R_Model) B (mK_ok sk sv) hNs rfl rfl (ch_Model_told_x l hi _ (⟨xrw r_g21 hb.1, (congrFun (congrFun r_g21 70) 9).trans hb.2⟩) _ eg23) rfl (ma_goodc kc_Model_told) (B.2.2.2.1 _ k_2554) (B.2.2.2.1 _ k_2556) (B.2.2.2.1 _ ks_140) (B.2.2.2.1 _ k_12) ⟨by decide +kernel, by decide +kernel, by decide +kernel⟩ rfl d_Model_one_97 rfl (Nat.le_of_ble_eq_true rfl) ⟨by first | decide | (dsimp only; omega), by first | decide | (dsimp only; omega)⟩ ⟨Nat.le_refl _, Nat.le_refl _⟩ ⟨Nat.le_refl _, Nat.le_refl _⟩ (mv_noH hno _) (fun σ97 h97 => ?_)
      obtain ⟨rfl, s_g23⟩ := h97
      have r_g23 : mv_r g23 = mv_r h := s_g23.trans r_g21
      exact mv_vret (pc := 100) B hr d_Model_one_100 (Nat.le_refl _) (Nat.le_refl _) ⟨rfl, xrh_v hf r_g23⟩
    · skip
      have hf := xif_t h15 hf
      refine mv_aload_n (pc := 18) B d_Model_one_18 rfl 0 rfl ?_
      refine mv_iconst (pc := 19) (v := -1) B d_Model_one_19 (by decide) ?_
      obtain ⟨g25, eg25, hf⟩ := xhv_e hf
      refine mv_callVv (pc := 20) (n := 1) (ci := 11) (C := R_Model) B (mK_ok sk sv) hNs rfl rfl (ch_Model_told_x l hi _ (⟨xrw r_g15 hb.1, (congrFun (congrFun r_g15 70) 9).trans hb.2⟩) _ eg25) rfl (ma_goodc kc_Model_told) (B.2.2.2.1 _ k_2554) (B.2.2.2.1 _ k_2556) (B.2.2.2.1 _ ks_140) (B.2.2.2.1 _ k_12) ⟨by decide +kernel, by decide +kernel, by decide +kernel⟩ rfl d_Model_one_20 rfl (Nat.le_of_ble_eq_true rfl) ⟨by first | decide | (dsimp only; omega), by first | decide | (dsimp only; omega)⟩ ⟨Nat.le_refl _, Nat.le_refl _⟩ ⟨Nat.le_refl _, Nat.le_refl _⟩ (mv_noH hno _) (fun σ20 h20 => ?_)
      obtain ⟨rfl, s_g25⟩ := h20
      have r_g25 : mv_r g25 = mv_r h := s_g25.trans r_g15
      refine mv_goto (pc := 23) (tgt := 100) B d_Model_one_23 rfl ?_
      exact mv_vret (pc := 100) B hr d_Model_one_100 (Nat.le_refl _) (Nat.le_refl _) ⟨rfl, xrh_v hf r_g25⟩
set_option maxHeartbeats 4000000 in
set_option maxRecDepth 100000 in
theorem ch_Model_one_y (l : Launch) {dA : FieldType → ClassId} {D : va_G} {al : Nat → Nat} {ext : mv_Sh} {sk sv : Nat → Nat} (hi : mv_inj (mg dA D al ext)) (h : mv_H) (hb : mh (mv_r h) ∧ mv_r h 70 9 = some 108)  {rg : mv_H} (hf : f_Model_one 108 h = some rg) : mv_C l y_Model_one (Cond.code y_Model_one b_Model_one 2 (Option.none : Option Jvm.ClassFile.FieldType) :: ma) ({ frames := 2041, cells := 0, slots := 0, locals := 61828 }) (mg dA D al ext) (mK sk sv) [.ref (al 70)] h (mv_Rv (fun σ1 => rg = σ1 ∧ mv_r σ1 = mv_r h)) := by
  refine mv_C.ofV (cc := b_Model_one) (nL := 2) (ret := (Option.none : Option Jvm.ClassFile.FieldType)) (by decide +kernel) rfl hi (Nat.le_of_ble_eq_true rfl) ?_
  intro p e s m below meth c B hNs hr hnm hno
  have jn153 : ∀ (y0 : Int32) (hz : mv_H), mv_r hz = mv_r h → f_Model_one_153 108 y0 hz = some rg → mv_V p l e ({ frames := 2041, cells := 0, slots := 0, locals := 61828 }) s m ([.ref (al 70)] : List Value).toArray below meth c (mg dA D al ext) 2 0 0 (mv_Q (mg dA D al ext) below s 0 0 (mv_Rv (fun σ1 => rg = σ1 ∧ mv_r σ1 = mv_r h))) hz 153 [] [.int y0, .ref (al 70)] := by
    intro y0 hz r_hz hf
    unfold f_Model_one_153 at hf
    obtain ⟨g1, eg1, hf⟩ := xhv_e hf
    refine mv_callVv (pc := 153) (n := 1) (ci := 11) (C := R_Model) B (mK_ok sk sv) hNs rfl rfl (ch_Model_told_y l hi _ (⟨xrw r_hz hb.1, (congrFun (congrFun r_hz 70) 9).trans hb.2⟩) _ eg1) rfl (ma_goodc kc_Model_told) (B.2.2.2.1 _ k_2554) (B.2.2.2.1 _ k_2556) (B.2.2.2.1 _ ks_140) (B.2.2.2.1 _ k_12) ⟨by decide +kernel, by decide +kernel, by decide +kernel⟩ rfl d_Model_one_153 rfl (Nat.le_of_ble_eq_true rfl) ⟨by first | decide | (dsimp only; omega), by first | decide | (dsimp only; omega)⟩ ⟨Nat.le_refl _, Nat.le_refl _⟩ ⟨Nat.le_refl _, Nat.le_refl _⟩ (mv_noH hno _) (fun σ153 h153 => ?_)
    obtain ⟨rfl, s_g1⟩ := h153
    have r_g1 : mv_r g1 = mv_r h := s_g1.trans r_hz
    exact mv_vret (pc := 156) B hr d_Model_one_156 (Nat.le_refl _) (Nat.le_refl _) ⟨rfl, xrh_v hf r_g1⟩
  unfold f_Model_one at hf
  refine mv_aload_n (pc := 0) B d_Model_one_0 rfl 0 rfl ?_
  refine mv_getI (pc := 1) (ci := 11) (C := R_Model) (T := F_Model) (N := 16) B 11 rfl rfl (by decide) i_Model (B.2.2.2.1 _ k_2056) rfl d_Model_one_1 ?_
  refine mv_if_eq (pc := 4) (tgt := 101) B d_Model_one_4 rfl (fun h4 => ?_) (fun h4 => ?_)
  · skip
    have hf := xif_t h4 hf
    refine mv_aload_n (pc := 101) B d_Model_one_101 rfl 0 rfl ?_
    refine mv_getR (pc := 102) (ci := 11) (C := R_Model) (T := F_Model) (N := 16) B 9 rfl rfl (by decide) i_Model (B.2.2.2.1 _ k_2054) rfl hb.2 d_Model_one_102 ?_
    obtain ⟨u4, g3, eg3, hf⟩ := xhb_e hf
    refine mv_callVi (pc := 105) (n := 0) (ci := 12) (C := R_Book) B (mK_ok sk sv) hNs rfl rfl (ch_Book_fetchWord_y l hi _ (hb.1) eg3) rfl (ma_goodc kc_Book_fetchWord) (B.2.2.2.1 _ k_2566) (B.2.2.2.1 _ k_2567) (B.2.2.2.1 _ k_2568) (B.2.2.2.1 _ k_13) ⟨by decide +kernel, by decide +kernel, by decide +kernel⟩ rfl d_Model_one_105 rfl (Nat.le_of_ble_eq_true rfl) ⟨by first | decide | (dsimp only; omega), by first | decide | (dsimp only; omega)⟩ ⟨Nat.le_refl _, Nat.le_refl _⟩ ⟨Nat.le_refl _, Nat.le_refl _⟩ (mv_noH hno _) (fun w105 σ105 h105 => ?_)
    obtain ⟨rfl, rfl, s_g3⟩ := h105
    have r_g3 : mv_r g3 = mv_r h := s_g3.trans rfl
    refine mv_if_ne (pc := 108) (tgt := 117) B d_Model_one_108 rfl (fun h108 => ?_) (fun h108 => ?_)
    · skip
      have hf := xif_f h108 hf
      refine mv_aload_n (pc := 117) B d_Model_one_117 rfl 0 rfl ?_
      refine mv_aload_n (pc := 118) B d_Model_one_118 rfl 0 rfl ?_
      refine mv_getR (pc := 119) (ci := 11) (C := R_Model) (T := F_Model) (N := 16) B 9 rfl rfl (by decide) i_Model (B.2.2.2.1 _ k_2054) rfl ((congrFun (congrFun r_g3 70) 9).trans hb.2) d_Model_one_119 ?_
      obtain ⟨u6, g5, eg5, hf⟩ := xhb_e hf
      refine mv_callVl (pc := 122) (n := 0) (ci := 12) (C := R_Book) B (mK_ok sk sv) hNs rfl rfl (ch_Book_fetched_y l hi _ (xrw r_g3 hb.1) eg5) rfl (ma_goodc kc_Book_fetched) (B.2.2.2.1 _ k_2570) (B.2.2.2.1 _ k_2571) (B.2.2.2.1 _ k_2572) (B.2.2.2.1 _ k_13) ⟨by decide +kernel, by decide +kernel, by decide +kernel⟩ rfl d_Model_one_122 rfl (Nat.le_of_ble_eq_true rfl) ⟨by first | decide | (dsimp only; omega), by first | decide | (dsimp only; omega)⟩ ⟨Nat.le_refl _, Nat.le_refl _⟩ ⟨Nat.le_refl _, Nat.le_refl _⟩ (mv_noH hno _) (fun w122 σ122 h122 => ?_)
      obtain ⟨rfl, rfl, s_g5⟩ := h122
      have r_g5 : mv_r g5 = mv_r h := s_g5.trans r_g3
      obtain ⟨u8, g7, eg7, hf⟩ := xhb_e hf
      refine mv_callVi (pc := 125) (n := 1) (ci := 11) (C := R_Model) B (mK_ok sk sv) hNs rfl rfl (ch_Model_decode_y l hi _ (⟨xrw r_g5 hb.1, (congrFun (congrFun r_g5 70) 9).trans hb.2⟩) _ eg7) rfl (ma_goodc kc_Model_decode) (B.2.2.2.1 _ k_2447) (B.2.2.2.1 _ k_2354) (B.2.2.2.1 _ k_2355) (B.2.2.2.1 _ k_12) ⟨by decide +kernel, by decide +kernel, by decide +kernel⟩ rfl d_Model_one_125 rfl (Nat.le_of_ble_eq_true rfl) ⟨by first | decide | (dsimp only; omega), by first | decide | (dsimp only; omega)⟩ ⟨Nat.le_refl _, Nat.le_refl _⟩ ⟨Nat.le_refl _, Nat.le_refl _⟩ (mv_noH hno _) (fun w125 σ125 h125 => ?_)
      obtain ⟨rfl, rfl, s_g7⟩ := h125
      have r_g7 : mv_r g7 = mv_r h := s_g7.trans r_g5
      refine mv_istore_n (pc := 128) B d_Model_one_128 rfl (by decide) rfl ?_
      refine mv_aload_n (pc := 129) B d_Model_one_129 rfl 1 rfl ?_
      refine mv_iload_n (pc := 130) B d_Model_one_130 rfl 0 rfl ?_
      refine mv_if_ge (pc := 131) (tgt := 139) B d_Model_one_131 rfl (fun h131 => ?_) (fun h131 => ?_)
      · skip
        have hf := xif_t h131 hf
        refine mv_aload_n (pc := 139) B d_Model_one_139 rfl 1 rfl ?_
        refine mv_getR (pc := 140) (ci := 11) (C := R_Model) (T := F_Model) (N := 16) B 9 rfl rfl (by decide) i_Model (B.2.2.2.1 _ k_2054) rfl ((congrFun (congrFun r_g7 70) 9).trans hb.2) d_Model_one_140 ?_
        refine mv_aload_n (pc := 143) B d_Model_one_143 rfl 1 rfl ?_
        refine mv_getR (pc := 144) (ci := 11) (C := R_Model) (T := F_Model) (N := 16) B 9 rfl rfl (by decide) i_Model (B.2.2.2.1 _ k_2054) rfl ((congrFun (congrFun r_g7 70) 9).trans hb.2) d_Model_one_144 ?_
        obtain ⟨u10, g9, eg9, hf⟩ := xhb_e hf
        refine mv_callVl (pc := 147) (n := 0) (ci := 12) (C := R_Book) B (mK_ok sk sv) hNs rfl rfl (ch_Book_fetched_y l hi _ (xrw r_g7 hb.1) eg9) rfl (ma_goodc kc_Book_fetched) (B.2.2.2.1 _ k_2570) (B.2.2.2.1 _ k_2571) (B.2.2.2.1 _ k_2572) (B.2.2.2.1 _ k_13) ⟨by decide +kernel, by decide +kernel, by decide +kernel⟩ rfl d_Model_one_147 rfl (Nat.le_of_ble_eq_true rfl) ⟨by first | decide | (dsimp only; omega), by first | decide | (dsimp only; omega)⟩ ⟨Nat.le_refl _, Nat.le_refl _⟩ ⟨Nat.le_refl _, Nat.le_refl _⟩ (mv_noH hno _) (fun w147 σ147 h147 => ?_)
        obtain ⟨rfl, rfl, s_g9⟩ := h147
        have r_g9 : mv_r g9 = mv_r h := s_g9.trans r_g7
        obtain ⟨u12, g11, eg11, hf⟩ := xhb_e hf
        refine mv_callVi (pc := 150) (n := 1) (ci := 12) (C := R_Book) B (mK_ok sk sv) hNs rfl rfl (ch_Book_step_y l hi _ (xrw r_g9 hb.1) _ eg11) rfl (ma_goodc kc_Book_step) (B.2.2.2.1 _ k_2492) (B.2.2.2.1 _ k_2493) (B.2.2.2.1 _ k_2494) (B.2.2.2.1 _ k_13) ⟨by decide +kernel, by decide +kernel, by decide +kernel⟩ rfl d_Model_one_150 rfl (Nat.le_of_ble_eq_true rfl) ⟨by first | decide | (dsimp only; omega), by first | decide | (dsimp only; omega)⟩ ⟨Nat.le_refl _, Nat.le_refl _⟩ ⟨Nat.le_refl _, Nat.le_refl _⟩ (mv_noH hno _) (fun w150 σ150 h150 => ?_)
        obtain ⟨rfl, rfl, s_g11⟩ := h150
        have r_g11 : mv_r g11 = mv_r h := s_g11.trans r_g9
        refine mv_lpick [] rfl ?_
        exact jn153 _ _ r_g11 hf
      · skip
        have hf := xif_f h131 hf
        refine mv_bipush (pc := 134) (v := -2) B d_Model_one_134 (by decide) ?_
        refine mv_goto (pc := 136) (tgt := 153) B d_Model_one_136 rfl ?_
        refine mv_lpick [] rfl ?_
        exact jn153 _ _ r_g7 hf
    · skip
      have hf := xif_t h108 hf
      refine mv_aload_n (pc := 111) B d_Model_one_111 rfl 0 rfl ?_
      refine mv_iconst (pc := 112) (v := -1) B d_Model_one_112 (by decide) ?_
      obtain ⟨g13, eg13, hf⟩ := xhv_e hf
      refine mv_callVv (pc := 113) (n := 1) (ci := 11) (C := R_Model) B (mK_ok sk sv) hNs rfl rfl (ch_Model_told_y l hi _ (⟨xrw r_g3 hb.1, (congrFun (congrFun r_g3 70) 9).trans hb.2⟩) _ eg13) rfl (ma_goodc kc_Model_told) (B.2.2.2.1 _ k_2554) (B.2.2.2.1 _ k_2556) (B.2.2.2.1 _ ks_140) (B.2.2.2.1 _ k_12) ⟨by decide +kernel, by decide +kernel, by decide +kernel⟩ rfl d_Model_one_113 rfl (Nat.le_of_ble_eq_true rfl) ⟨by first | decide | (dsimp only; omega), by first | decide | (dsimp only; omega)⟩ ⟨Nat.le_refl _, Nat.le_refl _⟩ ⟨Nat.le_refl _, Nat.le_refl _⟩ (mv_noH hno _) (fun σ113 h113 => ?_)
      obtain ⟨rfl, s_g13⟩ := h113
      have r_g13 : mv_r g13 = mv_r h := s_g13.trans r_g3
      exact mv_vret (pc := 116) B hr d_Model_one_116 (Nat.le_refl _) (Nat.le_refl _) ⟨rfl, xrh_v hf r_g13⟩
  · skip
    have hf := xif_f h4 hf
    refine mv_aload_n (pc := 7) B d_Model_one_7 rfl 0 rfl ?_
    refine mv_getI (pc := 8) (ci := 11) (C := R_Model) (T := F_Model) (N := 16) B 6 rfl rfl (by decide) i_Model (B.2.2.2.1 _ k_2051) rfl d_Model_one_8 ?_
    refine mv_iconst (pc := 11) (v := 4) B d_Model_one_11 (by decide) ?_
    obtain ⟨u16, g15, eg15, hf⟩ := xhb_e hf
    refine mv_callSi (pc := 12) (n := 2) B (mK_ok sk sv) hNs (ch_Model_inMemory l hi _ _ _ eg15) rfl (ma_goodc kc_Model_inMemory) (B.2.2.2.1 _ k_2476) (B.2.2.2.1 _ k_2477) (B.2.2.2.1 _ k_12) ⟨by decide +kernel, by decide +kernel, by decide +kernel⟩ rfl d_Model_one_12 rfl (Nat.le_of_ble_eq_true rfl) ⟨by first | decide | (dsimp only; omega), by first | decide | (dsimp only; omega)⟩ ⟨Nat.le_refl _, Nat.le_refl _⟩ ⟨Nat.le_refl _, Nat.le_refl _⟩ (mv_noH hno _) (fun w12 σ12 h12 => ?_)
    obtain ⟨rfl, rfl, s_g15⟩ := h12
    have r_g15 : mv_r g15 = mv_r h := s_g15.trans rfl
    refine mv_if_ne (pc := 15) (tgt := 26) B d_Model_one_15 rfl (fun h15 => ?_) (fun h15 => ?_)
    · skip
      have hf := xif_f h15 hf
      refine mv_aload_n (pc := 26) B d_Model_one_26 rfl 0 rfl ?_
      refine mv_aload_n (pc := 27) B d_Model_one_27 rfl 0 rfl ?_
      refine mv_aload_n (pc := 28) B d_Model_one_28 rfl 0 rfl ?_
      refine mv_getR (pc := 29) (ci := 11) (C := R_Model) (T := F_Model) (N := 16) B 8 rfl rfl (by decide) i_Model (B.2.2.2.1 _ k_2053) rfl ((congrFun (congrFun r_g15 70) 8).trans (hb.1 70 8 _ rfl)) d_Model_one_29 ?_
      refine mv_aload_n (pc := 32) B d_Model_one_32 rfl 0 rfl ?_
      refine mv_getI (pc := 33) (ci := 11) (C := R_Model) (T := F_Model) (N := 16) B 6 rfl rfl (by decide) i_Model (B.2.2.2.1 _ k_2051) rfl d_Model_one_33 ?_
      obtain ⟨q17, hf⟩ := xvi_e hf
      refine mv_bald (pc := 36) B rfl q17 d_Model_one_36 ?_
      refine mv_sipush (pc := 37) (v := 255) B d_Model_one_37 (by decide) ?_
      refine mv_iand (pc := 40) B d_Model_one_40 ?_
      refine mv_aload_n (pc := 41) B d_Model_one_41 rfl 0 rfl ?_
      refine mv_getR (pc := 42) (ci := 11) (C := R_Model) (T := F_Model) (N := 16) B 8 rfl rfl (by decide) i_Model (B.2.2.2.1 _ k_2053) rfl ((congrFun (congrFun r_g15 70) 8).trans (hb.1 70 8 _ rfl)) d_Model_one_42 ?_
      refine mv_aload_n (pc := 45) B d_Model_one_45 rfl 0 rfl ?_
      refine mv_getI (pc := 46) (ci := 11) (C := R_Model) (T := F_Model) (N := 16) B 6 rfl rfl (by decide) i_Model (B.2.2.2.1 _ k_2051) rfl d_Model_one_46 ?_
      refine mv_iconst (pc := 49) (v := 1) B d_Model_one_49 (by decide) ?_
      refine mv_iadd (pc := 50) B d_Model_one_50 ?_
      obtain ⟨q18, hf⟩ := xvi_e hf
      refine mv_bald (pc := 51) B rfl q18 d_Model_one_51 ?_
      refine mv_sipush (pc := 52) (v := 255) B d_Model_one_52 (by decide) ?_
      refine mv_iand (pc := 55) B d_Model_one_55 ?_
      refine mv_bipush (pc := 56) (v := 8) B d_Model_one_56 (by decide) ?_
      refine mv_ishl (pc := 58) B d_Model_one_58 ?_
      refine mv_ior (pc := 59) B d_Model_one_59 ?_
      refine mv_aload_n (pc := 60) B d_Model_one_60 rfl 0 rfl ?_
      refine mv_getR (pc := 61) (ci := 11) (C := R_Model) (T := F_Model) (N := 16) B 8 rfl rfl (by decide) i_Model (B.2.2.2.1 _ k_2053) rfl ((congrFun (congrFun r_g15 70) 8).trans (hb.1 70 8 _ rfl)) d_Model_one_61 ?_
      refine mv_aload_n (pc := 64) B d_Model_one_64 rfl 0 rfl ?_
      refine mv_getI (pc := 65) (ci := 11) (C := R_Model) (T := F_Model) (N := 16) B 6 rfl rfl (by decide) i_Model (B.2.2.2.1 _ k_2051) rfl d_Model_one_65 ?_
      refine mv_iconst (pc := 68) (v := 2) B d_Model_one_68 (by decide) ?_
      refine mv_iadd (pc := 69) B d_Model_one_69 ?_
      obtain ⟨q19, hf⟩ := xvi_e hf
      refine mv_bald (pc := 70) B rfl q19 d_Model_one_70 ?_
      refine mv_sipush (pc := 71) (v := 255) B d_Model_one_71 (by decide) ?_
      refine mv_iand (pc := 74) B d_Model_one_74 ?_
      refine mv_bipush (pc := 75) (v := 16) B d_Model_one_75 (by decide) ?_
      refine mv_ishl (pc := 77) B d_Model_one_77 ?_
      refine mv_ior (pc := 78) B d_Model_one_78 ?_
      refine mv_aload_n (pc := 79) B d_Model_one_79 rfl 0 rfl ?_
      refine mv_getR (pc := 80) (ci := 11) (C := R_Model) (T := F_Model) (N := 16) B 8 rfl rfl (by decide) i_Model (B.2.2.2.1 _ k_2053) rfl ((congrFun (congrFun r_g15 70) 8).trans (hb.1 70 8 _ rfl)) d_Model_one_80 ?_
      refine mv_aload_n (pc := 83) B d_Model_one_83 rfl 0 rfl ?_
      refine mv_getI (pc := 84) (ci := 11) (C := R_Model) (T := F_Model) (N := 16) B 6 rfl rfl (by decide) i_Model (B.2.2.2.1 _ k_2051) rfl d_Model_one_84 ?_
      refine mv_iconst (pc := 87) (v := 3) B d_Model_one_87 (by decide) ?_
      refine mv_iadd (pc := 88) B d_Model_one_88 ?_
      obtain ⟨q20, hf⟩ := xvi_e hf
      refine mv_bald (pc := 89) B rfl q20 d_Model_one_89 ?_
      refine mv_bipush (pc := 90) (v := 24) B d_Model_one_90 (by decide) ?_
      refine mv_ishl (pc := 92) B d_Model_one_92 ?_
      refine mv_ior (pc := 93) B d_Model_one_93 ?_
      obtain ⟨u22, g21, eg21, hf⟩ := xhb_e hf
      refine mv_callVi (pc := 94) (n := 1) (ci := 11) (C := R_Model) B (mK_ok sk sv) hNs rfl rfl (ch_Model_shippedStep_y l hi _ (⟨xrw r_g15 hb.1, (congrFun (congrFun r_g15 70) 9).trans hb.2⟩) _ eg21) rfl (ma_goodc kc_Model_shippedStep) (B.2.2.2.1 _ k_2448) (B.2.2.2.1 _ k_2450) (B.2.2.2.1 _ ks_126) (B.2.2.2.1 _ k_12) ⟨by decide +kernel, by decide +kernel, by decide +kernel⟩ rfl d_Model_one_94 rfl (Nat.le_of_ble_eq_true rfl) ⟨by first | decide | (dsimp only; omega), by first | decide | (dsimp only; omega)⟩ ⟨Nat.le_refl _, Nat.le_refl _⟩ ⟨Nat.le_refl _, Nat.le_refl _⟩ (mv_noH hno _) (fun w94 σ94 h94 => ?_)
      obtain ⟨rfl, rfl, s_g21⟩ := h94
      have r_g21 : mv_r g21 = mv_r h := s_g21.trans r_g15
      obtain ⟨g23, eg23, hf⟩ := xhv_e hf
      refine mv_callVv (pc := 97) (n := 1) (ci := 11) (C := R_Model) B (mK_ok sk sv) hNs rfl rfl (ch_Model_told_y l hi _ (⟨xrw r_g21 hb.1, (congrFun (congrFun r_g21 70) 9).trans hb.2⟩) _ eg23) rfl (ma_goodc kc_Model_told) (B.2.2.2.1 _ k_2554) (B.2.2.2.1 _ k_2556) (B.2.2.2.1 _ ks_140) (B.2.2.2.1 _ k_12) ⟨by decide +kernel, by decide +kernel, by decide +kernel⟩ rfl d_Model_one_97 rfl (Nat.le_of_ble_eq_true rfl) ⟨by first | decide | (dsimp only; omega), by first | decide | (dsimp only; omega)⟩ ⟨Nat.le_refl _, Nat.le_refl _⟩ ⟨Nat.le_refl _, Nat.le_refl _⟩ (mv_noH hno _) (fun σ97 h97 => ?_)
      obtain ⟨rfl, s_g23⟩ := h97
      have r_g23 : mv_r g23 = mv_r h := s_g23.trans r_g21
      exact mv_vret (pc := 100) B hr d_Model_one_100 (Nat.le_refl _) (Nat.le_refl _) ⟨rfl, xrh_v hf r_g23⟩
    · skip
      have hf := xif_t h15 hf
      refine mv_aload_n (pc := 18) B d_Model_one_18 rfl 0 rfl ?_
      refine mv_iconst (pc := 19) (v := -1) B d_Model_one_19 (by decide) ?_
      obtain ⟨g25, eg25, hf⟩ := xhv_e hf
      refine mv_callVv (pc := 20) (n := 1) (ci := 11) (C := R_Model) B (mK_ok sk sv) hNs rfl rfl (ch_Model_told_y l hi _ (⟨xrw r_g15 hb.1, (congrFun (congrFun r_g15 70) 9).trans hb.2⟩) _ eg25) rfl (ma_goodc kc_Model_told) (B.2.2.2.1 _ k_2554) (B.2.2.2.1 _ k_2556) (B.2.2.2.1 _ ks_140) (B.2.2.2.1 _ k_12) ⟨by decide +kernel, by decide +kernel, by decide +kernel⟩ rfl d_Model_one_20 rfl (Nat.le_of_ble_eq_true rfl) ⟨by first | decide | (dsimp only; omega), by first | decide | (dsimp only; omega)⟩ ⟨Nat.le_refl _, Nat.le_refl _⟩ ⟨Nat.le_refl _, Nat.le_refl _⟩ (mv_noH hno _) (fun σ20 h20 => ?_)
      obtain ⟨rfl, s_g25⟩ := h20
      have r_g25 : mv_r g25 = mv_r h := s_g25.trans r_g15
      refine mv_goto (pc := 23) (tgt := 100) B d_Model_one_23 rfl ?_
      exact mv_vret (pc := 100) B hr d_Model_one_100 (Nat.le_refl _) (Nat.le_refl _) ⟨rfl, xrh_v hf r_g25⟩
def fF_Model_run_58 (P : Nat) (k58 : Int32 → Int32 → mv_H → Option (Int32 × mv_H)) (x1 : Int32) (x2 : Int32) (hz : mv_H) : Option (Int32 × mv_H) := if x1 ≤ x2 then (some (x1, hz)) else (xhv (f_Model_one P hz) fun g1 => if (mv_i g1 70 14) = (0 : Int32) then (k58 x1 (x2 + 1) g1) else (some (x2, g1)))
def f_Model_run_58 (P : Nat) : Nat → Int32 → Int32 → mv_H → Option (Int32 × mv_H)
  | 0 => fun _ _ _ => none
  | nn + 1 => fF_Model_run_58 P (f_Model_run_58 P nn)
def f_Model_run_39 (P : Nat) (x1 : Int32) (y0 : Int32) (hz : mv_H) : Option (Int32 × mv_H) := xk (mv_si hz 70 2 y0) fun g3 => if (mv_i g3 70 2) ≤ (0 : Int32) then (xk (mv_si g3 70 14 (0 : Int32)) fun g4 => f_Model_run_58 P 200000 x1 (0 : Int32) g4) else (some ((0 : Int32), g3))
def f_Model_run_38 (P : Nat) (x1 : Int32) (hz : mv_H) : Option (Int32 × mv_H) := f_Model_run_39 P x1 (0 : Int32) hz
def f_Model_run_13 (P : Nat) (x1 : Int32) (hz : mv_H) : Option (Int32 × mv_H) := f_Model_run_39 P x1 (1 : Int32) hz
def f_Model_run (P : Nat) (h : mv_H) (a0 : Int32) : Option (Int32 × mv_H) := if a0 < (1 : Int32) then (f_Model_run_13 P a0 h) else (if a0 ≤ (500 : Int32) then (if (mv_i h 70 11) = (0 : Int32) then (if (0 : Int32) ≤ (mv_i h P 18) then (f_Model_run_38 P a0 h) else (f_Model_run_39 P a0 (2 : Int32) h)) else (f_Model_run_38 P a0 h)) else (f_Model_run_13 P a0 h))
set_option maxHeartbeats 4000000 in
set_option maxRecDepth 100000 in
theorem ch_Model_run_x (l : Launch) {dA : FieldType → ClassId} {D : va_G} {al : Nat → Nat} {ext : mv_Sh} {sk sv : Nat → Nat} (hi : mv_inj (mg dA D al ext)) (h : mv_H) (hb : mh (mv_r h) ∧ mv_r h 70 9 = some 74)  (a0 : Int32) {rv : Int32} {rg : mv_H} (hf : f_Model_run 74 h a0 = some (rv, rg)) : mv_C l y_Model_run (Cond.code y_Model_run b_Model_run 3 (Option.some Jvm.ClassFile.FieldType.int) :: ma) ({ frames := 2042, cells := 0, slots := 0, locals := 61849 }) (mg dA D al ext) (mK sk sv) [.ref (al 70), .int a0] h (mv_Ri (fun v σ1 => rv = v ∧ rg = σ1 ∧ mv_r σ1 = mv_r h)) := by
  refine mv_C.ofV (cc := b_Model_run) (nL := 3) (ret := (Option.some Jvm.ClassFile.FieldType.int)) (by decide +kernel) rfl hi (Nat.le_of_ble_eq_true rfl) ?_
  intro p e s m below meth c B hNs hr hnm hno
  have lp58 : ∀ (nn58 : Nat) (x1 : Int32) (x2 : Int32) (hz : mv_H), mv_r hz = mv_r h → f_Model_run_58 74 nn58 x1 x2 hz = some (rv, rg) → mv_V p l e ({ frames := 2042, cells := 0, slots := 0, locals := 61849 }) s m ([.ref (al 70), .int a0] : List Value).toArray below meth c (mg dA D al ext) 3 0 0 (mv_Q (mg dA D al ext) below s 0 0 (mv_Ri (fun v σ1 => rv = v ∧ rg = σ1 ∧ mv_r σ1 = mv_r h))) hz 58 [(0, .ref (al 70)), (1, .int x1), (2, .int x2)] [] := by
    intro nn58
    induction nn58 with
    | zero => intro x1 x2 hz r_hz hf; cases hf
    | succ nn58 ih58 =>
      intro x1 x2 hz r_hz hf
      have hf : fF_Model_run_58 74 (f_Model_run_58 74 nn58) x1 x2 hz = some (rv, rg) := hf
      unfold fF_Model_run_58 at hf
      refine mv_iload_n (pc := 58) B d_Model_run_58 rfl 2 rfl ?_
      refine mv_iload_n (pc := 59) B d_Model_run_59 rfl 1 rfl ?_
      refine mv_icmp_ge (pc := 60) (tgt := 82) B d_Model_run_60 rfl (fun h60 => ?_) (fun h60 => ?_)
      · skip
        have hf := xif_t h60 hf
        refine mv_iload_n (pc := 82) B d_Model_run_82 rfl 1 rfl ?_
        exact mv_iret (pc := 83) B hr rfl d_Model_run_83 (Nat.le_refl _) (Nat.le_refl _) ⟨_, rfl, xrh_i hf r_hz⟩
      · skip
        have hf := xif_f h60 hf
        refine mv_aload_n (pc := 63) B d_Model_run_63 rfl 0 rfl ?_
        obtain ⟨g1, eg1, hf⟩ := xhv_e hf
        refine mv_callVv (pc := 64) (n := 0) (ci := 11) (C := R_Model) B (mK_ok sk sv) hNs rfl rfl (ch_Model_one_x l hi _ (⟨xrw r_hz hb.1, (congrFun (congrFun r_hz 70) 9).trans hb.2⟩) eg1) rfl (ma_goodc kc_Model_one) (B.2.2.2.1 _ k_2562) (B.2.2.2.1 _ k_2564) (B.2.2.2.1 _ ks_141) (B.2.2.2.1 _ k_12) ⟨by decide +kernel, by decide +kernel, by decide +kernel⟩ rfl d_Model_run_64 rfl (Nat.le_of_ble_eq_true rfl) ⟨by first | decide | (dsimp only; omega), by first | decide | (dsimp only; omega)⟩ ⟨Nat.le_refl _, Nat.le_refl _⟩ ⟨Nat.le_refl _, Nat.le_refl _⟩ (mv_noH hno _) (fun σ64 h64 => ?_)
        obtain ⟨rfl, s_g1⟩ := h64
        have r_g1 : mv_r g1 = mv_r h := s_g1.trans r_hz
        refine mv_aload_n (pc := 67) B d_Model_run_67 rfl 0 rfl ?_
        refine mv_getI (pc := 68) (ci := 11) (C := R_Model) (T := F_Model) (N := 16) B 14 rfl rfl (by decide) i_Model (B.2.2.2.1 _ k_2059) rfl d_Model_run_68 ?_
        refine mv_if_eq (pc := 71) (tgt := 76) B d_Model_run_71 rfl (fun h71 => ?_) (fun h71 => ?_)
        · skip
          have hf := xif_t h71 hf
          refine mv_iinc (pc := 76) (j := 2) (v := 1) B d_Model_run_76 rfl (by decide) (by decide) rfl ?_
          refine mv_goto (pc := 79) (tgt := 58) B d_Model_run_79 rfl ?_
          refine mv_lpick [1, 2, 0] rfl ?_
          exact ih58 _ _ _ r_g1 hf
        · skip
          have hf := xif_f h71 hf
          refine mv_iload_n (pc := 74) B d_Model_run_74 rfl 2 rfl ?_
          exact mv_iret (pc := 75) B hr rfl d_Model_run_75 (Nat.le_refl _) (Nat.le_refl _) ⟨_, rfl, xrh_i hf r_g1⟩
  have jn39 : ∀ (x1 : Int32) (y0 : Int32) (hz : mv_H), mv_r hz = mv_r h → f_Model_run_39 74 x1 y0 hz = some (rv, rg) → mv_V p l e ({ frames := 2042, cells := 0, slots := 0, locals := 61849 }) s m ([.ref (al 70), .int a0] : List Value).toArray below meth c (mg dA D al ext) 3 0 0 (mv_Q (mg dA D al ext) below s 0 0 (mv_Ri (fun v σ1 => rv = v ∧ rg = σ1 ∧ mv_r σ1 = mv_r h))) hz 39 [(0, .ref (al 70)), (1, .int x1)] [.int y0, .ref (al 70)] := by
    intro x1 y0 hz r_hz hf
    unfold f_Model_run_39 at hf
    refine mv_putI (pc := 39) (ci := 11) (C := R_Model) (T := F_Model) (N := 16) B 2 rfl rfl (by decide) i_Model t_Model_ok n_Model (B.2.2.2.1 _ k_2047) rfl rfl rfl rfl d_Model_run_39 ?_
    refine mvh_hp (R9 := mv_r h) hf r_hz (fun g3 hf r_g3 => ?_)
    refine mv_aload_n (pc := 42) B d_Model_run_42 rfl 0 rfl ?_
    refine mv_getI (pc := 43) (ci := 11) (C := R_Model) (T := F_Model) (N := 16) B 2 rfl rfl (by decide) i_Model (B.2.2.2.1 _ k_2047) rfl d_Model_run_43 ?_
    refine mv_if_le (pc := 46) (tgt := 51) B d_Model_run_46 rfl (fun h46 => ?_) (fun h46 => ?_)
    · skip
      have hf := xif_t h46 hf
      refine mv_aload_n (pc := 51) B d_Model_run_51 rfl 0 rfl ?_
      refine mv_iconst (pc := 52) (v := 0) B d_Model_run_52 (by decide) ?_
      refine mv_putI (pc := 53) (ci := 11) (C := R_Model) (T := F_Model) (N := 16) B 14 rfl rfl (by decide) i_Model t_Model_ok n_Model (B.2.2.2.1 _ k_2059) rfl rfl rfl rfl d_Model_run_53 ?_
      refine mvh_hp (R9 := mv_r h) hf r_g3 (fun g4 hf r_g4 => ?_)
      refine mv_iconst (pc := 56) (v := 0) B d_Model_run_56 (by decide) ?_
      refine mv_istore_n (pc := 57) B d_Model_run_57 rfl (by decide) rfl ?_
      refine mv_lpick [1, 2, 0] rfl ?_
      exact lp58 _ _ _ _ r_g4 hf
    · skip
      have hf := xif_f h46 hf
      refine mv_iconst (pc := 49) (v := 0) B d_Model_run_49 (by decide) ?_
      exact mv_iret (pc := 50) B hr rfl d_Model_run_50 (Nat.le_refl _) (Nat.le_refl _) ⟨_, rfl, xrh_i hf r_g3⟩
  have jn38 : ∀ (x1 : Int32) (hz : mv_H), mv_r hz = mv_r h → f_Model_run_38 74 x1 hz = some (rv, rg) → mv_V p l e ({ frames := 2042, cells := 0, slots := 0, locals := 61849 }) s m ([.ref (al 70), .int a0] : List Value).toArray below meth c (mg dA D al ext) 3 0 0 (mv_Q (mg dA D al ext) below s 0 0 (mv_Ri (fun v σ1 => rv = v ∧ rg = σ1 ∧ mv_r σ1 = mv_r h))) hz 38 [(0, .ref (al 70)), (1, .int x1)] [.ref (al 70)] := by
    intro x1 hz r_hz hf
    unfold f_Model_run_38 at hf
    refine mv_iconst (pc := 38) (v := 0) B d_Model_run_38 (by decide) ?_
    refine mv_lpick [0, 1] rfl ?_
    exact jn39 _ _ _ r_hz hf
  have jn13 : ∀ (x1 : Int32) (hz : mv_H), mv_r hz = mv_r h → f_Model_run_13 74 x1 hz = some (rv, rg) → mv_V p l e ({ frames := 2042, cells := 0, slots := 0, locals := 61849 }) s m ([.ref (al 70), .int a0] : List Value).toArray below meth c (mg dA D al ext) 3 0 0 (mv_Q (mg dA D al ext) below s 0 0 (mv_Ri (fun v σ1 => rv = v ∧ rg = σ1 ∧ mv_r σ1 = mv_r h))) hz 13 [(0, .ref (al 70)), (1, .int x1)] [.ref (al 70)] := by
    intro x1 hz r_hz hf
    unfold f_Model_run_13 at hf
    refine mv_iconst (pc := 13) (v := 1) B d_Model_run_13 (by decide) ?_
    refine mv_goto (pc := 14) (tgt := 39) B d_Model_run_14 rfl ?_
    refine mv_lpick [0, 1] rfl ?_
    exact jn39 _ _ _ r_hz hf
  unfold f_Model_run at hf
  refine mv_aload_n (pc := 0) B d_Model_run_0 rfl 0 rfl ?_
  refine mv_iload_n (pc := 1) B d_Model_run_1 rfl 1 rfl ?_
  refine mv_iconst (pc := 2) (v := 1) B d_Model_run_2 (by decide) ?_
  refine mv_icmp_lt (pc := 3) (tgt := 13) B d_Model_run_3 rfl (fun h3 => ?_) (fun h3 => ?_)
  · skip
    have hf := xif_t h3 hf
    refine mv_lpick [0, 1] rfl ?_
    exact jn13 _ _ rfl hf
  · skip
    have hf := xif_f h3 hf
    refine mv_iload_n (pc := 6) B d_Model_run_6 rfl 1 rfl ?_
    refine mv_sipush (pc := 7) (v := 500) B d_Model_run_7 (by decide) ?_
    refine mv_icmp_le (pc := 10) (tgt := 17) B d_Model_run_10 rfl (fun h10 => ?_) (fun h10 => ?_)
    · skip
      have hf := xif_t h10 hf
      refine mv_aload_n (pc := 17) B d_Model_run_17 rfl 0 rfl ?_
      refine mv_getI (pc := 18) (ci := 11) (C := R_Model) (T := F_Model) (N := 16) B 11 rfl rfl (by decide) i_Model (B.2.2.2.1 _ k_2056) rfl d_Model_run_18 ?_
      refine mv_if_ne (pc := 21) (tgt := 38) B d_Model_run_21 rfl (fun h21 => ?_) (fun h21 => ?_)
      · skip
        have hf := xif_f h21 hf
        refine mv_lpick [0, 1] rfl ?_
        exact jn38 _ _ rfl hf
      · skip
        have hf := xif_t h21 hf
        refine mv_aload_n (pc := 24) B d_Model_run_24 rfl 0 rfl ?_
        refine mv_getR (pc := 25) (ci := 11) (C := R_Model) (T := F_Model) (N := 16) B 9 rfl rfl (by decide) i_Model (B.2.2.2.1 _ k_2054) rfl hb.2 d_Model_run_25 ?_
        refine mv_getI (pc := 28) (ci := 12) (C := R_Book) (T := F_Book) (N := 65) B 18 rfl rfl (by decide) i_Book (B.2.2.2.1 _ k_1863) rfl d_Model_run_28 ?_
        refine mv_if_ge (pc := 31) (tgt := 38) B d_Model_run_31 rfl (fun h31 => ?_) (fun h31 => ?_)
        · skip
          have hf := xif_t h31 hf
          refine mv_lpick [0, 1] rfl ?_
          exact jn38 _ _ rfl hf
        · skip
          have hf := xif_f h31 hf
          refine mv_iconst (pc := 34) (v := 2) B d_Model_run_34 (by decide) ?_
          refine mv_goto (pc := 35) (tgt := 39) B d_Model_run_35 rfl ?_
          refine mv_lpick [0, 1] rfl ?_
          exact jn39 _ _ _ rfl hf
    · skip
      have hf := xif_f h10 hf
      refine mv_lpick [0, 1] rfl ?_
      exact jn13 _ _ rfl hf
set_option maxHeartbeats 4000000 in
set_option maxRecDepth 100000 in
theorem ch_Model_run_y (l : Launch) {dA : FieldType → ClassId} {D : va_G} {al : Nat → Nat} {ext : mv_Sh} {sk sv : Nat → Nat} (hi : mv_inj (mg dA D al ext)) (h : mv_H) (hb : mh (mv_r h) ∧ mv_r h 70 9 = some 108)  (a0 : Int32) {rv : Int32} {rg : mv_H} (hf : f_Model_run 108 h a0 = some (rv, rg)) : mv_C l y_Model_run (Cond.code y_Model_run b_Model_run 3 (Option.some Jvm.ClassFile.FieldType.int) :: ma) ({ frames := 2042, cells := 0, slots := 0, locals := 61849 }) (mg dA D al ext) (mK sk sv) [.ref (al 70), .int a0] h (mv_Ri (fun v σ1 => rv = v ∧ rg = σ1 ∧ mv_r σ1 = mv_r h)) := by
  refine mv_C.ofV (cc := b_Model_run) (nL := 3) (ret := (Option.some Jvm.ClassFile.FieldType.int)) (by decide +kernel) rfl hi (Nat.le_of_ble_eq_true rfl) ?_
  intro p e s m below meth c B hNs hr hnm hno
  have lp58 : ∀ (nn58 : Nat) (x1 : Int32) (x2 : Int32) (hz : mv_H), mv_r hz = mv_r h → f_Model_run_58 108 nn58 x1 x2 hz = some (rv, rg) → mv_V p l e ({ frames := 2042, cells := 0, slots := 0, locals := 61849 }) s m ([.ref (al 70), .int a0] : List Value).toArray below meth c (mg dA D al ext) 3 0 0 (mv_Q (mg dA D al ext) below s 0 0 (mv_Ri (fun v σ1 => rv = v ∧ rg = σ1 ∧ mv_r σ1 = mv_r h))) hz 58 [(0, .ref (al 70)), (1, .int x1), (2, .int x2)] [] := by
    intro nn58
    induction nn58 with
    | zero => intro x1 x2 hz r_hz hf; cases hf
    | succ nn58 ih58 =>
      intro x1 x2 hz r_hz hf
      have hf : fF_Model_run_58 108 (f_Model_run_58 108 nn58) x1 x2 hz = some (rv, rg) := hf
      unfold fF_Model_run_58 at hf
      refine mv_iload_n (pc := 58) B d_Model_run_58 rfl 2 rfl ?_
      refine mv_iload_n (pc := 59) B d_Model_run_59 rfl 1 rfl ?_
      refine mv_icmp_ge (pc := 60) (tgt := 82) B d_Model_run_60 rfl (fun h60 => ?_) (fun h60 => ?_)
      · skip
        have hf := xif_t h60 hf
        refine mv_iload_n (pc := 82) B d_Model_run_82 rfl 1 rfl ?_
        exact mv_iret (pc := 83) B hr rfl d_Model_run_83 (Nat.le_refl _) (Nat.le_refl _) ⟨_, rfl, xrh_i hf r_hz⟩
      · skip
        have hf := xif_f h60 hf
        refine mv_aload_n (pc := 63) B d_Model_run_63 rfl 0 rfl ?_
        obtain ⟨g1, eg1, hf⟩ := xhv_e hf
        refine mv_callVv (pc := 64) (n := 0) (ci := 11) (C := R_Model) B (mK_ok sk sv) hNs rfl rfl (ch_Model_one_y l hi _ (⟨xrw r_hz hb.1, (congrFun (congrFun r_hz 70) 9).trans hb.2⟩) eg1) rfl (ma_goodc kc_Model_one) (B.2.2.2.1 _ k_2562) (B.2.2.2.1 _ k_2564) (B.2.2.2.1 _ ks_141) (B.2.2.2.1 _ k_12) ⟨by decide +kernel, by decide +kernel, by decide +kernel⟩ rfl d_Model_run_64 rfl (Nat.le_of_ble_eq_true rfl) ⟨by first | decide | (dsimp only; omega), by first | decide | (dsimp only; omega)⟩ ⟨Nat.le_refl _, Nat.le_refl _⟩ ⟨Nat.le_refl _, Nat.le_refl _⟩ (mv_noH hno _) (fun σ64 h64 => ?_)
        obtain ⟨rfl, s_g1⟩ := h64
        have r_g1 : mv_r g1 = mv_r h := s_g1.trans r_hz
        refine mv_aload_n (pc := 67) B d_Model_run_67 rfl 0 rfl ?_
        refine mv_getI (pc := 68) (ci := 11) (C := R_Model) (T := F_Model) (N := 16) B 14 rfl rfl (by decide) i_Model (B.2.2.2.1 _ k_2059) rfl d_Model_run_68 ?_
        refine mv_if_eq (pc := 71) (tgt := 76) B d_Model_run_71 rfl (fun h71 => ?_) (fun h71 => ?_)
        · skip
          have hf := xif_t h71 hf
          refine mv_iinc (pc := 76) (j := 2) (v := 1) B d_Model_run_76 rfl (by decide) (by decide) rfl ?_
          refine mv_goto (pc := 79) (tgt := 58) B d_Model_run_79 rfl ?_
          refine mv_lpick [1, 2, 0] rfl ?_
          exact ih58 _ _ _ r_g1 hf
        · skip
          have hf := xif_f h71 hf
          refine mv_iload_n (pc := 74) B d_Model_run_74 rfl 2 rfl ?_
          exact mv_iret (pc := 75) B hr rfl d_Model_run_75 (Nat.le_refl _) (Nat.le_refl _) ⟨_, rfl, xrh_i hf r_g1⟩
  have jn39 : ∀ (x1 : Int32) (y0 : Int32) (hz : mv_H), mv_r hz = mv_r h → f_Model_run_39 108 x1 y0 hz = some (rv, rg) → mv_V p l e ({ frames := 2042, cells := 0, slots := 0, locals := 61849 }) s m ([.ref (al 70), .int a0] : List Value).toArray below meth c (mg dA D al ext) 3 0 0 (mv_Q (mg dA D al ext) below s 0 0 (mv_Ri (fun v σ1 => rv = v ∧ rg = σ1 ∧ mv_r σ1 = mv_r h))) hz 39 [(0, .ref (al 70)), (1, .int x1)] [.int y0, .ref (al 70)] := by
    intro x1 y0 hz r_hz hf
    unfold f_Model_run_39 at hf
    refine mv_putI (pc := 39) (ci := 11) (C := R_Model) (T := F_Model) (N := 16) B 2 rfl rfl (by decide) i_Model t_Model_ok n_Model (B.2.2.2.1 _ k_2047) rfl rfl rfl rfl d_Model_run_39 ?_
    refine mvh_hp (R9 := mv_r h) hf r_hz (fun g3 hf r_g3 => ?_)
    refine mv_aload_n (pc := 42) B d_Model_run_42 rfl 0 rfl ?_
    refine mv_getI (pc := 43) (ci := 11) (C := R_Model) (T := F_Model) (N := 16) B 2 rfl rfl (by decide) i_Model (B.2.2.2.1 _ k_2047) rfl d_Model_run_43 ?_
    refine mv_if_le (pc := 46) (tgt := 51) B d_Model_run_46 rfl (fun h46 => ?_) (fun h46 => ?_)
    · skip
      have hf := xif_t h46 hf
      refine mv_aload_n (pc := 51) B d_Model_run_51 rfl 0 rfl ?_
      refine mv_iconst (pc := 52) (v := 0) B d_Model_run_52 (by decide) ?_
      refine mv_putI (pc := 53) (ci := 11) (C := R_Model) (T := F_Model) (N := 16) B 14 rfl rfl (by decide) i_Model t_Model_ok n_Model (B.2.2.2.1 _ k_2059) rfl rfl rfl rfl d_Model_run_53 ?_
      refine mvh_hp (R9 := mv_r h) hf r_g3 (fun g4 hf r_g4 => ?_)
      refine mv_iconst (pc := 56) (v := 0) B d_Model_run_56 (by decide) ?_
      refine mv_istore_n (pc := 57) B d_Model_run_57 rfl (by decide) rfl ?_
      refine mv_lpick [1, 2, 0] rfl ?_
      exact lp58 _ _ _ _ r_g4 hf
    · skip
      have hf := xif_f h46 hf
      refine mv_iconst (pc := 49) (v := 0) B d_Model_run_49 (by decide) ?_
      exact mv_iret (pc := 50) B hr rfl d_Model_run_50 (Nat.le_refl _) (Nat.le_refl _) ⟨_, rfl, xrh_i hf r_g3⟩
  have jn38 : ∀ (x1 : Int32) (hz : mv_H), mv_r hz = mv_r h → f_Model_run_38 108 x1 hz = some (rv, rg) → mv_V p l e ({ frames := 2042, cells := 0, slots := 0, locals := 61849 }) s m ([.ref (al 70), .int a0] : List Value).toArray below meth c (mg dA D al ext) 3 0 0 (mv_Q (mg dA D al ext) below s 0 0 (mv_Ri (fun v σ1 => rv = v ∧ rg = σ1 ∧ mv_r σ1 = mv_r h))) hz 38 [(0, .ref (al 70)), (1, .int x1)] [.ref (al 70)] := by
    intro x1 hz r_hz hf
    unfold f_Model_run_38 at hf
    refine mv_iconst (pc := 38) (v := 0) B d_Model_run_38 (by decide) ?_
    refine mv_lpick [0, 1] rfl ?_
    exact jn39 _ _ _ r_hz hf
  have jn13 : ∀ (x1 : Int32) (hz : mv_H), mv_r hz = mv_r h → f_Model_run_13 108 x1 hz = some (rv, rg) → mv_V p l e ({ frames := 2042, cells := 0, slots := 0, locals := 61849 }) s m ([.ref (al 70), .int a0] : List Value).toArray below meth c (mg dA D al ext) 3 0 0 (mv_Q (mg dA D al ext) below s 0 0 (mv_Ri (fun v σ1 => rv = v ∧ rg = σ1 ∧ mv_r σ1 = mv_r h))) hz 13 [(0, .ref (al 70)), (1, .int x1)] [.ref (al 70)] := by
    intro x1 hz r_hz hf
    unfold f_Model_run_13 at hf
    refine mv_iconst (pc := 13) (v := 1) B d_Model_run_13 (by decide) ?_
    refine mv_goto (pc := 14) (tgt := 39) B d_Model_run_14 rfl ?_
    refine mv_lpick [0, 1] rfl ?_
    exact jn39 _ _ _ r_hz hf
  unfold f_Model_run at hf
  refine mv_aload_n (pc := 0) B d_Model_run_0 rfl 0 rfl ?_
  refine mv_iload_n (pc := 1) B d_Model_run_1 rfl 1 rfl ?_
  refine mv_iconst (pc := 2) (v := 1) B d_Model_run_2 (by decide) ?_
  refine mv_icmp_lt (pc := 3) (tgt := 13) B d_Model_run_3 rfl (fun h3 => ?_) (fun h3 => ?_)
  · skip
    have hf := xif_t h3 hf
    refine mv_lpick [0, 1] rfl ?_
    exact jn13 _ _ rfl hf
  · skip
    have hf := xif_f h3 hf
    refine mv_iload_n (pc := 6) B d_Model_run_6 rfl 1 rfl ?_
    refine mv_sipush (pc := 7) (v := 500) B d_Model_run_7 (by decide) ?_
    refine mv_icmp_le (pc := 10) (tgt := 17) B d_Model_run_10 rfl (fun h10 => ?_) (fun h10 => ?_)
    · skip
      have hf := xif_t h10 hf
      refine mv_aload_n (pc := 17) B d_Model_run_17 rfl 0 rfl ?_
      refine mv_getI (pc := 18) (ci := 11) (C := R_Model) (T := F_Model) (N := 16) B 11 rfl rfl (by decide) i_Model (B.2.2.2.1 _ k_2056) rfl d_Model_run_18 ?_
      refine mv_if_ne (pc := 21) (tgt := 38) B d_Model_run_21 rfl (fun h21 => ?_) (fun h21 => ?_)
      · skip
        have hf := xif_f h21 hf
        refine mv_lpick [0, 1] rfl ?_
        exact jn38 _ _ rfl hf
      · skip
        have hf := xif_t h21 hf
        refine mv_aload_n (pc := 24) B d_Model_run_24 rfl 0 rfl ?_
        refine mv_getR (pc := 25) (ci := 11) (C := R_Model) (T := F_Model) (N := 16) B 9 rfl rfl (by decide) i_Model (B.2.2.2.1 _ k_2054) rfl hb.2 d_Model_run_25 ?_
        refine mv_getI (pc := 28) (ci := 12) (C := R_Book) (T := F_Book) (N := 65) B 18 rfl rfl (by decide) i_Book (B.2.2.2.1 _ k_1863) rfl d_Model_run_28 ?_
        refine mv_if_ge (pc := 31) (tgt := 38) B d_Model_run_31 rfl (fun h31 => ?_) (fun h31 => ?_)
        · skip
          have hf := xif_t h31 hf
          refine mv_lpick [0, 1] rfl ?_
          exact jn38 _ _ rfl hf
        · skip
          have hf := xif_f h31 hf
          refine mv_iconst (pc := 34) (v := 2) B d_Model_run_34 (by decide) ?_
          refine mv_goto (pc := 35) (tgt := 39) B d_Model_run_35 rfl ?_
          refine mv_lpick [0, 1] rfl ?_
          exact jn39 _ _ _ rfl hf
    · skip
      have hf := xif_f h10 hf
      refine mv_lpick [0, 1] rfl ?_
      exact jn13 _ _ rfl hf
def f_Model_there_70 (P : Nat) (x2 : Int32) (y0 : Int32) (hz : mv_H) : Option (Int32 × mv_H) := if y0 = (0 : Int32) then (if x2 = (0 : Int32) then (bif xzb (1 : Int32) then some ((1 : Int32), hz) else none) else (bif xzb (0 : Int32) then some ((0 : Int32), hz) else none)) else (if y0 ≤ x2 then (bif xzb (0 : Int32) then some ((0 : Int32), hz) else none) else (bif xzb (1 : Int32) then some ((1 : Int32), hz) else none))
def f_Model_there_30 (P : Nat) (hz : mv_H) : Option (Int32 × mv_H) := bif xzb (0 : Int32) then some ((0 : Int32), hz) else none
def f_Model_there_23 (P : Nat) (x1 : Int32) (x2 : Int32) (y0 : Int32) (y1 : Int32) (hz : mv_H) : Option (Int32 × mv_H) := if y0 ≤ y1 then (f_Model_there_30 P  hz) else (if (0 : Int32) ≤ x2 then (if (mv_i hz 70 11) = (0 : Int32) then (xhb (f_Book_cellsOf P hz x1) fun u7 g6 => f_Model_there_70 P x2 u7 g6) else (if x1 = (0 : Int32) then (f_Model_there_70 P x2 (0 : Int32) hz) else (if x1 = (1 : Int32) then (f_Model_there_70 P x2 (32 : Int32) hz) else (f_Model_there_70 P x2 (32768 : Int32) hz)))) else (f_Model_there_30 P  hz))
def f_Model_there (P : Nat) (h : mv_H) (a0 : Int32) (a1 : Int32) : Option (Int32 × mv_H) := if a0 < (0 : Int32) then (f_Model_there_30 P  h) else (if (mv_i h 70 11) = (0 : Int32) then (f_Model_there_23 P a0 a1 (mv_i h P 17) a0 h) else (f_Model_there_23 P a0 a1 (3 : Int32) a0 h))
set_option maxHeartbeats 4000000 in
set_option maxRecDepth 100000 in
theorem ch_Model_there_x (l : Launch) {dA : FieldType → ClassId} {D : va_G} {al : Nat → Nat} {ext : mv_Sh} {sk sv : Nat → Nat} (hi : mv_inj (mg dA D al ext)) (h : mv_H) (hb : mh (mv_r h) ∧ mv_r h 70 9 = some 74)  (a0 : Int32) (a1 : Int32) {rv : Int32} {rg : mv_H} (hf : f_Model_there 74 h a0 a1 = some (rv, rg)) : mv_C l y_Model_there (Cond.code y_Model_there b_Model_there 4 (Option.some Jvm.ClassFile.FieldType.boolean) :: ma) ({ frames := 1, cells := 0, slots := 0, locals := 21 }) (mg dA D al ext) (mK sk sv) [.ref (al 70), .int a0, .int a1] h (mv_Ri (fun v σ1 => rv = v ∧ rg = σ1 ∧ mv_r σ1 = mv_r h)) := by
  refine mv_C.ofV (cc := b_Model_there) (nL := 4) (ret := (Option.some Jvm.ClassFile.FieldType.boolean)) (by decide +kernel) rfl hi (Nat.le_of_ble_eq_true rfl) ?_
  intro p e s m below meth c B hNs hr hnm hno
  have jn70 : ∀ (x2 : Int32) (y0 : Int32) (hz : mv_H), mv_r hz = mv_r h → f_Model_there_70 74 x2 y0 hz = some (rv, rg) → mv_V p l e ({ frames := 1, cells := 0, slots := 0, locals := 21 }) s m ([.ref (al 70), .int a0, .int a1] : List Value).toArray below meth c (mg dA D al ext) 4 0 0 (mv_Q (mg dA D al ext) below s 0 0 (mv_Ri (fun v σ1 => rv = v ∧ rg = σ1 ∧ mv_r σ1 = mv_r h))) hz 70 [(2, .int x2)] [.int y0] := by
    intro x2 y0 hz r_hz hf
    unfold f_Model_there_70 at hf
    refine mv_istore_n (pc := 70) B d_Model_there_70 rfl (by decide) rfl ?_
    refine mv_iload_n (pc := 71) B d_Model_there_71 rfl 0 rfl ?_
    refine mv_if_ne (pc := 72) (tgt := 87) B d_Model_there_72 rfl (fun h72 => ?_) (fun h72 => ?_)
    · skip
      have hf := xif_f h72 hf
      refine mv_iload_n (pc := 87) B d_Model_there_87 rfl 1 rfl ?_
      refine mv_iload_n (pc := 88) B d_Model_there_88 rfl 0 rfl ?_
      refine mv_icmp_ge (pc := 89) (tgt := 96) B d_Model_there_89 rfl (fun h89 => ?_) (fun h89 => ?_)
      · skip
        have hf := xif_t h89 hf
        refine mv_iconst (pc := 96) (v := 0) B d_Model_there_96 (by decide) ?_
        obtain ⟨q1, hf⟩ := xzb_e hf
        exact mv_iret (pc := 97) B hr (xzb_n q1) d_Model_there_97 (Nat.le_refl _) (Nat.le_refl _) ⟨_, rfl, xrh_i hf r_hz⟩
      · skip
        have hf := xif_f h89 hf
        refine mv_iconst (pc := 92) (v := 1) B d_Model_there_92 (by decide) ?_
        refine mv_goto (pc := 93) (tgt := 97) B d_Model_there_93 rfl ?_
        obtain ⟨q2, hf⟩ := xzb_e hf
        exact mv_iret (pc := 97) B hr (xzb_n q2) d_Model_there_97 (Nat.le_refl _) (Nat.le_refl _) ⟨_, rfl, xrh_i hf r_hz⟩
    · skip
      have hf := xif_t h72 hf
      refine mv_iload_n (pc := 75) B d_Model_there_75 rfl 1 rfl ?_
      refine mv_if_ne (pc := 76) (tgt := 83) B d_Model_there_76 rfl (fun h76 => ?_) (fun h76 => ?_)
      · skip
        have hf := xif_f h76 hf
        refine mv_iconst (pc := 83) (v := 0) B d_Model_there_83 (by decide) ?_
        refine mv_goto (pc := 84) (tgt := 97) B d_Model_there_84 rfl ?_
        obtain ⟨q3, hf⟩ := xzb_e hf
        exact mv_iret (pc := 97) B hr (xzb_n q3) d_Model_there_97 (Nat.le_refl _) (Nat.le_refl _) ⟨_, rfl, xrh_i hf r_hz⟩
      · skip
        have hf := xif_t h76 hf
        refine mv_iconst (pc := 79) (v := 1) B d_Model_there_79 (by decide) ?_
        refine mv_goto (pc := 80) (tgt := 97) B d_Model_there_80 rfl ?_
        obtain ⟨q4, hf⟩ := xzb_e hf
        exact mv_iret (pc := 97) B hr (xzb_n q4) d_Model_there_97 (Nat.le_refl _) (Nat.le_refl _) ⟨_, rfl, xrh_i hf r_hz⟩
  have jn30 : ∀ (hz : mv_H), mv_r hz = mv_r h → f_Model_there_30 74  hz = some (rv, rg) → mv_V p l e ({ frames := 1, cells := 0, slots := 0, locals := 21 }) s m ([.ref (al 70), .int a0, .int a1] : List Value).toArray below meth c (mg dA D al ext) 4 0 0 (mv_Q (mg dA D al ext) below s 0 0 (mv_Ri (fun v σ1 => rv = v ∧ rg = σ1 ∧ mv_r σ1 = mv_r h))) hz 30 [] [] := by
    intro  hz r_hz hf
    unfold f_Model_there_30 at hf
    refine mv_iconst (pc := 30) (v := 0) B d_Model_there_30 (by decide) ?_
    obtain ⟨q5, hf⟩ := xzb_e hf
    exact mv_iret (pc := 31) B hr (xzb_n q5) d_Model_there_31 (Nat.le_refl _) (Nat.le_refl _) ⟨_, rfl, xrh_i hf r_hz⟩
  have jn23 : ∀ (x1 : Int32) (x2 : Int32) (y0 : Int32) (y1 : Int32) (hz : mv_H), mv_r hz = mv_r h → f_Model_there_23 74 x1 x2 y0 y1 hz = some (rv, rg) → mv_V p l e ({ frames := 1, cells := 0, slots := 0, locals := 21 }) s m ([.ref (al 70), .int a0, .int a1] : List Value).toArray below meth c (mg dA D al ext) 4 0 0 (mv_Q (mg dA D al ext) below s 0 0 (mv_Ri (fun v σ1 => rv = v ∧ rg = σ1 ∧ mv_r σ1 = mv_r h))) hz 23 [(0, .ref (al 70)), (1, .int x1), (2, .int x2)] [.int y0, .int y1] := by
    intro x1 x2 y0 y1 hz r_hz hf
    unfold f_Model_there_23 at hf
    refine mv_icmp_ge (pc := 23) (tgt := 30) B d_Model_there_23 rfl (fun h23 => ?_) (fun h23 => ?_)
    · skip
      have hf := xif_t h23 hf
      refine mv_lpick [] rfl ?_
      exact jn30  _ r_hz hf
    · skip
      have hf := xif_f h23 hf
      refine mv_iload_n (pc := 26) B d_Model_there_26 rfl 2 rfl ?_
      refine mv_if_ge (pc := 27) (tgt := 32) B d_Model_there_27 rfl (fun h27 => ?_) (fun h27 => ?_)
      · skip
        have hf := xif_t h27 hf
        refine mv_aload_n (pc := 32) B d_Model_there_32 rfl 0 rfl ?_
        refine mv_getI (pc := 33) (ci := 11) (C := R_Model) (T := F_Model) (N := 16) B 11 rfl rfl (by decide) i_Model (B.2.2.2.1 _ k_2056) rfl d_Model_there_33 ?_
        refine mv_if_eq (pc := 36) (tgt := 62) B d_Model_there_36 rfl (fun h36 => ?_) (fun h36 => ?_)
        · skip
          have hf := xif_t h36 hf
          refine mv_aload_n (pc := 62) B d_Model_there_62 rfl 0 rfl ?_
          refine mv_getR (pc := 63) (ci := 11) (C := R_Model) (T := F_Model) (N := 16) B 9 rfl rfl (by decide) i_Model (B.2.2.2.1 _ k_2054) rfl ((congrFun (congrFun r_hz 70) 9).trans hb.2) d_Model_there_63 ?_
          refine mv_iload_n (pc := 66) B d_Model_there_66 rfl 1 rfl ?_
          obtain ⟨u7, g6, eg6, hf⟩ := xhb_e hf
          refine mv_callVi (pc := 67) (n := 1) (ci := 12) (C := R_Book) B (mK_ok sk sv) hNs rfl rfl (ch_Book_cellsOf_x l hi _ (xrw r_hz hb.1) _ eg6) rfl (ma_goodc kc_Book_cellsOf) (B.2.2.2.1 _ k_2419) (B.2.2.2.1 _ k_2420) (B.2.2.2.1 _ k_2421) (B.2.2.2.1 _ k_13) ⟨by decide +kernel, by decide +kernel, by decide +kernel⟩ rfl d_Model_there_67 rfl (Nat.le_of_ble_eq_true rfl) ⟨by first | decide | (dsimp only; omega), by first | decide | (dsimp only; omega)⟩ ⟨Nat.le_refl _, Nat.le_refl _⟩ ⟨Nat.le_refl _, Nat.le_refl _⟩ (mv_noH hno _) (fun w67 σ67 h67 => ?_)
          obtain ⟨rfl, rfl, s_g6⟩ := h67
          have r_g6 : mv_r g6 = mv_r h := s_g6.trans r_hz
          refine mv_lpick [2] rfl ?_
          exact jn70 _ _ _ r_g6 hf
        · skip
          have hf := xif_f h36 hf
          refine mv_iload_n (pc := 39) B d_Model_there_39 rfl 1 rfl ?_
          refine mv_if_ne (pc := 40) (tgt := 47) B d_Model_there_40 rfl (fun h40 => ?_) (fun h40 => ?_)
          · skip
            have hf := xif_f h40 hf
            refine mv_iload_n (pc := 47) B d_Model_there_47 rfl 1 rfl ?_
            refine mv_iconst (pc := 48) (v := 1) B d_Model_there_48 (by decide) ?_
            refine mv_icmp_ne (pc := 49) (tgt := 57) B d_Model_there_49 rfl (fun h49 => ?_) (fun h49 => ?_)
            · skip
              have hf := xif_f h49 hf
              refine mv_ldc (pc := 57) (v := 32768) B (B.2.2.2.1 _ k_1815) d_Model_there_57 ?_
              refine mv_goto (pc := 59) (tgt := 70) B d_Model_there_59 rfl ?_
              refine mv_lpick [2] rfl ?_
              exact jn70 _ _ _ r_hz hf
            · skip
              have hf := xif_t h49 hf
              refine mv_bipush (pc := 52) (v := 32) B d_Model_there_52 (by decide) ?_
              refine mv_goto (pc := 54) (tgt := 70) B d_Model_there_54 rfl ?_
              refine mv_lpick [2] rfl ?_
              exact jn70 _ _ _ r_hz hf
          · skip
            have hf := xif_t h40 hf
            refine mv_iconst (pc := 43) (v := 0) B d_Model_there_43 (by decide) ?_
            refine mv_goto (pc := 44) (tgt := 70) B d_Model_there_44 rfl ?_
            refine mv_lpick [2] rfl ?_
            exact jn70 _ _ _ r_hz hf
      · skip
        have hf := xif_f h27 hf
        refine mv_lpick [] rfl ?_
        exact jn30  _ r_hz hf
  unfold f_Model_there at hf
  refine mv_iload_n (pc := 0) B d_Model_there_0 rfl 1 rfl ?_
  refine mv_if_lt (pc := 1) (tgt := 30) B d_Model_there_1 rfl (fun h1 => ?_) (fun h1 => ?_)
  · skip
    have hf := xif_t h1 hf
    refine mv_lpick [] rfl ?_
    exact jn30  _ rfl hf
  · skip
    have hf := xif_f h1 hf
    refine mv_iload_n (pc := 4) B d_Model_there_4 rfl 1 rfl ?_
    refine mv_aload_n (pc := 5) B d_Model_there_5 rfl 0 rfl ?_
    refine mv_getI (pc := 6) (ci := 11) (C := R_Model) (T := F_Model) (N := 16) B 11 rfl rfl (by decide) i_Model (B.2.2.2.1 _ k_2056) rfl d_Model_there_6 ?_
    refine mv_if_eq (pc := 9) (tgt := 16) B d_Model_there_9 rfl (fun h9 => ?_) (fun h9 => ?_)
    · skip
      have hf := xif_t h9 hf
      refine mv_aload_n (pc := 16) B d_Model_there_16 rfl 0 rfl ?_
      refine mv_getR (pc := 17) (ci := 11) (C := R_Model) (T := F_Model) (N := 16) B 9 rfl rfl (by decide) i_Model (B.2.2.2.1 _ k_2054) rfl hb.2 d_Model_there_17 ?_
      refine mv_getI (pc := 20) (ci := 12) (C := R_Book) (T := F_Book) (N := 65) B 17 rfl rfl (by decide) i_Book (B.2.2.2.1 _ k_1861) rfl d_Model_there_20 ?_
      refine mv_lpick [0, 1, 2] rfl ?_
      exact jn23 _ _ _ _ _ rfl hf
    · skip
      have hf := xif_f h9 hf
      refine mv_iconst (pc := 12) (v := 3) B d_Model_there_12 (by decide) ?_
      refine mv_goto (pc := 13) (tgt := 23) B d_Model_there_13 rfl ?_
      refine mv_lpick [0, 1, 2] rfl ?_
      exact jn23 _ _ _ _ _ rfl hf
set_option maxHeartbeats 4000000 in
set_option maxRecDepth 100000 in
theorem ch_Model_there_y (l : Launch) {dA : FieldType → ClassId} {D : va_G} {al : Nat → Nat} {ext : mv_Sh} {sk sv : Nat → Nat} (hi : mv_inj (mg dA D al ext)) (h : mv_H) (hb : mh (mv_r h) ∧ mv_r h 70 9 = some 108)  (a0 : Int32) (a1 : Int32) {rv : Int32} {rg : mv_H} (hf : f_Model_there 108 h a0 a1 = some (rv, rg)) : mv_C l y_Model_there (Cond.code y_Model_there b_Model_there 4 (Option.some Jvm.ClassFile.FieldType.boolean) :: ma) ({ frames := 1, cells := 0, slots := 0, locals := 21 }) (mg dA D al ext) (mK sk sv) [.ref (al 70), .int a0, .int a1] h (mv_Ri (fun v σ1 => rv = v ∧ rg = σ1 ∧ mv_r σ1 = mv_r h)) := by
  refine mv_C.ofV (cc := b_Model_there) (nL := 4) (ret := (Option.some Jvm.ClassFile.FieldType.boolean)) (by decide +kernel) rfl hi (Nat.le_of_ble_eq_true rfl) ?_
  intro p e s m below meth c B hNs hr hnm hno
  have jn70 : ∀ (x2 : Int32) (y0 : Int32) (hz : mv_H), mv_r hz = mv_r h → f_Model_there_70 108 x2 y0 hz = some (rv, rg) → mv_V p l e ({ frames := 1, cells := 0, slots := 0, locals := 21 }) s m ([.ref (al 70), .int a0, .int a1] : List Value).toArray below meth c (mg dA D al ext) 4 0 0 (mv_Q (mg dA D al ext) below s 0 0 (mv_Ri (fun v σ1 => rv = v ∧ rg = σ1 ∧ mv_r σ1 = mv_r h))) hz 70 [(2, .int x2)] [.int y0] := by
    intro x2 y0 hz r_hz hf
    unfold f_Model_there_70 at hf
    refine mv_istore_n (pc := 70) B d_Model_there_70 rfl (by decide) rfl ?_
    refine mv_iload_n (pc := 71) B d_Model_there_71 rfl 0 rfl ?_
    refine mv_if_ne (pc := 72) (tgt := 87) B d_Model_there_72 rfl (fun h72 => ?_) (fun h72 => ?_)
    · skip
      have hf := xif_f h72 hf
      refine mv_iload_n (pc := 87) B d_Model_there_87 rfl 1 rfl ?_
      refine mv_iload_n (pc := 88) B d_Model_there_88 rfl 0 rfl ?_
      refine mv_icmp_ge (pc := 89) (tgt := 96) B d_Model_there_89 rfl (fun h89 => ?_) (fun h89 => ?_)
      · skip
        have hf := xif_t h89 hf
        refine mv_iconst (pc := 96) (v := 0) B d_Model_there_96 (by decide) ?_
        obtain ⟨q1, hf⟩ := xzb_e hf
        exact mv_iret (pc := 97) B hr (xzb_n q1) d_Model_there_97 (Nat.le_refl _) (Nat.le_refl _) ⟨_, rfl, xrh_i hf r_hz⟩
      · skip
        have hf := xif_f h89 hf
        refine mv_iconst (pc := 92) (v := 1) B d_Model_there_92 (by decide) ?_
        refine mv_goto (pc := 93) (tgt := 97) B d_Model_there_93 rfl ?_
        obtain ⟨q2, hf⟩ := xzb_e hf
        exact mv_iret (pc := 97) B hr (xzb_n q2) d_Model_there_97 (Nat.le_refl _) (Nat.le_refl _) ⟨_, rfl, xrh_i hf r_hz⟩
    · skip
      have hf := xif_t h72 hf
      refine mv_iload_n (pc := 75) B d_Model_there_75 rfl 1 rfl ?_
      refine mv_if_ne (pc := 76) (tgt := 83) B d_Model_there_76 rfl (fun h76 => ?_) (fun h76 => ?_)
      · skip
        have hf := xif_f h76 hf
        refine mv_iconst (pc := 83) (v := 0) B d_Model_there_83 (by decide) ?_
        refine mv_goto (pc := 84) (tgt := 97) B d_Model_there_84 rfl ?_
        obtain ⟨q3, hf⟩ := xzb_e hf
        exact mv_iret (pc := 97) B hr (xzb_n q3) d_Model_there_97 (Nat.le_refl _) (Nat.le_refl _) ⟨_, rfl, xrh_i hf r_hz⟩
      · skip
        have hf := xif_t h76 hf
        refine mv_iconst (pc := 79) (v := 1) B d_Model_there_79 (by decide) ?_
        refine mv_goto (pc := 80) (tgt := 97) B d_Model_there_80 rfl ?_
        obtain ⟨q4, hf⟩ := xzb_e hf
        exact mv_iret (pc := 97) B hr (xzb_n q4) d_Model_there_97 (Nat.le_refl _) (Nat.le_refl _) ⟨_, rfl, xrh_i hf r_hz⟩
  have jn30 : ∀ (hz : mv_H), mv_r hz = mv_r h → f_Model_there_30 108  hz = some (rv, rg) → mv_V p l e ({ frames := 1, cells := 0, slots := 0, locals := 21 }) s m ([.ref (al 70), .int a0, .int a1] : List Value).toArray below meth c (mg dA D al ext) 4 0 0 (mv_Q (mg dA D al ext) below s 0 0 (mv_Ri (fun v σ1 => rv = v ∧ rg = σ1 ∧ mv_r σ1 = mv_r h))) hz 30 [] [] := by
    intro  hz r_hz hf
    unfold f_Model_there_30 at hf
    refine mv_iconst (pc := 30) (v := 0) B d_Model_there_30 (by decide) ?_
    obtain ⟨q5, hf⟩ := xzb_e hf
    exact mv_iret (pc := 31) B hr (xzb_n q5) d_Model_there_31 (Nat.le_refl _) (Nat.le_refl _) ⟨_, rfl, xrh_i hf r_hz⟩
  have jn23 : ∀ (x1 : Int32) (x2 : Int32) (y0 : Int32) (y1 : Int32) (hz : mv_H), mv_r hz = mv_r h → f_Model_there_23 108 x1 x2 y0 y1 hz = some (rv, rg) → mv_V p l e ({ frames := 1, cells := 0, slots := 0, locals := 21 }) s m ([.ref (al 70), .int a0, .int a1] : List Value).toArray below meth c (mg dA D al ext) 4 0 0 (mv_Q (mg dA D al ext) below s 0 0 (mv_Ri (fun v σ1 => rv = v ∧ rg = σ1 ∧ mv_r σ1 = mv_r h))) hz 23 [(0, .ref (al 70)), (1, .int x1), (2, .int x2)] [.int y0, .int y1] := by
    intro x1 x2 y0 y1 hz r_hz hf
    unfold f_Model_there_23 at hf
    refine mv_icmp_ge (pc := 23) (tgt := 30) B d_Model_there_23 rfl (fun h23 => ?_) (fun h23 => ?_)
    · skip
      have hf := xif_t h23 hf
      refine mv_lpick [] rfl ?_
      exact jn30  _ r_hz hf
    · skip
      have hf := xif_f h23 hf
      refine mv_iload_n (pc := 26) B d_Model_there_26 rfl 2 rfl ?_
      refine mv_if_ge (pc := 27) (tgt := 32) B d_Model_there_27 rfl (fun h27 => ?_) (fun h27 => ?_)
      · skip
        have hf := xif_t h27 hf
        refine mv_aload_n (pc := 32) B d_Model_there_32 rfl 0 rfl ?_
        refine mv_getI (pc := 33) (ci := 11) (C := R_Model) (T := F_Model) (N := 16) B 11 rfl rfl (by decide) i_Model (B.2.2.2.1 _ k_2056) rfl d_Model_there_33 ?_
        refine mv_if_eq (pc := 36) (tgt := 62) B d_Model_there_36 rfl (fun h36 => ?_) (fun h36 => ?_)
        · skip
          have hf := xif_t h36 hf
          refine mv_aload_n (pc := 62) B d_Model_there_62 rfl 0 rfl ?_
          refine mv_getR (pc := 63) (ci := 11) (C := R_Model) (T := F_Model) (N := 16) B 9 rfl rfl (by decide) i_Model (B.2.2.2.1 _ k_2054) rfl ((congrFun (congrFun r_hz 70) 9).trans hb.2) d_Model_there_63 ?_
          refine mv_iload_n (pc := 66) B d_Model_there_66 rfl 1 rfl ?_
          obtain ⟨u7, g6, eg6, hf⟩ := xhb_e hf
          refine mv_callVi (pc := 67) (n := 1) (ci := 12) (C := R_Book) B (mK_ok sk sv) hNs rfl rfl (ch_Book_cellsOf_y l hi _ (xrw r_hz hb.1) _ eg6) rfl (ma_goodc kc_Book_cellsOf) (B.2.2.2.1 _ k_2419) (B.2.2.2.1 _ k_2420) (B.2.2.2.1 _ k_2421) (B.2.2.2.1 _ k_13) ⟨by decide +kernel, by decide +kernel, by decide +kernel⟩ rfl d_Model_there_67 rfl (Nat.le_of_ble_eq_true rfl) ⟨by first | decide | (dsimp only; omega), by first | decide | (dsimp only; omega)⟩ ⟨Nat.le_refl _, Nat.le_refl _⟩ ⟨Nat.le_refl _, Nat.le_refl _⟩ (mv_noH hno _) (fun w67 σ67 h67 => ?_)
          obtain ⟨rfl, rfl, s_g6⟩ := h67
          have r_g6 : mv_r g6 = mv_r h := s_g6.trans r_hz
          refine mv_lpick [2] rfl ?_
          exact jn70 _ _ _ r_g6 hf
        · skip
          have hf := xif_f h36 hf
          refine mv_iload_n (pc := 39) B d_Model_there_39 rfl 1 rfl ?_
          refine mv_if_ne (pc := 40) (tgt := 47) B d_Model_there_40 rfl (fun h40 => ?_) (fun h40 => ?_)
          · skip
            have hf := xif_f h40 hf
            refine mv_iload_n (pc := 47) B d_Model_there_47 rfl 1 rfl ?_
            refine mv_iconst (pc := 48) (v := 1) B d_Model_there_48 (by decide) ?_
            refine mv_icmp_ne (pc := 49) (tgt := 57) B d_Model_there_49 rfl (fun h49 => ?_) (fun h49 => ?_)
            · skip
              have hf := xif_f h49 hf
              refine mv_ldc (pc := 57) (v := 32768) B (B.2.2.2.1 _ k_1815) d_Model_there_57 ?_
              refine mv_goto (pc := 59) (tgt := 70) B d_Model_there_59 rfl ?_
              refine mv_lpick [2] rfl ?_
              exact jn70 _ _ _ r_hz hf
            · skip
              have hf := xif_t h49 hf
              refine mv_bipush (pc := 52) (v := 32) B d_Model_there_52 (by decide) ?_
              refine mv_goto (pc := 54) (tgt := 70) B d_Model_there_54 rfl ?_
              refine mv_lpick [2] rfl ?_
              exact jn70 _ _ _ r_hz hf
          · skip
            have hf := xif_t h40 hf
            refine mv_iconst (pc := 43) (v := 0) B d_Model_there_43 (by decide) ?_
            refine mv_goto (pc := 44) (tgt := 70) B d_Model_there_44 rfl ?_
            refine mv_lpick [2] rfl ?_
            exact jn70 _ _ _ r_hz hf
      · skip
        have hf := xif_f h27 hf
        refine mv_lpick [] rfl ?_
        exact jn30  _ r_hz hf
  unfold f_Model_there at hf
  refine mv_iload_n (pc := 0) B d_Model_there_0 rfl 1 rfl ?_
  refine mv_if_lt (pc := 1) (tgt := 30) B d_Model_there_1 rfl (fun h1 => ?_) (fun h1 => ?_)
  · skip
    have hf := xif_t h1 hf
    refine mv_lpick [] rfl ?_
    exact jn30  _ rfl hf
  · skip
    have hf := xif_f h1 hf
    refine mv_iload_n (pc := 4) B d_Model_there_4 rfl 1 rfl ?_
    refine mv_aload_n (pc := 5) B d_Model_there_5 rfl 0 rfl ?_
    refine mv_getI (pc := 6) (ci := 11) (C := R_Model) (T := F_Model) (N := 16) B 11 rfl rfl (by decide) i_Model (B.2.2.2.1 _ k_2056) rfl d_Model_there_6 ?_
    refine mv_if_eq (pc := 9) (tgt := 16) B d_Model_there_9 rfl (fun h9 => ?_) (fun h9 => ?_)
    · skip
      have hf := xif_t h9 hf
      refine mv_aload_n (pc := 16) B d_Model_there_16 rfl 0 rfl ?_
      refine mv_getR (pc := 17) (ci := 11) (C := R_Model) (T := F_Model) (N := 16) B 9 rfl rfl (by decide) i_Model (B.2.2.2.1 _ k_2054) rfl hb.2 d_Model_there_17 ?_
      refine mv_getI (pc := 20) (ci := 12) (C := R_Book) (T := F_Book) (N := 65) B 17 rfl rfl (by decide) i_Book (B.2.2.2.1 _ k_1861) rfl d_Model_there_20 ?_
      refine mv_lpick [0, 1, 2] rfl ?_
      exact jn23 _ _ _ _ _ rfl hf
    · skip
      have hf := xif_f h9 hf
      refine mv_iconst (pc := 12) (v := 3) B d_Model_there_12 (by decide) ?_
      refine mv_goto (pc := 13) (tgt := 23) B d_Model_there_13 rfl ?_
      refine mv_lpick [0, 1, 2] rfl ?_
      exact jn23 _ _ _ _ _ rfl hf
def f_Model_poke_15 (P : Nat) (x1 : Int32) (x2 : Int32) (x3 : Int64) (y0 : Int32) (hz : mv_H) : Option mv_H := xk (mv_si hz 70 2 y0) fun g1 => if (mv_i g1 70 2) ≤ (0 : Int32) then (if (mv_i g1 70 11) = (0 : Int32) then (xhv (f_Book_poke P g1 x1 x2 x3) fun g7 => some g7) else (if x1 = (0 : Int32) then (xk (mv_si g1 70 6 ((x3).toInt32)) fun g6 => some g6) else (if x1 = (1 : Int32) then (xhv (f_Model_set P g1 x2 ((x3).toInt32)) fun g4 => some g4) else (bif xvi x2 32768 then xk (mv_sa g1 73 (x2).toNatClampNeg (vp_nar .byte ((((x3).toInt32)).toInt8.toInt32))) fun g3 => some g3 else none)))) else (some g1)
def f_Model_poke (P : Nat) (h : mv_H) (a0 : Int32) (a1 : Int32) (a2 : Int64) : Option mv_H := xhb (f_Model_there P h a0 a1) fun u10 g9 => if u10 = (0 : Int32) then (f_Model_poke_15 P a0 a1 a2 (1 : Int32) g9) else (f_Model_poke_15 P a0 a1 a2 (0 : Int32) g9)
set_option maxHeartbeats 4000000 in
set_option maxRecDepth 100000 in
theorem ch_Model_poke_x (l : Launch) {dA : FieldType → ClassId} {D : va_G} {al : Nat → Nat} {ext : mv_Sh} {sk sv : Nat → Nat} (hi : mv_inj (mg dA D al ext)) (h : mv_H) (hb : mh (mv_r h) ∧ mv_r h 70 9 = some 74)  (a0 : Int32) (a1 : Int32) (a2 : Int64) {rg : mv_H} (hf : f_Model_poke 74 h a0 a1 a2 = some rg) : mv_C l y_Model_poke (Cond.code y_Model_poke b_Model_poke 5 (Option.none : Option Jvm.ClassFile.FieldType) :: ma) ({ frames := 2, cells := 0, slots := 0, locals := 46 }) (mg dA D al ext) (mK sk sv) [.ref (al 70), .int a0, .int a1, .long a2] h (mv_Rv (fun σ1 => rg = σ1 ∧ mv_r σ1 = mv_r h)) := by
  refine mv_C.ofV (cc := b_Model_poke) (nL := 5) (ret := (Option.none : Option Jvm.ClassFile.FieldType)) (by decide +kernel) rfl hi (Nat.le_of_ble_eq_true rfl) ?_
  intro p e s m below meth c B hNs hr hnm hno
  have jn15 : ∀ (x1 : Int32) (x2 : Int32) (x3 : Int64) (y0 : Int32) (hz : mv_H), mv_r hz = mv_r h → f_Model_poke_15 74 x1 x2 x3 y0 hz = some rg → mv_V p l e ({ frames := 2, cells := 0, slots := 0, locals := 46 }) s m ([.ref (al 70), .int a0, .int a1, .long a2] : List Value).toArray below meth c (mg dA D al ext) 5 0 0 (mv_Q (mg dA D al ext) below s 0 0 (mv_Rv (fun σ1 => rg = σ1 ∧ mv_r σ1 = mv_r h))) hz 15 [(0, .ref (al 70)), (1, .int x1), (2, .int x2), (3, .long x3)] [.int y0, .ref (al 70)] := by
    intro x1 x2 x3 y0 hz r_hz hf
    unfold f_Model_poke_15 at hf
    refine mv_putI (pc := 15) (ci := 11) (C := R_Model) (T := F_Model) (N := 16) B 2 rfl rfl (by decide) i_Model t_Model_ok n_Model (B.2.2.2.1 _ k_2047) rfl rfl rfl rfl d_Model_poke_15 ?_
    refine mvh_hp (R9 := mv_r h) hf r_hz (fun g1 hf r_g1 => ?_)
    refine mv_aload_n (pc := 18) B d_Model_poke_18 rfl 0 rfl ?_
    refine mv_getI (pc := 19) (ci := 11) (C := R_Model) (T := F_Model) (N := 16) B 2 rfl rfl (by decide) i_Model (B.2.2.2.1 _ k_2047) rfl d_Model_poke_19 ?_
    refine mv_if_le (pc := 22) (tgt := 26) B d_Model_poke_22 rfl (fun h22 => ?_) (fun h22 => ?_)
    · skip
      have hf := xif_t h22 hf
      refine mv_aload_n (pc := 26) B d_Model_poke_26 rfl 0 rfl ?_
      refine mv_getI (pc := 27) (ci := 11) (C := R_Model) (T := F_Model) (N := 16) B 11 rfl rfl (by decide) i_Model (B.2.2.2.1 _ k_2056) rfl d_Model_poke_27 ?_
      refine mv_if_ne (pc := 30) (tgt := 46) B d_Model_poke_30 rfl (fun h30 => ?_) (fun h30 => ?_)
      · skip
        have hf := xif_f h30 hf
        refine mv_iload_n (pc := 46) B d_Model_poke_46 rfl 1 rfl ?_
        refine mv_if_ne (pc := 47) (tgt := 59) B d_Model_poke_47 rfl (fun h47 => ?_) (fun h47 => ?_)
        · skip
          have hf := xif_f h47 hf
          refine mv_iload_n (pc := 59) B d_Model_poke_59 rfl 1 rfl ?_
          refine mv_iconst (pc := 60) (v := 1) B d_Model_poke_60 (by decide) ?_
          refine mv_icmp_ne (pc := 61) (tgt := 74) B d_Model_poke_61 rfl (fun h61 => ?_) (fun h61 => ?_)
          · skip
            have hf := xif_f h61 hf
            refine mv_aload_n (pc := 74) B d_Model_poke_74 rfl 0 rfl ?_
            refine mv_getR (pc := 75) (ci := 11) (C := R_Model) (T := F_Model) (N := 16) B 8 rfl rfl (by decide) i_Model (B.2.2.2.1 _ k_2053) rfl ((congrFun (congrFun r_g1 70) 8).trans (hb.1 70 8 _ rfl)) d_Model_poke_75 ?_
            refine mv_iload_n (pc := 78) B d_Model_poke_78 rfl 2 rfl ?_
            refine mv_lload_n (pc := 79) B d_Model_poke_79 rfl 3 rfl ?_
            refine mv_l2i (pc := 80) B d_Model_poke_80 ?_
            refine mv_i2b (pc := 81) B d_Model_poke_81 ?_
            obtain ⟨q2, hf⟩ := xvi_e hf
            refine mv_bast (pc := 82) B rfl q2 d_Model_poke_82 ?_
            refine mvh_hp (R9 := mv_r h) hf r_g1 (fun g3 hf r_g3 => ?_)
            exact mv_vret (pc := 83) B hr d_Model_poke_83 (Nat.le_refl _) (Nat.le_refl _) ⟨rfl, xrh_v hf r_g3⟩
          · skip
            have hf := xif_t h61 hf
            refine mv_aload_n (pc := 64) B d_Model_poke_64 rfl 0 rfl ?_
            refine mv_iload_n (pc := 65) B d_Model_poke_65 rfl 2 rfl ?_
            refine mv_lload_n (pc := 66) B d_Model_poke_66 rfl 3 rfl ?_
            refine mv_l2i (pc := 67) B d_Model_poke_67 ?_
            obtain ⟨g4, eg4, hf⟩ := xhv_e hf
            refine mv_callVv (pc := 68) (n := 2) (ci := 11) (C := R_Model) B (mK_ok sk sv) hNs rfl rfl (ch_Model_set_x l hi _ (⟨xrw r_g1 hb.1, (congrFun (congrFun r_g1 70) 9).trans hb.2⟩) _ _ eg4) rfl (ma_goodc kc_Model_set) (B.2.2.2.1 _ k_2430) (B.2.2.2.1 _ k_2432) (B.2.2.2.1 _ ks_125) (B.2.2.2.1 _ k_12) ⟨by decide +kernel, by decide +kernel, by decide +kernel⟩ rfl d_Model_poke_68 rfl (Nat.le_of_ble_eq_true rfl) ⟨by first | decide | (dsimp only; omega), by first | decide | (dsimp only; omega)⟩ ⟨Nat.le_refl _, Nat.le_refl _⟩ ⟨Nat.le_refl _, Nat.le_refl _⟩ (mv_noH hno _) (fun σ68 h68 => ?_)
            obtain ⟨rfl, s_g4⟩ := h68
            have r_g4 : mv_r g4 = mv_r h := s_g4.trans r_g1
            refine mv_goto (pc := 71) (tgt := 83) B d_Model_poke_71 rfl ?_
            exact mv_vret (pc := 83) B hr d_Model_poke_83 (Nat.le_refl _) (Nat.le_refl _) ⟨rfl, xrh_v hf r_g4⟩
        · skip
          have hf := xif_t h47 hf
          refine mv_aload_n (pc := 50) B d_Model_poke_50 rfl 0 rfl ?_
          refine mv_lload_n (pc := 51) B d_Model_poke_51 rfl 3 rfl ?_
          refine mv_l2i (pc := 52) B d_Model_poke_52 ?_
          refine mv_putI (pc := 53) (ci := 11) (C := R_Model) (T := F_Model) (N := 16) B 6 rfl rfl (by decide) i_Model t_Model_ok n_Model (B.2.2.2.1 _ k_2051) rfl rfl rfl rfl d_Model_poke_53 ?_
          refine mvh_hp (R9 := mv_r h) hf r_g1 (fun g6 hf r_g6 => ?_)
          refine mv_goto (pc := 56) (tgt := 83) B d_Model_poke_56 rfl ?_
          exact mv_vret (pc := 83) B hr d_Model_poke_83 (Nat.le_refl _) (Nat.le_refl _) ⟨rfl, xrh_v hf r_g6⟩
      · skip
        have hf := xif_t h30 hf
        refine mv_aload_n (pc := 33) B d_Model_poke_33 rfl 0 rfl ?_
        refine mv_getR (pc := 34) (ci := 11) (C := R_Model) (T := F_Model) (N := 16) B 9 rfl rfl (by decide) i_Model (B.2.2.2.1 _ k_2054) rfl ((congrFun (congrFun r_g1 70) 9).trans hb.2) d_Model_poke_34 ?_
        refine mv_iload_n (pc := 37) B d_Model_poke_37 rfl 1 rfl ?_
        refine mv_iload_n (pc := 38) B d_Model_poke_38 rfl 2 rfl ?_
        refine mv_lload_n (pc := 39) B d_Model_poke_39 rfl 3 rfl ?_
        obtain ⟨g7, eg7, hf⟩ := xhv_e hf
        refine mv_callVv (pc := 40) (n := 3) (ci := 12) (C := R_Book) B (mK_ok sk sv) hNs rfl rfl (ch_Book_poke_x l hi _ (xrw r_g1 hb.1) _ _ _ eg7) rfl (ma_goodc kc_Book_poke) (B.2.2.2.1 _ k_2423) (B.2.2.2.1 _ k_2424) (B.2.2.2.1 _ k_2425) (B.2.2.2.1 _ k_13) ⟨by decide +kernel, by decide +kernel, by decide +kernel⟩ rfl d_Model_poke_40 rfl (Nat.le_of_ble_eq_true rfl) ⟨by first | decide | (dsimp only; omega), by first | decide | (dsimp only; omega)⟩ ⟨Nat.le_refl _, Nat.le_refl _⟩ ⟨Nat.le_refl _, Nat.le_refl _⟩ (mv_noH hno _) (fun σ40 h40 => ?_)
        obtain ⟨rfl, s_g7⟩ := h40
        have r_g7 : mv_r g7 = mv_r h := s_g7.trans r_g1
        refine mv_goto (pc := 43) (tgt := 83) B d_Model_poke_43 rfl ?_
        exact mv_vret (pc := 83) B hr d_Model_poke_83 (Nat.le_refl _) (Nat.le_refl _) ⟨rfl, xrh_v hf r_g7⟩
    · skip
      have hf := xif_f h22 hf
      exact mv_vret (pc := 25) B hr d_Model_poke_25 (Nat.le_refl _) (Nat.le_refl _) ⟨rfl, xrh_v hf r_g1⟩
  unfold f_Model_poke at hf
  refine mv_aload_n (pc := 0) B d_Model_poke_0 rfl 0 rfl ?_
  refine mv_aload_n (pc := 1) B d_Model_poke_1 rfl 0 rfl ?_
  refine mv_iload_n (pc := 2) B d_Model_poke_2 rfl 1 rfl ?_
  refine mv_iload_n (pc := 3) B d_Model_poke_3 rfl 2 rfl ?_
  obtain ⟨u10, g9, eg9, hf⟩ := xhb_e hf
  refine mv_callVi (pc := 4) (n := 2) (ci := 11) (C := R_Model) B (mK_ok sk sv) hNs rfl rfl (ch_Model_there_x l hi _ (hb) _ _ eg9) rfl (ma_goodc kc_Model_there) (B.2.2.2.1 _ k_2415) (B.2.2.2.1 _ k_2417) (B.2.2.2.1 _ ks_124) (B.2.2.2.1 _ k_12) ⟨by decide +kernel, by decide +kernel, by decide +kernel⟩ rfl d_Model_poke_4 rfl (Nat.le_of_ble_eq_true rfl) ⟨by first | decide | (dsimp only; omega), by first | decide | (dsimp only; omega)⟩ ⟨Nat.le_refl _, Nat.le_refl _⟩ ⟨Nat.le_refl _, Nat.le_refl _⟩ (mv_noH hno _) (fun w4 σ4 h4 => ?_)
  obtain ⟨rfl, rfl, s_g9⟩ := h4
  have r_g9 : mv_r g9 = mv_r h := s_g9.trans rfl
  refine mv_if_eq (pc := 7) (tgt := 14) B d_Model_poke_7 rfl (fun h7 => ?_) (fun h7 => ?_)
  · skip
    have hf := xif_t h7 hf
    refine mv_iconst (pc := 14) (v := 1) B d_Model_poke_14 (by decide) ?_
    refine mv_lpick [0, 1, 2, 3] rfl ?_
    exact jn15 _ _ _ _ _ r_g9 hf
  · skip
    have hf := xif_f h7 hf
    refine mv_iconst (pc := 10) (v := 0) B d_Model_poke_10 (by decide) ?_
    refine mv_goto (pc := 11) (tgt := 15) B d_Model_poke_11 rfl ?_
    refine mv_lpick [0, 1, 2, 3] rfl ?_
    exact jn15 _ _ _ _ _ r_g9 hf
set_option maxHeartbeats 4000000 in
set_option maxRecDepth 100000 in
theorem ch_Model_poke_y (l : Launch) {dA : FieldType → ClassId} {D : va_G} {al : Nat → Nat} {ext : mv_Sh} {sk sv : Nat → Nat} (hi : mv_inj (mg dA D al ext)) (h : mv_H) (hb : mh (mv_r h) ∧ mv_r h 70 9 = some 108)  (a0 : Int32) (a1 : Int32) (a2 : Int64) {rg : mv_H} (hf : f_Model_poke 108 h a0 a1 a2 = some rg) : mv_C l y_Model_poke (Cond.code y_Model_poke b_Model_poke 5 (Option.none : Option Jvm.ClassFile.FieldType) :: ma) ({ frames := 2, cells := 0, slots := 0, locals := 46 }) (mg dA D al ext) (mK sk sv) [.ref (al 70), .int a0, .int a1, .long a2] h (mv_Rv (fun σ1 => rg = σ1 ∧ mv_r σ1 = mv_r h)) := by
  refine mv_C.ofV (cc := b_Model_poke) (nL := 5) (ret := (Option.none : Option Jvm.ClassFile.FieldType)) (by decide +kernel) rfl hi (Nat.le_of_ble_eq_true rfl) ?_
  intro p e s m below meth c B hNs hr hnm hno
  have jn15 : ∀ (x1 : Int32) (x2 : Int32) (x3 : Int64) (y0 : Int32) (hz : mv_H), mv_r hz = mv_r h → f_Model_poke_15 108 x1 x2 x3 y0 hz = some rg → mv_V p l e ({ frames := 2, cells := 0, slots := 0, locals := 46 }) s m ([.ref (al 70), .int a0, .int a1, .long a2] : List Value).toArray below meth c (mg dA D al ext) 5 0 0 (mv_Q (mg dA D al ext) below s 0 0 (mv_Rv (fun σ1 => rg = σ1 ∧ mv_r σ1 = mv_r h))) hz 15 [(0, .ref (al 70)), (1, .int x1), (2, .int x2), (3, .long x3)] [.int y0, .ref (al 70)] := by
    intro x1 x2 x3 y0 hz r_hz hf
    unfold f_Model_poke_15 at hf
    refine mv_putI (pc := 15) (ci := 11) (C := R_Model) (T := F_Model) (N := 16) B 2 rfl rfl (by decide) i_Model t_Model_ok n_Model (B.2.2.2.1 _ k_2047) rfl rfl rfl rfl d_Model_poke_15 ?_
    refine mvh_hp (R9 := mv_r h) hf r_hz (fun g1 hf r_g1 => ?_)
    refine mv_aload_n (pc := 18) B d_Model_poke_18 rfl 0 rfl ?_
    refine mv_getI (pc := 19) (ci := 11) (C := R_Model) (T := F_Model) (N := 16) B 2 rfl rfl (by decide) i_Model (B.2.2.2.1 _ k_2047) rfl d_Model_poke_19 ?_
    refine mv_if_le (pc := 22) (tgt := 26) B d_Model_poke_22 rfl (fun h22 => ?_) (fun h22 => ?_)
    · skip
      have hf := xif_t h22 hf
      refine mv_aload_n (pc := 26) B d_Model_poke_26 rfl 0 rfl ?_
      refine mv_getI (pc := 27) (ci := 11) (C := R_Model) (T := F_Model) (N := 16) B 11 rfl rfl (by decide) i_Model (B.2.2.2.1 _ k_2056) rfl d_Model_poke_27 ?_
      refine mv_if_ne (pc := 30) (tgt := 46) B d_Model_poke_30 rfl (fun h30 => ?_) (fun h30 => ?_)
      · skip
        have hf := xif_f h30 hf
        refine mv_iload_n (pc := 46) B d_Model_poke_46 rfl 1 rfl ?_
        refine mv_if_ne (pc := 47) (tgt := 59) B d_Model_poke_47 rfl (fun h47 => ?_) (fun h47 => ?_)
        · skip
          have hf := xif_f h47 hf
          refine mv_iload_n (pc := 59) B d_Model_poke_59 rfl 1 rfl ?_
          refine mv_iconst (pc := 60) (v := 1) B d_Model_poke_60 (by decide) ?_
          refine mv_icmp_ne (pc := 61) (tgt := 74) B d_Model_poke_61 rfl (fun h61 => ?_) (fun h61 => ?_)
          · skip
            have hf := xif_f h61 hf
            refine mv_aload_n (pc := 74) B d_Model_poke_74 rfl 0 rfl ?_
            refine mv_getR (pc := 75) (ci := 11) (C := R_Model) (T := F_Model) (N := 16) B 8 rfl rfl (by decide) i_Model (B.2.2.2.1 _ k_2053) rfl ((congrFun (congrFun r_g1 70) 8).trans (hb.1 70 8 _ rfl)) d_Model_poke_75 ?_
            refine mv_iload_n (pc := 78) B d_Model_poke_78 rfl 2 rfl ?_
            refine mv_lload_n (pc := 79) B d_Model_poke_79 rfl 3 rfl ?_
            refine mv_l2i (pc := 80) B d_Model_poke_80 ?_
            refine mv_i2b (pc := 81) B d_Model_poke_81 ?_
            obtain ⟨q2, hf⟩ := xvi_e hf
            refine mv_bast (pc := 82) B rfl q2 d_Model_poke_82 ?_
            refine mvh_hp (R9 := mv_r h) hf r_g1 (fun g3 hf r_g3 => ?_)
            exact mv_vret (pc := 83) B hr d_Model_poke_83 (Nat.le_refl _) (Nat.le_refl _) ⟨rfl, xrh_v hf r_g3⟩
          · skip
            have hf := xif_t h61 hf
            refine mv_aload_n (pc := 64) B d_Model_poke_64 rfl 0 rfl ?_
            refine mv_iload_n (pc := 65) B d_Model_poke_65 rfl 2 rfl ?_
            refine mv_lload_n (pc := 66) B d_Model_poke_66 rfl 3 rfl ?_
            refine mv_l2i (pc := 67) B d_Model_poke_67 ?_
            obtain ⟨g4, eg4, hf⟩ := xhv_e hf
            refine mv_callVv (pc := 68) (n := 2) (ci := 11) (C := R_Model) B (mK_ok sk sv) hNs rfl rfl (ch_Model_set_y l hi _ (⟨xrw r_g1 hb.1, (congrFun (congrFun r_g1 70) 9).trans hb.2⟩) _ _ eg4) rfl (ma_goodc kc_Model_set) (B.2.2.2.1 _ k_2430) (B.2.2.2.1 _ k_2432) (B.2.2.2.1 _ ks_125) (B.2.2.2.1 _ k_12) ⟨by decide +kernel, by decide +kernel, by decide +kernel⟩ rfl d_Model_poke_68 rfl (Nat.le_of_ble_eq_true rfl) ⟨by first | decide | (dsimp only; omega), by first | decide | (dsimp only; omega)⟩ ⟨Nat.le_refl _, Nat.le_refl _⟩ ⟨Nat.le_refl _, Nat.le_refl _⟩ (mv_noH hno _) (fun σ68 h68 => ?_)
            obtain ⟨rfl, s_g4⟩ := h68
            have r_g4 : mv_r g4 = mv_r h := s_g4.trans r_g1
            refine mv_goto (pc := 71) (tgt := 83) B d_Model_poke_71 rfl ?_
            exact mv_vret (pc := 83) B hr d_Model_poke_83 (Nat.le_refl _) (Nat.le_refl _) ⟨rfl, xrh_v hf r_g4⟩
        · skip
          have hf := xif_t h47 hf
          refine mv_aload_n (pc := 50) B d_Model_poke_50 rfl 0 rfl ?_
          refine mv_lload_n (pc := 51) B d_Model_poke_51 rfl 3 rfl ?_
          refine mv_l2i (pc := 52) B d_Model_poke_52 ?_
          refine mv_putI (pc := 53) (ci := 11) (C := R_Model) (T := F_Model) (N := 16) B 6 rfl rfl (by decide) i_Model t_Model_ok n_Model (B.2.2.2.1 _ k_2051) rfl rfl rfl rfl d_Model_poke_53 ?_
          refine mvh_hp (R9 := mv_r h) hf r_g1 (fun g6 hf r_g6 => ?_)
          refine mv_goto (pc := 56) (tgt := 83) B d_Model_poke_56 rfl ?_
          exact mv_vret (pc := 83) B hr d_Model_poke_83 (Nat.le_refl _) (Nat.le_refl _) ⟨rfl, xrh_v hf r_g6⟩
      · skip
        have hf := xif_t h30 hf
        refine mv_aload_n (pc := 33) B d_Model_poke_33 rfl 0 rfl ?_
        refine mv_getR (pc := 34) (ci := 11) (C := R_Model) (T := F_Model) (N := 16) B 9 rfl rfl (by decide) i_Model (B.2.2.2.1 _ k_2054) rfl ((congrFun (congrFun r_g1 70) 9).trans hb.2) d_Model_poke_34 ?_
        refine mv_iload_n (pc := 37) B d_Model_poke_37 rfl 1 rfl ?_
        refine mv_iload_n (pc := 38) B d_Model_poke_38 rfl 2 rfl ?_
        refine mv_lload_n (pc := 39) B d_Model_poke_39 rfl 3 rfl ?_
        obtain ⟨g7, eg7, hf⟩ := xhv_e hf
        refine mv_callVv (pc := 40) (n := 3) (ci := 12) (C := R_Book) B (mK_ok sk sv) hNs rfl rfl (ch_Book_poke_y l hi _ (xrw r_g1 hb.1) _ _ _ eg7) rfl (ma_goodc kc_Book_poke) (B.2.2.2.1 _ k_2423) (B.2.2.2.1 _ k_2424) (B.2.2.2.1 _ k_2425) (B.2.2.2.1 _ k_13) ⟨by decide +kernel, by decide +kernel, by decide +kernel⟩ rfl d_Model_poke_40 rfl (Nat.le_of_ble_eq_true rfl) ⟨by first | decide | (dsimp only; omega), by first | decide | (dsimp only; omega)⟩ ⟨Nat.le_refl _, Nat.le_refl _⟩ ⟨Nat.le_refl _, Nat.le_refl _⟩ (mv_noH hno _) (fun σ40 h40 => ?_)
        obtain ⟨rfl, s_g7⟩ := h40
        have r_g7 : mv_r g7 = mv_r h := s_g7.trans r_g1
        refine mv_goto (pc := 43) (tgt := 83) B d_Model_poke_43 rfl ?_
        exact mv_vret (pc := 83) B hr d_Model_poke_83 (Nat.le_refl _) (Nat.le_refl _) ⟨rfl, xrh_v hf r_g7⟩
    · skip
      have hf := xif_f h22 hf
      exact mv_vret (pc := 25) B hr d_Model_poke_25 (Nat.le_refl _) (Nat.le_refl _) ⟨rfl, xrh_v hf r_g1⟩
  unfold f_Model_poke at hf
  refine mv_aload_n (pc := 0) B d_Model_poke_0 rfl 0 rfl ?_
  refine mv_aload_n (pc := 1) B d_Model_poke_1 rfl 0 rfl ?_
  refine mv_iload_n (pc := 2) B d_Model_poke_2 rfl 1 rfl ?_
  refine mv_iload_n (pc := 3) B d_Model_poke_3 rfl 2 rfl ?_
  obtain ⟨u10, g9, eg9, hf⟩ := xhb_e hf
  refine mv_callVi (pc := 4) (n := 2) (ci := 11) (C := R_Model) B (mK_ok sk sv) hNs rfl rfl (ch_Model_there_y l hi _ (hb) _ _ eg9) rfl (ma_goodc kc_Model_there) (B.2.2.2.1 _ k_2415) (B.2.2.2.1 _ k_2417) (B.2.2.2.1 _ ks_124) (B.2.2.2.1 _ k_12) ⟨by decide +kernel, by decide +kernel, by decide +kernel⟩ rfl d_Model_poke_4 rfl (Nat.le_of_ble_eq_true rfl) ⟨by first | decide | (dsimp only; omega), by first | decide | (dsimp only; omega)⟩ ⟨Nat.le_refl _, Nat.le_refl _⟩ ⟨Nat.le_refl _, Nat.le_refl _⟩ (mv_noH hno _) (fun w4 σ4 h4 => ?_)
  obtain ⟨rfl, rfl, s_g9⟩ := h4
  have r_g9 : mv_r g9 = mv_r h := s_g9.trans rfl
  refine mv_if_eq (pc := 7) (tgt := 14) B d_Model_poke_7 rfl (fun h7 => ?_) (fun h7 => ?_)
  · skip
    have hf := xif_t h7 hf
    refine mv_iconst (pc := 14) (v := 1) B d_Model_poke_14 (by decide) ?_
    refine mv_lpick [0, 1, 2, 3] rfl ?_
    exact jn15 _ _ _ _ _ r_g9 hf
  · skip
    have hf := xif_f h7 hf
    refine mv_iconst (pc := 10) (v := 0) B d_Model_poke_10 (by decide) ?_
    refine mv_goto (pc := 11) (tgt := 15) B d_Model_poke_11 rfl ?_
    refine mv_lpick [0, 1, 2, 3] rfl ?_
    exact jn15 _ _ _ _ _ r_g9 hf
def f_Model_peek_15 (P : Nat) (x1 : Int32) (x2 : Int32) (y0 : Int32) (hz : mv_H) : Option (Int64 × mv_H) := xk (mv_si hz 70 2 y0) fun g1 => if (mv_i g1 70 2) ≤ (0 : Int32) then (if (mv_i g1 70 11) = (0 : Int32) then (xhb (f_Book_peek P g1 x1 x2) fun u5 g4 => some (u5, g4)) else (if x1 = (0 : Int32) then (some (((((mv_i g1 70 6)).toInt64) &&& (4294967295 : Int64)), g1)) else (if x1 = (1 : Int32) then (bif xvi x2 32 then some (((((mv_a g1 72 (x2).toNatClampNeg)).toInt64) &&& (4294967295 : Int64)), g1) else none) else (bif xvi x2 32768 then some (((((mv_a g1 73 (x2).toNatClampNeg) &&& (255 : Int32))).toInt64), g1) else none)))) else (some ((0 : Int64), g1))
def f_Model_peek (P : Nat) (h : mv_H) (a0 : Int32) (a1 : Int32) : Option (Int64 × mv_H) := xhb (f_Model_there P h a0 a1) fun u7 g6 => if u7 = (0 : Int32) then (f_Model_peek_15 P a0 a1 (1 : Int32) g6) else (f_Model_peek_15 P a0 a1 (0 : Int32) g6)
set_option maxHeartbeats 4000000 in
set_option maxRecDepth 100000 in
theorem ch_Model_peek_x (l : Launch) {dA : FieldType → ClassId} {D : va_G} {al : Nat → Nat} {ext : mv_Sh} {sk sv : Nat → Nat} (hi : mv_inj (mg dA D al ext)) (h : mv_H) (hb : mh (mv_r h) ∧ mv_r h 70 9 = some 74)  (a0 : Int32) (a1 : Int32) {rv : Int64} {rg : mv_H} (hf : f_Model_peek 74 h a0 a1 = some (rv, rg)) : mv_C l y_Model_peek (Cond.code y_Model_peek b_Model_peek 3 (Option.some Jvm.ClassFile.FieldType.long) :: ma) ({ frames := 2, cells := 0, slots := 0, locals := 44 }) (mg dA D al ext) (mK sk sv) [.ref (al 70), .int a0, .int a1] h (mv_Rl (fun v σ1 => rv = v ∧ rg = σ1 ∧ mv_r σ1 = mv_r h)) := by
  refine mv_C.ofV (cc := b_Model_peek) (nL := 3) (ret := (Option.some Jvm.ClassFile.FieldType.long)) (by decide +kernel) rfl hi (Nat.le_of_ble_eq_true rfl) ?_
  intro p e s m below meth c B hNs hr hnm hno
  have jn15 : ∀ (x1 : Int32) (x2 : Int32) (y0 : Int32) (hz : mv_H), mv_r hz = mv_r h → f_Model_peek_15 74 x1 x2 y0 hz = some (rv, rg) → mv_V p l e ({ frames := 2, cells := 0, slots := 0, locals := 44 }) s m ([.ref (al 70), .int a0, .int a1] : List Value).toArray below meth c (mg dA D al ext) 3 0 0 (mv_Q (mg dA D al ext) below s 0 0 (mv_Rl (fun v σ1 => rv = v ∧ rg = σ1 ∧ mv_r σ1 = mv_r h))) hz 15 [(0, .ref (al 70)), (1, .int x1), (2, .int x2)] [.int y0, .ref (al 70)] := by
    intro x1 x2 y0 hz r_hz hf
    unfold f_Model_peek_15 at hf
    refine mv_putI (pc := 15) (ci := 11) (C := R_Model) (T := F_Model) (N := 16) B 2 rfl rfl (by decide) i_Model t_Model_ok n_Model (B.2.2.2.1 _ k_2047) rfl rfl rfl rfl d_Model_peek_15 ?_
    refine mvh_hp (R9 := mv_r h) hf r_hz (fun g1 hf r_g1 => ?_)
    refine mv_aload_n (pc := 18) B d_Model_peek_18 rfl 0 rfl ?_
    refine mv_getI (pc := 19) (ci := 11) (C := R_Model) (T := F_Model) (N := 16) B 2 rfl rfl (by decide) i_Model (B.2.2.2.1 _ k_2047) rfl d_Model_peek_19 ?_
    refine mv_if_le (pc := 22) (tgt := 27) B d_Model_peek_22 rfl (fun h22 => ?_) (fun h22 => ?_)
    · skip
      have hf := xif_t h22 hf
      refine mv_aload_n (pc := 27) B d_Model_peek_27 rfl 0 rfl ?_
      refine mv_getI (pc := 28) (ci := 11) (C := R_Model) (T := F_Model) (N := 16) B 11 rfl rfl (by decide) i_Model (B.2.2.2.1 _ k_2056) rfl d_Model_peek_28 ?_
      refine mv_if_ne (pc := 31) (tgt := 44) B d_Model_peek_31 rfl (fun h31 => ?_) (fun h31 => ?_)
      · skip
        have hf := xif_f h31 hf
        refine mv_iload_n (pc := 44) B d_Model_peek_44 rfl 1 rfl ?_
        refine mv_if_ne (pc := 45) (tgt := 60) B d_Model_peek_45 rfl (fun h45 => ?_) (fun h45 => ?_)
        · skip
          have hf := xif_f h45 hf
          refine mv_iload_n (pc := 60) B d_Model_peek_60 rfl 1 rfl ?_
          refine mv_iconst (pc := 61) (v := 1) B d_Model_peek_61 (by decide) ?_
          refine mv_icmp_ne (pc := 62) (tgt := 79) B d_Model_peek_62 rfl (fun h62 => ?_) (fun h62 => ?_)
          · skip
            have hf := xif_f h62 hf
            refine mv_aload_n (pc := 79) B d_Model_peek_79 rfl 0 rfl ?_
            refine mv_getR (pc := 80) (ci := 11) (C := R_Model) (T := F_Model) (N := 16) B 8 rfl rfl (by decide) i_Model (B.2.2.2.1 _ k_2053) rfl ((congrFun (congrFun r_g1 70) 8).trans (hb.1 70 8 _ rfl)) d_Model_peek_80 ?_
            refine mv_iload_n (pc := 83) B d_Model_peek_83 rfl 2 rfl ?_
            obtain ⟨q2, hf⟩ := xvi_e hf
            refine mv_bald (pc := 84) B rfl q2 d_Model_peek_84 ?_
            refine mv_sipush (pc := 85) (v := 255) B d_Model_peek_85 (by decide) ?_
            refine mv_iand (pc := 88) B d_Model_peek_88 ?_
            refine mv_i2l (pc := 89) B d_Model_peek_89 ?_
            exact mv_lret (pc := 90) B hr d_Model_peek_90 (Nat.le_refl _) (Nat.le_refl _) ⟨_, rfl, xrh_l hf r_g1⟩
          · skip
            have hf := xif_t h62 hf
            refine mv_aload_n (pc := 65) B d_Model_peek_65 rfl 0 rfl ?_
            refine mv_getR (pc := 66) (ci := 11) (C := R_Model) (T := F_Model) (N := 16) B 7 rfl rfl (by decide) i_Model (B.2.2.2.1 _ k_2052) rfl ((congrFun (congrFun r_g1 70) 7).trans (hb.1 70 7 _ rfl)) d_Model_peek_66 ?_
            refine mv_iload_n (pc := 69) B d_Model_peek_69 rfl 2 rfl ?_
            obtain ⟨q3, hf⟩ := xvi_e hf
            refine mv_iald (pc := 70) B rfl q3 d_Model_peek_70 ?_
            refine mv_i2l (pc := 71) B d_Model_peek_71 ?_
            refine mv_ldc2 (pc := 72) (v := 4294967295) B (B.2.2.2.1 _ k_2442) d_Model_peek_72 ?_
            refine mv_land (pc := 75) B d_Model_peek_75 ?_
            refine mv_goto (pc := 76) (tgt := 90) B d_Model_peek_76 rfl ?_
            exact mv_lret (pc := 90) B hr d_Model_peek_90 (Nat.le_refl _) (Nat.le_refl _) ⟨_, rfl, xrh_l hf r_g1⟩
        · skip
          have hf := xif_t h45 hf
          refine mv_aload_n (pc := 48) B d_Model_peek_48 rfl 0 rfl ?_
          refine mv_getI (pc := 49) (ci := 11) (C := R_Model) (T := F_Model) (N := 16) B 6 rfl rfl (by decide) i_Model (B.2.2.2.1 _ k_2051) rfl d_Model_peek_49 ?_
          refine mv_i2l (pc := 52) B d_Model_peek_52 ?_
          refine mv_ldc2 (pc := 53) (v := 4294967295) B (B.2.2.2.1 _ k_2442) d_Model_peek_53 ?_
          refine mv_land (pc := 56) B d_Model_peek_56 ?_
          refine mv_goto (pc := 57) (tgt := 90) B d_Model_peek_57 rfl ?_
          exact mv_lret (pc := 90) B hr d_Model_peek_90 (Nat.le_refl _) (Nat.le_refl _) ⟨_, rfl, xrh_l hf r_g1⟩
      · skip
        have hf := xif_t h31 hf
        refine mv_aload_n (pc := 34) B d_Model_peek_34 rfl 0 rfl ?_
        refine mv_getR (pc := 35) (ci := 11) (C := R_Model) (T := F_Model) (N := 16) B 9 rfl rfl (by decide) i_Model (B.2.2.2.1 _ k_2054) rfl ((congrFun (congrFun r_g1 70) 9).trans hb.2) d_Model_peek_35 ?_
        refine mv_iload_n (pc := 38) B d_Model_peek_38 rfl 1 rfl ?_
        refine mv_iload_n (pc := 39) B d_Model_peek_39 rfl 2 rfl ?_
        obtain ⟨u5, g4, eg4, hf⟩ := xhb_e hf
        refine mv_callVl (pc := 40) (n := 2) (ci := 12) (C := R_Book) B (mK_ok sk sv) hNs rfl rfl (ch_Book_peek_x l hi _ (xrw r_g1 hb.1) _ _ eg4) rfl (ma_goodc kc_Book_peek) (B.2.2.2.1 _ k_2438) (B.2.2.2.1 _ k_2439) (B.2.2.2.1 _ k_2440) (B.2.2.2.1 _ k_13) ⟨by decide +kernel, by decide +kernel, by decide +kernel⟩ rfl d_Model_peek_40 rfl (Nat.le_of_ble_eq_true rfl) ⟨by first | decide | (dsimp only; omega), by first | decide | (dsimp only; omega)⟩ ⟨Nat.le_refl _, Nat.le_refl _⟩ ⟨Nat.le_refl _, Nat.le_refl _⟩ (mv_noH hno _) (fun w40 σ40 h40 => ?_)
        obtain ⟨rfl, rfl, s_g4⟩ := h40
        have r_g4 : mv_r g4 = mv_r h := s_g4.trans r_g1
        exact mv_lret (pc := 43) B hr d_Model_peek_43 (Nat.le_refl _) (Nat.le_refl _) ⟨_, rfl, xrh_l hf r_g4⟩
    · skip
      have hf := xif_f h22 hf
      refine mv_lconst (pc := 25) (v := 0) B d_Model_peek_25 (by decide) ?_
      exact mv_lret (pc := 26) B hr d_Model_peek_26 (Nat.le_refl _) (Nat.le_refl _) ⟨_, rfl, xrh_l hf r_g1⟩
  unfold f_Model_peek at hf
  refine mv_aload_n (pc := 0) B d_Model_peek_0 rfl 0 rfl ?_
  refine mv_aload_n (pc := 1) B d_Model_peek_1 rfl 0 rfl ?_
  refine mv_iload_n (pc := 2) B d_Model_peek_2 rfl 1 rfl ?_
  refine mv_iload_n (pc := 3) B d_Model_peek_3 rfl 2 rfl ?_
  obtain ⟨u7, g6, eg6, hf⟩ := xhb_e hf
  refine mv_callVi (pc := 4) (n := 2) (ci := 11) (C := R_Model) B (mK_ok sk sv) hNs rfl rfl (ch_Model_there_x l hi _ (hb) _ _ eg6) rfl (ma_goodc kc_Model_there) (B.2.2.2.1 _ k_2415) (B.2.2.2.1 _ k_2417) (B.2.2.2.1 _ ks_124) (B.2.2.2.1 _ k_12) ⟨by decide +kernel, by decide +kernel, by decide +kernel⟩ rfl d_Model_peek_4 rfl (Nat.le_of_ble_eq_true rfl) ⟨by first | decide | (dsimp only; omega), by first | decide | (dsimp only; omega)⟩ ⟨Nat.le_refl _, Nat.le_refl _⟩ ⟨Nat.le_refl _, Nat.le_refl _⟩ (mv_noH hno _) (fun w4 σ4 h4 => ?_)
  obtain ⟨rfl, rfl, s_g6⟩ := h4
  have r_g6 : mv_r g6 = mv_r h := s_g6.trans rfl
  refine mv_if_eq (pc := 7) (tgt := 14) B d_Model_peek_7 rfl (fun h7 => ?_) (fun h7 => ?_)
  · skip
    have hf := xif_t h7 hf
    refine mv_iconst (pc := 14) (v := 1) B d_Model_peek_14 (by decide) ?_
    refine mv_lpick [0, 1, 2] rfl ?_
    exact jn15 _ _ _ _ r_g6 hf
  · skip
    have hf := xif_f h7 hf
    refine mv_iconst (pc := 10) (v := 0) B d_Model_peek_10 (by decide) ?_
    refine mv_goto (pc := 11) (tgt := 15) B d_Model_peek_11 rfl ?_
    refine mv_lpick [0, 1, 2] rfl ?_
    exact jn15 _ _ _ _ r_g6 hf
set_option maxHeartbeats 4000000 in
set_option maxRecDepth 100000 in
theorem ch_Model_peek_y (l : Launch) {dA : FieldType → ClassId} {D : va_G} {al : Nat → Nat} {ext : mv_Sh} {sk sv : Nat → Nat} (hi : mv_inj (mg dA D al ext)) (h : mv_H) (hb : mh (mv_r h) ∧ mv_r h 70 9 = some 108)  (a0 : Int32) (a1 : Int32) {rv : Int64} {rg : mv_H} (hf : f_Model_peek 108 h a0 a1 = some (rv, rg)) : mv_C l y_Model_peek (Cond.code y_Model_peek b_Model_peek 3 (Option.some Jvm.ClassFile.FieldType.long) :: ma) ({ frames := 2, cells := 0, slots := 0, locals := 44 }) (mg dA D al ext) (mK sk sv) [.ref (al 70), .int a0, .int a1] h (mv_Rl (fun v σ1 => rv = v ∧ rg = σ1 ∧ mv_r σ1 = mv_r h)) := by
  refine mv_C.ofV (cc := b_Model_peek) (nL := 3) (ret := (Option.some Jvm.ClassFile.FieldType.long)) (by decide +kernel) rfl hi (Nat.le_of_ble_eq_true rfl) ?_
  intro p e s m below meth c B hNs hr hnm hno
  have jn15 : ∀ (x1 : Int32) (x2 : Int32) (y0 : Int32) (hz : mv_H), mv_r hz = mv_r h → f_Model_peek_15 108 x1 x2 y0 hz = some (rv, rg) → mv_V p l e ({ frames := 2, cells := 0, slots := 0, locals := 44 }) s m ([.ref (al 70), .int a0, .int a1] : List Value).toArray below meth c (mg dA D al ext) 3 0 0 (mv_Q (mg dA D al ext) below s 0 0 (mv_Rl (fun v σ1 => rv = v ∧ rg = σ1 ∧ mv_r σ1 = mv_r h))) hz 15 [(0, .ref (al 70)), (1, .int x1), (2, .int x2)] [.int y0, .ref (al 70)] := by
    intro x1 x2 y0 hz r_hz hf
    unfold f_Model_peek_15 at hf
    refine mv_putI (pc := 15) (ci := 11) (C := R_Model) (T := F_Model) (N := 16) B 2 rfl rfl (by decide) i_Model t_Model_ok n_Model (B.2.2.2.1 _ k_2047) rfl rfl rfl rfl d_Model_peek_15 ?_
    refine mvh_hp (R9 := mv_r h) hf r_hz (fun g1 hf r_g1 => ?_)
    refine mv_aload_n (pc := 18) B d_Model_peek_18 rfl 0 rfl ?_
    refine mv_getI (pc := 19) (ci := 11) (C := R_Model) (T := F_Model) (N := 16) B 2 rfl rfl (by decide) i_Model (B.2.2.2.1 _ k_2047) rfl d_Model_peek_19 ?_
    refine mv_if_le (pc := 22) (tgt := 27) B d_Model_peek_22 rfl (fun h22 => ?_) (fun h22 => ?_)
    · skip
      have hf := xif_t h22 hf
      refine mv_aload_n (pc := 27) B d_Model_peek_27 rfl 0 rfl ?_
      refine mv_getI (pc := 28) (ci := 11) (C := R_Model) (T := F_Model) (N := 16) B 11 rfl rfl (by decide) i_Model (B.2.2.2.1 _ k_2056) rfl d_Model_peek_28 ?_
      refine mv_if_ne (pc := 31) (tgt := 44) B d_Model_peek_31 rfl (fun h31 => ?_) (fun h31 => ?_)
      · skip
        have hf := xif_f h31 hf
        refine mv_iload_n (pc := 44) B d_Model_peek_44 rfl 1 rfl ?_
        refine mv_if_ne (pc := 45) (tgt := 60) B d_Model_peek_45 rfl (fun h45 => ?_) (fun h45 => ?_)
        · skip
          have hf := xif_f h45 hf
          refine mv_iload_n (pc := 60) B d_Model_peek_60 rfl 1 rfl ?_
          refine mv_iconst (pc := 61) (v := 1) B d_Model_peek_61 (by decide) ?_
          refine mv_icmp_ne (pc := 62) (tgt := 79) B d_Model_peek_62 rfl (fun h62 => ?_) (fun h62 => ?_)
          · skip
            have hf := xif_f h62 hf
            refine mv_aload_n (pc := 79) B d_Model_peek_79 rfl 0 rfl ?_
            refine mv_getR (pc := 80) (ci := 11) (C := R_Model) (T := F_Model) (N := 16) B 8 rfl rfl (by decide) i_Model (B.2.2.2.1 _ k_2053) rfl ((congrFun (congrFun r_g1 70) 8).trans (hb.1 70 8 _ rfl)) d_Model_peek_80 ?_
            refine mv_iload_n (pc := 83) B d_Model_peek_83 rfl 2 rfl ?_
            obtain ⟨q2, hf⟩ := xvi_e hf
            refine mv_bald (pc := 84) B rfl q2 d_Model_peek_84 ?_
            refine mv_sipush (pc := 85) (v := 255) B d_Model_peek_85 (by decide) ?_
            refine mv_iand (pc := 88) B d_Model_peek_88 ?_
            refine mv_i2l (pc := 89) B d_Model_peek_89 ?_
            exact mv_lret (pc := 90) B hr d_Model_peek_90 (Nat.le_refl _) (Nat.le_refl _) ⟨_, rfl, xrh_l hf r_g1⟩
          · skip
            have hf := xif_t h62 hf
            refine mv_aload_n (pc := 65) B d_Model_peek_65 rfl 0 rfl ?_
            refine mv_getR (pc := 66) (ci := 11) (C := R_Model) (T := F_Model) (N := 16) B 7 rfl rfl (by decide) i_Model (B.2.2.2.1 _ k_2052) rfl ((congrFun (congrFun r_g1 70) 7).trans (hb.1 70 7 _ rfl)) d_Model_peek_66 ?_
            refine mv_iload_n (pc := 69) B d_Model_peek_69 rfl 2 rfl ?_
            obtain ⟨q3, hf⟩ := xvi_e hf
            refine mv_iald (pc := 70) B rfl q3 d_Model_peek_70 ?_
            refine mv_i2l (pc := 71) B d_Model_peek_71 ?_
            refine mv_ldc2 (pc := 72) (v := 4294967295) B (B.2.2.2.1 _ k_2442) d_Model_peek_72 ?_
            refine mv_land (pc := 75) B d_Model_peek_75 ?_
            refine mv_goto (pc := 76) (tgt := 90) B d_Model_peek_76 rfl ?_
            exact mv_lret (pc := 90) B hr d_Model_peek_90 (Nat.le_refl _) (Nat.le_refl _) ⟨_, rfl, xrh_l hf r_g1⟩
        · skip
          have hf := xif_t h45 hf
          refine mv_aload_n (pc := 48) B d_Model_peek_48 rfl 0 rfl ?_
          refine mv_getI (pc := 49) (ci := 11) (C := R_Model) (T := F_Model) (N := 16) B 6 rfl rfl (by decide) i_Model (B.2.2.2.1 _ k_2051) rfl d_Model_peek_49 ?_
          refine mv_i2l (pc := 52) B d_Model_peek_52 ?_
          refine mv_ldc2 (pc := 53) (v := 4294967295) B (B.2.2.2.1 _ k_2442) d_Model_peek_53 ?_
          refine mv_land (pc := 56) B d_Model_peek_56 ?_
          refine mv_goto (pc := 57) (tgt := 90) B d_Model_peek_57 rfl ?_
          exact mv_lret (pc := 90) B hr d_Model_peek_90 (Nat.le_refl _) (Nat.le_refl _) ⟨_, rfl, xrh_l hf r_g1⟩
      · skip
        have hf := xif_t h31 hf
        refine mv_aload_n (pc := 34) B d_Model_peek_34 rfl 0 rfl ?_
        refine mv_getR (pc := 35) (ci := 11) (C := R_Model) (T := F_Model) (N := 16) B 9 rfl rfl (by decide) i_Model (B.2.2.2.1 _ k_2054) rfl ((congrFun (congrFun r_g1 70) 9).trans hb.2) d_Model_peek_35 ?_
        refine mv_iload_n (pc := 38) B d_Model_peek_38 rfl 1 rfl ?_
        refine mv_iload_n (pc := 39) B d_Model_peek_39 rfl 2 rfl ?_
        obtain ⟨u5, g4, eg4, hf⟩ := xhb_e hf
        refine mv_callVl (pc := 40) (n := 2) (ci := 12) (C := R_Book) B (mK_ok sk sv) hNs rfl rfl (ch_Book_peek_y l hi _ (xrw r_g1 hb.1) _ _ eg4) rfl (ma_goodc kc_Book_peek) (B.2.2.2.1 _ k_2438) (B.2.2.2.1 _ k_2439) (B.2.2.2.1 _ k_2440) (B.2.2.2.1 _ k_13) ⟨by decide +kernel, by decide +kernel, by decide +kernel⟩ rfl d_Model_peek_40 rfl (Nat.le_of_ble_eq_true rfl) ⟨by first | decide | (dsimp only; omega), by first | decide | (dsimp only; omega)⟩ ⟨Nat.le_refl _, Nat.le_refl _⟩ ⟨Nat.le_refl _, Nat.le_refl _⟩ (mv_noH hno _) (fun w40 σ40 h40 => ?_)
        obtain ⟨rfl, rfl, s_g4⟩ := h40
        have r_g4 : mv_r g4 = mv_r h := s_g4.trans r_g1
        exact mv_lret (pc := 43) B hr d_Model_peek_43 (Nat.le_refl _) (Nat.le_refl _) ⟨_, rfl, xrh_l hf r_g4⟩
    · skip
      have hf := xif_f h22 hf
      refine mv_lconst (pc := 25) (v := 0) B d_Model_peek_25 (by decide) ?_
      exact mv_lret (pc := 26) B hr d_Model_peek_26 (Nat.le_refl _) (Nat.le_refl _) ⟨_, rfl, xrh_l hf r_g1⟩
  unfold f_Model_peek at hf
  refine mv_aload_n (pc := 0) B d_Model_peek_0 rfl 0 rfl ?_
  refine mv_aload_n (pc := 1) B d_Model_peek_1 rfl 0 rfl ?_
  refine mv_iload_n (pc := 2) B d_Model_peek_2 rfl 1 rfl ?_
  refine mv_iload_n (pc := 3) B d_Model_peek_3 rfl 2 rfl ?_
  obtain ⟨u7, g6, eg6, hf⟩ := xhb_e hf
  refine mv_callVi (pc := 4) (n := 2) (ci := 11) (C := R_Model) B (mK_ok sk sv) hNs rfl rfl (ch_Model_there_y l hi _ (hb) _ _ eg6) rfl (ma_goodc kc_Model_there) (B.2.2.2.1 _ k_2415) (B.2.2.2.1 _ k_2417) (B.2.2.2.1 _ ks_124) (B.2.2.2.1 _ k_12) ⟨by decide +kernel, by decide +kernel, by decide +kernel⟩ rfl d_Model_peek_4 rfl (Nat.le_of_ble_eq_true rfl) ⟨by first | decide | (dsimp only; omega), by first | decide | (dsimp only; omega)⟩ ⟨Nat.le_refl _, Nat.le_refl _⟩ ⟨Nat.le_refl _, Nat.le_refl _⟩ (mv_noH hno _) (fun w4 σ4 h4 => ?_)
  obtain ⟨rfl, rfl, s_g6⟩ := h4
  have r_g6 : mv_r g6 = mv_r h := s_g6.trans rfl
  refine mv_if_eq (pc := 7) (tgt := 14) B d_Model_peek_7 rfl (fun h7 => ?_) (fun h7 => ?_)
  · skip
    have hf := xif_t h7 hf
    refine mv_iconst (pc := 14) (v := 1) B d_Model_peek_14 (by decide) ?_
    refine mv_lpick [0, 1, 2] rfl ?_
    exact jn15 _ _ _ _ r_g6 hf
  · skip
    have hf := xif_f h7 hf
    refine mv_iconst (pc := 10) (v := 0) B d_Model_peek_10 (by decide) ?_
    refine mv_goto (pc := 11) (tgt := 15) B d_Model_peek_11 rfl ?_
    refine mv_lpick [0, 1, 2] rfl ?_
    exact jn15 _ _ _ _ r_g6 hf
