/-! exact runs over abstract heaps: Weaver -/
def f_Weaver_tell (h : mv_H) (a0 : Int32) (a1 : Int32) : Option mv_H := bif xvi a0 32770 then xhv (f_Faults_tell h (mv_a h 5 (a0).toNatClampNeg) a1) fun g2 => some g2 else none
set_option maxHeartbeats 4000000 in
set_option maxRecDepth 100000 in
theorem ch_Weaver_tell (l : Launch) {dA : FieldType → ClassId} {D : va_G} {al : Nat → Nat} {ext : mv_Sh} {sk sv : Nat → Nat} (hi : mv_inj (mg dA D al ext)) (h : mv_H) (hb : xRT (mv_r h))  (a0 : Int32) (a1 : Int32) {rg : mv_H} (hf : f_Weaver_tell h a0 a1 = some rg) : mv_C l y_Weaver_tell (Cond.code y_Weaver_tell b_Weaver_tell 3 (Option.none : Option Jvm.ClassFile.FieldType) :: ma) ({ frames := 1, cells := 0, slots := 0, locals := 22 }) (mg dA D al ext) (mK sk sv) [.ref (al 2), .int a0, .int a1] h (mv_Rv (fun σ1 => rg = σ1 ∧ mv_r σ1 = mv_r h)) := by
  refine mv_C.ofV (cc := b_Weaver_tell) (nL := 3) (ret := (Option.none : Option Jvm.ClassFile.FieldType)) (by decide +kernel) rfl hi (Nat.le_of_ble_eq_true rfl) ?_
  intro p e s m below meth c B hNs hr hnm hno
  unfold f_Weaver_tell at hf
  refine mv_aload_n (pc := 0) B d_Weaver_tell_0 rfl 0 rfl ?_
  refine mv_getR (pc := 1) (ci := 1) (C := R_Weaver) (T := F_Weaver) (N := 16) B 2 rfl rfl (by decide) i_Weaver (B.2.2.2.1 _ k_230) rfl (hb.1 2 2 _ rfl) d_Weaver_tell_1 ?_
  refine mv_aload_n (pc := 4) B d_Weaver_tell_4 rfl 0 rfl ?_
  refine mv_getR (pc := 5) (ci := 1) (C := R_Weaver) (T := F_Weaver) (N := 16) B 0 rfl rfl (by decide) i_Weaver (B.2.2.2.1 _ k_228) rfl (hb.1 2 0 _ rfl) d_Weaver_tell_5 ?_
  refine mv_getR (pc := 8) (ci := 2) (C := R_Tokens) (T := F_Tokens) (N := 10) B 1 rfl rfl (by decide) i_Tokens (B.2.2.2.1 _ k_91) rfl (hb.1 3 1 _ rfl) d_Weaver_tell_8 ?_
  refine mv_iload_n (pc := 11) B d_Weaver_tell_11 rfl 1 rfl ?_
  obtain ⟨q1, hf⟩ := xvi_e hf
  refine mv_iald (pc := 12) B rfl q1 d_Weaver_tell_12 ?_
  refine mv_iload_n (pc := 13) B d_Weaver_tell_13 rfl 2 rfl ?_
  obtain ⟨g2, eg2, hf⟩ := xhv_e hf
  refine mv_callVv (pc := 14) (n := 2) (ci := 5) (C := R_Faults) B (mK_ok sk sv) hNs rfl rfl (ch_Faults_tell l hi _ _ _ eg2) rfl (ma_goodc kc_Faults_tell) (B.2.2.2.1 _ k_1286) (B.2.2.2.1 _ k_1287) (B.2.2.2.1 _ k_1288) (B.2.2.2.1 _ k_6) ⟨by decide +kernel, by decide +kernel, by decide +kernel⟩ rfl d_Weaver_tell_14 rfl (Nat.le_of_ble_eq_true rfl) ⟨by decide, by decide⟩ ⟨by decide, by decide⟩ ⟨by decide, by decide⟩ (mv_noH hno _) (fun σ14 h14 => ?_)
  obtain ⟨rfl, s_g2⟩ := h14
  have r_g2 : mv_r g2 = mv_r h := s_g2.trans rfl
  exact mv_vret (pc := 17) B hr d_Weaver_tell_17 (Nat.le_refl _) (Nat.le_refl _) ⟨rfl, xrh_v hf r_g2⟩
def f_Weaver_symbolOf (h : mv_H) (a0 : Int32) : Option (Int32 × mv_H) := bif xvi a0 32770 then some ((((mv_b h 6 (a0).toNatClampNeg)).toInt32), h) else none
set_option maxHeartbeats 4000000 in
set_option maxRecDepth 100000 in
theorem ch_Weaver_symbolOf (l : Launch) {dA : FieldType → ClassId} {D : va_G} {al : Nat → Nat} {ext : mv_Sh} {sk sv : Nat → Nat} (hi : mv_inj (mg dA D al ext)) (h : mv_H) (hb : xRT (mv_r h))  (a0 : Int32) {rv : Int32} {rg : mv_H} (hf : f_Weaver_symbolOf h a0 = some (rv, rg)) : mv_C l y_Weaver_symbolOf (Cond.code y_Weaver_symbolOf b_Weaver_symbolOf 2 (Option.some Jvm.ClassFile.FieldType.int) :: ma) ({ frames := 0, cells := 0, slots := 0, locals := 0 }) (mg dA D al ext) (mK sk sv) [.ref (al 2), .int a0] h (mv_Ri (fun v σ1 => rv = v ∧ rg = σ1 ∧ mv_r σ1 = mv_r h)) := by
  refine mv_C.ofV (cc := b_Weaver_symbolOf) (nL := 2) (ret := (Option.some Jvm.ClassFile.FieldType.int)) (by decide +kernel) rfl hi (Nat.le_of_ble_eq_true rfl) ?_
  intro p e s m below meth c B hNs hr hnm hno
  unfold f_Weaver_symbolOf at hf
  refine mv_aload_n (pc := 0) B d_Weaver_symbolOf_0 rfl 0 rfl ?_
  refine mv_getR (pc := 1) (ci := 1) (C := R_Weaver) (T := F_Weaver) (N := 16) B 0 rfl rfl (by decide) i_Weaver (B.2.2.2.1 _ k_228) rfl (hb.1 2 0 _ rfl) d_Weaver_symbolOf_1 ?_
  refine mv_getR (pc := 4) (ci := 2) (C := R_Tokens) (T := F_Tokens) (N := 10) B 2 rfl rfl (by decide) i_Tokens (B.2.2.2.1 _ k_94) rfl (hb.1 3 2 _ rfl) d_Weaver_symbolOf_4 ?_
  refine mv_iload_n (pc := 7) B d_Weaver_symbolOf_7 rfl 1 rfl ?_
  obtain ⟨q1, hf⟩ := xvi_e hf
  refine mv_lald (pc := 8) B rfl q1 d_Weaver_symbolOf_8 ?_
  refine mv_l2i (pc := 9) B d_Weaver_symbolOf_9 ?_
  exact mv_iret (pc := 10) B hr rfl d_Weaver_symbolOf_10 (Nat.le_refl _) (Nat.le_refl _) ⟨_, rfl, xrh_i hf rfl⟩
def f_Weaver_numberUpTo_23 (x1 : Int32) (hz : mv_H) : Option (Int32 × mv_H) := xhv (f_Weaver_tell hz x1 (3 : Int32)) fun g1 => some ((0 : Int32), g1)
def f_Weaver_numberUpTo (h : mv_H) (a0 : Int32) (a1 : Int32) : Option (Int32 × mv_H) := bif xvi a0 32770 then if (lg_cmp (mv_b h 6 (a0).toNatClampNeg) (1 : Int64)) < (0 : Int32) then (f_Weaver_numberUpTo_23 a0 h) else (if (lg_cmp (mv_b h 6 (a0).toNatClampNeg) ((a1).toInt64)) ≤ (0 : Int32) then (some ((((mv_b h 6 (a0).toNatClampNeg)).toInt32), h)) else (f_Weaver_numberUpTo_23 a0 h)) else none
set_option maxHeartbeats 4000000 in
set_option maxRecDepth 100000 in
theorem ch_Weaver_numberUpTo (l : Launch) {dA : FieldType → ClassId} {D : va_G} {al : Nat → Nat} {ext : mv_Sh} {sk sv : Nat → Nat} (hi : mv_inj (mg dA D al ext)) (h : mv_H) (hb : xRT (mv_r h))  (a0 : Int32) (a1 : Int32) {rv : Int32} {rg : mv_H} (hf : f_Weaver_numberUpTo h a0 a1 = some (rv, rg)) : mv_C l y_Weaver_numberUpTo (Cond.code y_Weaver_numberUpTo b_Weaver_numberUpTo 5 (Option.some Jvm.ClassFile.FieldType.int) :: ma) ({ frames := 2, cells := 0, slots := 0, locals := 44 }) (mg dA D al ext) (mK sk sv) [.ref (al 2), .int a0, .int a1] h (mv_Ri (fun v σ1 => rv = v ∧ rg = σ1 ∧ mv_r σ1 = mv_r h)) := by
  refine mv_C.ofV (cc := b_Weaver_numberUpTo) (nL := 5) (ret := (Option.some Jvm.ClassFile.FieldType.int)) (by decide +kernel) rfl hi (Nat.le_of_ble_eq_true rfl) ?_
  intro p e s m below meth c B hNs hr hnm hno
  have jn23 : ∀ (x1 : Int32) (hz : mv_H), mv_r hz = mv_r h → f_Weaver_numberUpTo_23 x1 hz = some (rv, rg) → mv_V p l e ({ frames := 2, cells := 0, slots := 0, locals := 44 }) s m ([.ref (al 2), .int a0, .int a1] : List Value).toArray below meth c (mg dA D al ext) 5 0 0 (mv_Q (mg dA D al ext) below s 0 0 (mv_Ri (fun v σ1 => rv = v ∧ rg = σ1 ∧ mv_r σ1 = mv_r h))) hz 23 [(0, .ref (al 2)), (1, .int x1)] [] := by
    intro x1 hz r_hz hf
    unfold f_Weaver_numberUpTo_23 at hf
    refine mv_aload_n (pc := 23) B d_Weaver_numberUpTo_23 rfl 0 rfl ?_
    refine mv_iload_n (pc := 24) B d_Weaver_numberUpTo_24 rfl 1 rfl ?_
    refine mv_iconst (pc := 25) (v := 3) B d_Weaver_numberUpTo_25 (by decide) ?_
    obtain ⟨g1, eg1, hf⟩ := xhv_e hf
    refine mv_callVv (pc := 26) (n := 2) (ci := 1) (C := R_Weaver) B (mK_ok sk sv) hNs rfl rfl (ch_Weaver_tell l hi _ (xrw r_hz hb) _ _ eg1) rfl (ma_goodc kc_Weaver_tell) (B.2.2.2.1 _ k_1282) (B.2.2.2.1 _ k_1284) (B.2.2.2.1 _ ks_32) (B.2.2.2.1 _ k_2) ⟨by decide +kernel, by decide +kernel, by decide +kernel⟩ rfl d_Weaver_numberUpTo_26 rfl (Nat.le_of_ble_eq_true rfl) ⟨by decide, by decide⟩ ⟨by decide, by decide⟩ ⟨by decide, by decide⟩ (mv_noH hno _) (fun σ26 h26 => ?_)
    obtain ⟨rfl, s_g1⟩ := h26
    have r_g1 : mv_r g1 = mv_r h := s_g1.trans r_hz
    refine mv_iconst (pc := 29) (v := 0) B d_Weaver_numberUpTo_29 (by decide) ?_
    exact mv_iret (pc := 30) B hr rfl d_Weaver_numberUpTo_30 (Nat.le_refl _) (Nat.le_refl _) ⟨_, rfl, xrh_i hf r_g1⟩
  unfold f_Weaver_numberUpTo at hf
  refine mv_aload_n (pc := 0) B d_Weaver_numberUpTo_0 rfl 0 rfl ?_
  refine mv_getR (pc := 1) (ci := 1) (C := R_Weaver) (T := F_Weaver) (N := 16) B 0 rfl rfl (by decide) i_Weaver (B.2.2.2.1 _ k_228) rfl (hb.1 2 0 _ rfl) d_Weaver_numberUpTo_1 ?_
  refine mv_getR (pc := 4) (ci := 2) (C := R_Tokens) (T := F_Tokens) (N := 10) B 2 rfl rfl (by decide) i_Tokens (B.2.2.2.1 _ k_94) rfl (hb.1 3 2 _ rfl) d_Weaver_numberUpTo_4 ?_
  refine mv_iload_n (pc := 7) B d_Weaver_numberUpTo_7 rfl 1 rfl ?_
  obtain ⟨q2, hf⟩ := xvi_e hf
  refine mv_lald (pc := 8) B rfl q2 d_Weaver_numberUpTo_8 ?_
  refine mv_lstore_n (pc := 9) B d_Weaver_numberUpTo_9 rfl (by decide) rfl ?_
  refine mv_lload_n (pc := 10) B d_Weaver_numberUpTo_10 rfl 0 rfl ?_
  refine mv_lconst (pc := 11) (v := 1) B d_Weaver_numberUpTo_11 (by decide) ?_
  refine mv_lcmp (pc := 12) B d_Weaver_numberUpTo_12 ?_
  refine mv_if_lt (pc := 13) (tgt := 23) B d_Weaver_numberUpTo_13 rfl (fun h13 => ?_) (fun h13 => ?_)
  · skip
    have hf := xif_t h13 hf
    refine mv_lpick [1, 2] rfl ?_
    exact jn23 _ _ rfl hf
  · skip
    have hf := xif_f h13 hf
    refine mv_lload_n (pc := 16) B d_Weaver_numberUpTo_16 rfl 0 rfl ?_
    refine mv_iload_n (pc := 17) B d_Weaver_numberUpTo_17 rfl 3 rfl ?_
    refine mv_i2l (pc := 18) B d_Weaver_numberUpTo_18 ?_
    refine mv_lcmp (pc := 19) B d_Weaver_numberUpTo_19 ?_
    refine mv_if_le (pc := 20) (tgt := 31) B d_Weaver_numberUpTo_20 rfl (fun h20 => ?_) (fun h20 => ?_)
    · skip
      have hf := xif_t h20 hf
      refine mv_lload_n (pc := 31) B d_Weaver_numberUpTo_31 rfl 0 rfl ?_
      refine mv_l2i (pc := 32) B d_Weaver_numberUpTo_32 ?_
      exact mv_iret (pc := 33) B hr rfl d_Weaver_numberUpTo_33 (Nat.le_refl _) (Nat.le_refl _) ⟨_, rfl, xrh_i hf rfl⟩
    · skip
      have hf := xif_f h20 hf
      refine mv_lpick [1, 2] rfl ?_
      exact jn23 _ _ rfl hf
def f_Weaver_isNew_49 (P : Nat) (x1 : Int32) (hz : mv_H) : Option (Int32 × mv_H) := xhv (f_Weaver_tell hz x1 (6 : Int32)) fun g1 => bif xzb (0 : Int32) then some ((0 : Int32), g1) else none
def f_Weaver_isNew (P : Nat) (h : mv_H) (a0 : Int32) (a1 : Int32) : Option (Int32 × mv_H) := xhb (f_Weaver_symbolOf h a0) fun v4 g3 => xhb (f_Names_kindOf g3 v4) fun v6 g5 => if v6 = (0 : Int32) then (if (mv_i g5 P 1) = (64 : Int32) then (f_Weaver_isNew_49 P a0 g5) else (if ((mv_i g5 P 7) + a1) ≤ (65536 : Int32) then (bif xzb (1 : Int32) then some ((1 : Int32), g5) else none) else (f_Weaver_isNew_49 P a0 g5))) else (xhv (f_Weaver_tell g5 a0 (2 : Int32)) fun g8 => bif xzb (0 : Int32) then some ((0 : Int32), g8) else none)
set_option maxHeartbeats 4000000 in
set_option maxRecDepth 100000 in
theorem ch_Weaver_isNew_a (l : Launch) {dA : FieldType → ClassId} {D : va_G} {al : Nat → Nat} {ext : mv_Sh} {sk sv : Nat → Nat} (hi : mv_inj (mg dA D al ext)) (h : mv_H) (hb : xRP 32 (mv_r h))  (a0 : Int32) (a1 : Int32) {rv : Int32} {rg : mv_H} (hf : f_Weaver_isNew 32 h a0 a1 = some (rv, rg)) : mv_C l y_Weaver_isNew (Cond.code y_Weaver_isNew b_Weaver_isNew 3 (Option.some Jvm.ClassFile.FieldType.boolean) :: ma) ({ frames := 2, cells := 0, slots := 0, locals := 44 }) (mg dA D al ext) (mK sk sv) [.ref (al 2), .int a0, .int a1] h (mv_Ri (fun v σ1 => rv = v ∧ rg = σ1 ∧ mv_r σ1 = mv_r h)) := by
  refine mv_C.ofV (cc := b_Weaver_isNew) (nL := 3) (ret := (Option.some Jvm.ClassFile.FieldType.boolean)) (by decide +kernel) rfl hi (Nat.le_of_ble_eq_true rfl) ?_
  intro p e s m below meth c B hNs hr hnm hno
  have jn49 : ∀ (x1 : Int32) (hz : mv_H), mv_r hz = mv_r h → f_Weaver_isNew_49 32 x1 hz = some (rv, rg) → mv_V p l e ({ frames := 2, cells := 0, slots := 0, locals := 44 }) s m ([.ref (al 2), .int a0, .int a1] : List Value).toArray below meth c (mg dA D al ext) 3 0 0 (mv_Q (mg dA D al ext) below s 0 0 (mv_Ri (fun v σ1 => rv = v ∧ rg = σ1 ∧ mv_r σ1 = mv_r h))) hz 49 [(0, .ref (al 2)), (1, .int x1)] [] := by
    intro x1 hz r_hz hf
    unfold f_Weaver_isNew_49 at hf
    refine mv_aload_n (pc := 49) B d_Weaver_isNew_49 rfl 0 rfl ?_
    refine mv_iload_n (pc := 50) B d_Weaver_isNew_50 rfl 1 rfl ?_
    refine mv_bipush (pc := 51) (v := 6) B d_Weaver_isNew_51 (by decide) ?_
    obtain ⟨g1, eg1, hf⟩ := xhv_e hf
    refine mv_callVv (pc := 53) (n := 2) (ci := 1) (C := R_Weaver) B (mK_ok sk sv) hNs rfl rfl (ch_Weaver_tell l hi _ (xrw r_hz hb.t) _ _ eg1) rfl (ma_goodc kc_Weaver_tell) (B.2.2.2.1 _ k_1282) (B.2.2.2.1 _ k_1284) (B.2.2.2.1 _ ks_32) (B.2.2.2.1 _ k_2) ⟨by decide +kernel, by decide +kernel, by decide +kernel⟩ rfl d_Weaver_isNew_53 rfl (Nat.le_of_ble_eq_true rfl) ⟨by decide, by decide⟩ ⟨by decide, by decide⟩ ⟨by decide, by decide⟩ (mv_noH hno _) (fun σ53 h53 => ?_)
    obtain ⟨rfl, s_g1⟩ := h53
    have r_g1 : mv_r g1 = mv_r h := s_g1.trans r_hz
    refine mv_iconst (pc := 56) (v := 0) B d_Weaver_isNew_56 (by decide) ?_
    obtain ⟨q2, hf⟩ := xzb_e hf
    exact mv_iret (pc := 57) B hr (xzb_n q2) d_Weaver_isNew_57 (Nat.le_refl _) (Nat.le_refl _) ⟨_, rfl, xrh_i hf r_g1⟩
  unfold f_Weaver_isNew at hf
  refine mv_aload_n (pc := 0) B d_Weaver_isNew_0 rfl 0 rfl ?_
  refine mv_getR (pc := 1) (ci := 1) (C := R_Weaver) (T := F_Weaver) (N := 16) B 1 rfl rfl (by decide) i_Weaver (B.2.2.2.1 _ k_229) rfl (hb.1.1 2 1 _ rfl) d_Weaver_isNew_1 ?_
  refine mv_aload_n (pc := 4) B d_Weaver_isNew_4 rfl 0 rfl ?_
  refine mv_iload_n (pc := 5) B d_Weaver_isNew_5 rfl 1 rfl ?_
  obtain ⟨v4, g3, eg3, hf⟩ := xhb_e hf
  refine mv_callVi (pc := 6) (n := 1) (ci := 1) (C := R_Weaver) B (mK_ok sk sv) hNs rfl rfl (ch_Weaver_symbolOf l hi _ (hb.t) _ eg3) rfl (ma_goodc kc_Weaver_symbolOf) (B.2.2.2.1 _ k_1312) (B.2.2.2.1 _ k_1314) (B.2.2.2.1 _ ks_37) (B.2.2.2.1 _ k_2) ⟨by decide +kernel, by decide +kernel, by decide +kernel⟩ rfl d_Weaver_isNew_6 rfl (Nat.le_of_ble_eq_true rfl) ⟨by decide, by decide⟩ ⟨by decide, by decide⟩ ⟨by decide, by decide⟩ (mv_noH hno _) (fun w6 σ6 h6 => ?_)
  obtain ⟨rfl, rfl, s_g3⟩ := h6
  have r_g3 : mv_r g3 = mv_r h := s_g3.trans rfl
  obtain ⟨v6, g5, eg5, hf⟩ := xhb_e hf
  refine mv_callVi (pc := 9) (n := 1) (ci := 4) (C := R_Names) B (mK_ok sk sv) hNs rfl rfl (ch_Names_kindOf l hi _ (xrw r_g3 hb.t) _ eg5) rfl (ma_goodc kc_Names_kindOf) (B.2.2.2.1 _ k_1316) (B.2.2.2.1 _ k_1317) (B.2.2.2.1 _ k_1318) (B.2.2.2.1 _ k_5) ⟨by decide +kernel, by decide +kernel, by decide +kernel⟩ rfl d_Weaver_isNew_9 rfl (Nat.le_of_ble_eq_true rfl) ⟨by decide, by decide⟩ ⟨by decide, by decide⟩ ⟨by decide, by decide⟩ (mv_noH hno _) (fun w9 σ9 h9 => ?_)
  obtain ⟨rfl, rfl, s_g5⟩ := h9
  have r_g5 : mv_r g5 = mv_r h := s_g5.trans r_g3
  refine mv_if_eq (pc := 12) (tgt := 23) B d_Weaver_isNew_12 rfl (fun h12 => ?_) (fun h12 => ?_)
  · skip
    have hf := xif_t h12 hf
    refine mv_aload_n (pc := 23) B d_Weaver_isNew_23 rfl 0 rfl ?_
    refine mv_getR (pc := 24) (ci := 1) (C := R_Weaver) (T := F_Weaver) (N := 16) B 5 rfl rfl (by decide) i_Weaver (B.2.2.2.1 _ k_235) rfl ((congrFun (congrFun r_g5 2) 5).trans hb.1.2.2.1) d_Weaver_isNew_24 ?_
    refine mv_getI (pc := 27) (ci := 7) (C := R_Program) (T := F_Program) (N := 19) B 1 rfl rfl (by decide) i_Program (B.2.2.2.1 _ k_316) rfl d_Weaver_isNew_27 ?_
    refine mv_bipush (pc := 30) (v := 64) B d_Weaver_isNew_30 (by decide) ?_
    refine mv_icmp_eq (pc := 32) (tgt := 49) B d_Weaver_isNew_32 rfl (fun h32 => ?_) (fun h32 => ?_)
    · skip
      have hf := xif_t h32 hf
      refine mv_lpick [0, 1] rfl ?_
      exact jn49 _ _ r_g5 hf
    · skip
      have hf := xif_f h32 hf
      refine mv_aload_n (pc := 35) B d_Weaver_isNew_35 rfl 0 rfl ?_
      refine mv_getR (pc := 36) (ci := 1) (C := R_Weaver) (T := F_Weaver) (N := 16) B 5 rfl rfl (by decide) i_Weaver (B.2.2.2.1 _ k_235) rfl ((congrFun (congrFun r_g5 2) 5).trans hb.1.2.2.1) d_Weaver_isNew_36 ?_
      refine mv_getI (pc := 39) (ci := 7) (C := R_Program) (T := F_Program) (N := 19) B 7 rfl rfl (by decide) i_Program (B.2.2.2.1 _ k_335) rfl d_Weaver_isNew_39 ?_
      refine mv_iload_n (pc := 42) B d_Weaver_isNew_42 rfl 2 rfl ?_
      refine mv_iadd (pc := 43) B d_Weaver_isNew_43 ?_
      refine mv_ldc (pc := 44) (v := 65536) B (B.2.2.2.1 _ k_1324) d_Weaver_isNew_44 ?_
      refine mv_icmp_le (pc := 46) (tgt := 58) B d_Weaver_isNew_46 rfl (fun h46 => ?_) (fun h46 => ?_)
      · skip
        have hf := xif_t h46 hf
        refine mv_iconst (pc := 58) (v := 1) B d_Weaver_isNew_58 (by decide) ?_
        obtain ⟨q7, hf⟩ := xzb_e hf
        exact mv_iret (pc := 59) B hr (xzb_n q7) d_Weaver_isNew_59 (Nat.le_refl _) (Nat.le_refl _) ⟨_, rfl, xrh_i hf r_g5⟩
      · skip
        have hf := xif_f h46 hf
        refine mv_lpick [0, 1] rfl ?_
        exact jn49 _ _ r_g5 hf
  · skip
    have hf := xif_f h12 hf
    refine mv_aload_n (pc := 15) B d_Weaver_isNew_15 rfl 0 rfl ?_
    refine mv_iload_n (pc := 16) B d_Weaver_isNew_16 rfl 1 rfl ?_
    refine mv_iconst (pc := 17) (v := 2) B d_Weaver_isNew_17 (by decide) ?_
    obtain ⟨g8, eg8, hf⟩ := xhv_e hf
    refine mv_callVv (pc := 18) (n := 2) (ci := 1) (C := R_Weaver) B (mK_ok sk sv) hNs rfl rfl (ch_Weaver_tell l hi _ (xrw r_g5 hb.t) _ _ eg8) rfl (ma_goodc kc_Weaver_tell) (B.2.2.2.1 _ k_1282) (B.2.2.2.1 _ k_1284) (B.2.2.2.1 _ ks_32) (B.2.2.2.1 _ k_2) ⟨by decide +kernel, by decide +kernel, by decide +kernel⟩ rfl d_Weaver_isNew_18 rfl (Nat.le_of_ble_eq_true rfl) ⟨by decide, by decide⟩ ⟨by decide, by decide⟩ ⟨by decide, by decide⟩ (mv_noH hno _) (fun σ18 h18 => ?_)
    obtain ⟨rfl, s_g8⟩ := h18
    have r_g8 : mv_r g8 = mv_r h := s_g8.trans r_g5
    refine mv_iconst (pc := 21) (v := 0) B d_Weaver_isNew_21 (by decide) ?_
    obtain ⟨q9, hf⟩ := xzb_e hf
    exact mv_iret (pc := 22) B hr (xzb_n q9) d_Weaver_isNew_22 (Nat.le_refl _) (Nat.le_refl _) ⟨_, rfl, xrh_i hf r_g8⟩
set_option maxHeartbeats 4000000 in
set_option maxRecDepth 100000 in
theorem ch_Weaver_isNew_b (l : Launch) {dA : FieldType → ClassId} {D : va_G} {al : Nat → Nat} {ext : mv_Sh} {sk sv : Nat → Nat} (hi : mv_inj (mg dA D al ext)) (h : mv_H) (hb : xRP 48 (mv_r h))  (a0 : Int32) (a1 : Int32) {rv : Int32} {rg : mv_H} (hf : f_Weaver_isNew 48 h a0 a1 = some (rv, rg)) : mv_C l y_Weaver_isNew (Cond.code y_Weaver_isNew b_Weaver_isNew 3 (Option.some Jvm.ClassFile.FieldType.boolean) :: ma) ({ frames := 2, cells := 0, slots := 0, locals := 44 }) (mg dA D al ext) (mK sk sv) [.ref (al 2), .int a0, .int a1] h (mv_Ri (fun v σ1 => rv = v ∧ rg = σ1 ∧ mv_r σ1 = mv_r h)) := by
  refine mv_C.ofV (cc := b_Weaver_isNew) (nL := 3) (ret := (Option.some Jvm.ClassFile.FieldType.boolean)) (by decide +kernel) rfl hi (Nat.le_of_ble_eq_true rfl) ?_
  intro p e s m below meth c B hNs hr hnm hno
  have jn49 : ∀ (x1 : Int32) (hz : mv_H), mv_r hz = mv_r h → f_Weaver_isNew_49 48 x1 hz = some (rv, rg) → mv_V p l e ({ frames := 2, cells := 0, slots := 0, locals := 44 }) s m ([.ref (al 2), .int a0, .int a1] : List Value).toArray below meth c (mg dA D al ext) 3 0 0 (mv_Q (mg dA D al ext) below s 0 0 (mv_Ri (fun v σ1 => rv = v ∧ rg = σ1 ∧ mv_r σ1 = mv_r h))) hz 49 [(0, .ref (al 2)), (1, .int x1)] [] := by
    intro x1 hz r_hz hf
    unfold f_Weaver_isNew_49 at hf
    refine mv_aload_n (pc := 49) B d_Weaver_isNew_49 rfl 0 rfl ?_
    refine mv_iload_n (pc := 50) B d_Weaver_isNew_50 rfl 1 rfl ?_
    refine mv_bipush (pc := 51) (v := 6) B d_Weaver_isNew_51 (by decide) ?_
    obtain ⟨g1, eg1, hf⟩ := xhv_e hf
    refine mv_callVv (pc := 53) (n := 2) (ci := 1) (C := R_Weaver) B (mK_ok sk sv) hNs rfl rfl (ch_Weaver_tell l hi _ (xrw r_hz hb.t) _ _ eg1) rfl (ma_goodc kc_Weaver_tell) (B.2.2.2.1 _ k_1282) (B.2.2.2.1 _ k_1284) (B.2.2.2.1 _ ks_32) (B.2.2.2.1 _ k_2) ⟨by decide +kernel, by decide +kernel, by decide +kernel⟩ rfl d_Weaver_isNew_53 rfl (Nat.le_of_ble_eq_true rfl) ⟨by decide, by decide⟩ ⟨by decide, by decide⟩ ⟨by decide, by decide⟩ (mv_noH hno _) (fun σ53 h53 => ?_)
    obtain ⟨rfl, s_g1⟩ := h53
    have r_g1 : mv_r g1 = mv_r h := s_g1.trans r_hz
    refine mv_iconst (pc := 56) (v := 0) B d_Weaver_isNew_56 (by decide) ?_
    obtain ⟨q2, hf⟩ := xzb_e hf
    exact mv_iret (pc := 57) B hr (xzb_n q2) d_Weaver_isNew_57 (Nat.le_refl _) (Nat.le_refl _) ⟨_, rfl, xrh_i hf r_g1⟩
  unfold f_Weaver_isNew at hf
  refine mv_aload_n (pc := 0) B d_Weaver_isNew_0 rfl 0 rfl ?_
  refine mv_getR (pc := 1) (ci := 1) (C := R_Weaver) (T := F_Weaver) (N := 16) B 1 rfl rfl (by decide) i_Weaver (B.2.2.2.1 _ k_229) rfl (hb.1.1 2 1 _ rfl) d_Weaver_isNew_1 ?_
  refine mv_aload_n (pc := 4) B d_Weaver_isNew_4 rfl 0 rfl ?_
  refine mv_iload_n (pc := 5) B d_Weaver_isNew_5 rfl 1 rfl ?_
  obtain ⟨v4, g3, eg3, hf⟩ := xhb_e hf
  refine mv_callVi (pc := 6) (n := 1) (ci := 1) (C := R_Weaver) B (mK_ok sk sv) hNs rfl rfl (ch_Weaver_symbolOf l hi _ (hb.t) _ eg3) rfl (ma_goodc kc_Weaver_symbolOf) (B.2.2.2.1 _ k_1312) (B.2.2.2.1 _ k_1314) (B.2.2.2.1 _ ks_37) (B.2.2.2.1 _ k_2) ⟨by decide +kernel, by decide +kernel, by decide +kernel⟩ rfl d_Weaver_isNew_6 rfl (Nat.le_of_ble_eq_true rfl) ⟨by decide, by decide⟩ ⟨by decide, by decide⟩ ⟨by decide, by decide⟩ (mv_noH hno _) (fun w6 σ6 h6 => ?_)
  obtain ⟨rfl, rfl, s_g3⟩ := h6
  have r_g3 : mv_r g3 = mv_r h := s_g3.trans rfl
  obtain ⟨v6, g5, eg5, hf⟩ := xhb_e hf
  refine mv_callVi (pc := 9) (n := 1) (ci := 4) (C := R_Names) B (mK_ok sk sv) hNs rfl rfl (ch_Names_kindOf l hi _ (xrw r_g3 hb.t) _ eg5) rfl (ma_goodc kc_Names_kindOf) (B.2.2.2.1 _ k_1316) (B.2.2.2.1 _ k_1317) (B.2.2.2.1 _ k_1318) (B.2.2.2.1 _ k_5) ⟨by decide +kernel, by decide +kernel, by decide +kernel⟩ rfl d_Weaver_isNew_9 rfl (Nat.le_of_ble_eq_true rfl) ⟨by decide, by decide⟩ ⟨by decide, by decide⟩ ⟨by decide, by decide⟩ (mv_noH hno _) (fun w9 σ9 h9 => ?_)
  obtain ⟨rfl, rfl, s_g5⟩ := h9
  have r_g5 : mv_r g5 = mv_r h := s_g5.trans r_g3
  refine mv_if_eq (pc := 12) (tgt := 23) B d_Weaver_isNew_12 rfl (fun h12 => ?_) (fun h12 => ?_)
  · skip
    have hf := xif_t h12 hf
    refine mv_aload_n (pc := 23) B d_Weaver_isNew_23 rfl 0 rfl ?_
    refine mv_getR (pc := 24) (ci := 1) (C := R_Weaver) (T := F_Weaver) (N := 16) B 5 rfl rfl (by decide) i_Weaver (B.2.2.2.1 _ k_235) rfl ((congrFun (congrFun r_g5 2) 5).trans hb.1.2.2.1) d_Weaver_isNew_24 ?_
    refine mv_getI (pc := 27) (ci := 7) (C := R_Program) (T := F_Program) (N := 19) B 1 rfl rfl (by decide) i_Program (B.2.2.2.1 _ k_316) rfl d_Weaver_isNew_27 ?_
    refine mv_bipush (pc := 30) (v := 64) B d_Weaver_isNew_30 (by decide) ?_
    refine mv_icmp_eq (pc := 32) (tgt := 49) B d_Weaver_isNew_32 rfl (fun h32 => ?_) (fun h32 => ?_)
    · skip
      have hf := xif_t h32 hf
      refine mv_lpick [0, 1] rfl ?_
      exact jn49 _ _ r_g5 hf
    · skip
      have hf := xif_f h32 hf
      refine mv_aload_n (pc := 35) B d_Weaver_isNew_35 rfl 0 rfl ?_
      refine mv_getR (pc := 36) (ci := 1) (C := R_Weaver) (T := F_Weaver) (N := 16) B 5 rfl rfl (by decide) i_Weaver (B.2.2.2.1 _ k_235) rfl ((congrFun (congrFun r_g5 2) 5).trans hb.1.2.2.1) d_Weaver_isNew_36 ?_
      refine mv_getI (pc := 39) (ci := 7) (C := R_Program) (T := F_Program) (N := 19) B 7 rfl rfl (by decide) i_Program (B.2.2.2.1 _ k_335) rfl d_Weaver_isNew_39 ?_
      refine mv_iload_n (pc := 42) B d_Weaver_isNew_42 rfl 2 rfl ?_
      refine mv_iadd (pc := 43) B d_Weaver_isNew_43 ?_
      refine mv_ldc (pc := 44) (v := 65536) B (B.2.2.2.1 _ k_1324) d_Weaver_isNew_44 ?_
      refine mv_icmp_le (pc := 46) (tgt := 58) B d_Weaver_isNew_46 rfl (fun h46 => ?_) (fun h46 => ?_)
      · skip
        have hf := xif_t h46 hf
        refine mv_iconst (pc := 58) (v := 1) B d_Weaver_isNew_58 (by decide) ?_
        obtain ⟨q7, hf⟩ := xzb_e hf
        exact mv_iret (pc := 59) B hr (xzb_n q7) d_Weaver_isNew_59 (Nat.le_refl _) (Nat.le_refl _) ⟨_, rfl, xrh_i hf r_g5⟩
      · skip
        have hf := xif_f h46 hf
        refine mv_lpick [0, 1] rfl ?_
        exact jn49 _ _ r_g5 hf
  · skip
    have hf := xif_f h12 hf
    refine mv_aload_n (pc := 15) B d_Weaver_isNew_15 rfl 0 rfl ?_
    refine mv_iload_n (pc := 16) B d_Weaver_isNew_16 rfl 1 rfl ?_
    refine mv_iconst (pc := 17) (v := 2) B d_Weaver_isNew_17 (by decide) ?_
    obtain ⟨g8, eg8, hf⟩ := xhv_e hf
    refine mv_callVv (pc := 18) (n := 2) (ci := 1) (C := R_Weaver) B (mK_ok sk sv) hNs rfl rfl (ch_Weaver_tell l hi _ (xrw r_g5 hb.t) _ _ eg8) rfl (ma_goodc kc_Weaver_tell) (B.2.2.2.1 _ k_1282) (B.2.2.2.1 _ k_1284) (B.2.2.2.1 _ ks_32) (B.2.2.2.1 _ k_2) ⟨by decide +kernel, by decide +kernel, by decide +kernel⟩ rfl d_Weaver_isNew_18 rfl (Nat.le_of_ble_eq_true rfl) ⟨by decide, by decide⟩ ⟨by decide, by decide⟩ ⟨by decide, by decide⟩ (mv_noH hno _) (fun σ18 h18 => ?_)
    obtain ⟨rfl, s_g8⟩ := h18
    have r_g8 : mv_r g8 = mv_r h := s_g8.trans r_g5
    refine mv_iconst (pc := 21) (v := 0) B d_Weaver_isNew_21 (by decide) ?_
    obtain ⟨q9, hf⟩ := xzb_e hf
    exact mv_iret (pc := 22) B hr (xzb_n q9) d_Weaver_isNew_22 (Nat.le_refl _) (Nat.le_refl _) ⟨_, rfl, xrh_i hf r_g8⟩
def f_Weaver_register (P : Nat) (h : mv_H) : Option mv_H := xhb (f_Tokens_take h (201 : Int32)) fun v2 g1 => xhb (f_Tokens_take g1 (3 : Int32)) fun v4 g3 => xhb (f_Tokens_take g3 (58 : Int32)) fun v6 g5 => xhb (f_Tokens_take g5 (4 : Int32)) fun v8 g7 => xhb (f_Weaver_numberUpTo g7 v8 (64 : Int32)) fun v10 g9 => xhb (f_Tokens_take g9 (59 : Int32)) fun v12 g11 => xhb (f_Tokens_right g11) fun v14 g13 => if v14 = (0 : Int32) then (some g13) else (xhb (f_Weaver_isNew P g13 v4 (0 : Int32)) fun v16 g15 => if v16 = (0 : Int32) then (some g15) else (xhb (f_Weaver_symbolOf g15 v4) fun v18 g17 => xhv (f_Names_know g17 v18 (1 : Int32) (mv_i g17 P 1)) fun g19 => xhv (f_Program_addThing P g19 v10 (0 : Int32) (0 : Int32)) fun g20 => some g20))
set_option maxHeartbeats 4000000 in
set_option maxRecDepth 100000 in
theorem ch_Weaver_register_a (l : Launch) {dA : FieldType → ClassId} {D : va_G} {al : Nat → Nat} {ext : mv_Sh} {sk sv : Nat → Nat} (hi : mv_inj (mg dA D al ext)) (h : mv_H) (hb : xRP 32 (mv_r h))  {rg : mv_H} (hf : f_Weaver_register 32 h = some rg) : mv_C l y_Weaver_register (Cond.code y_Weaver_register b_Weaver_register 3 (Option.none : Option Jvm.ClassFile.FieldType) :: ma) ({ frames := 3, cells := 0, slots := 0, locals := 68 }) (mg dA D al ext) (mK sk sv) [.ref (al 2)] h (mv_Rv (fun σ1 => rg = σ1 ∧ mv_r σ1 = mv_r h)) := by
  refine mv_C.ofV (cc := b_Weaver_register) (nL := 3) (ret := (Option.none : Option Jvm.ClassFile.FieldType)) (by decide +kernel) rfl hi (Nat.le_of_ble_eq_true rfl) ?_
  intro p e s m below meth c B hNs hr hnm hno
  unfold f_Weaver_register at hf
  refine mv_aload_n (pc := 0) B d_Weaver_register_0 rfl 0 rfl ?_
  refine mv_getR (pc := 1) (ci := 1) (C := R_Weaver) (T := F_Weaver) (N := 16) B 0 rfl rfl (by decide) i_Weaver (B.2.2.2.1 _ k_228) rfl (hb.1.1 2 0 _ rfl) d_Weaver_register_1 ?_
  refine mv_sipush (pc := 4) (v := 201) B d_Weaver_register_4 (by decide) ?_
  obtain ⟨v2, g1, eg1, hf⟩ := xhb_e hf
  refine mv_callVi (pc := 7) (n := 1) (ci := 2) (C := R_Tokens) B (mK_ok sk sv) hNs rfl rfl (ch_Tokens_take l hi _ (hb.t) _ eg1) rfl (ma_goodc kc_Tokens_take) (B.2.2.2.1 _ k_1266) (B.2.2.2.1 _ k_1267) (B.2.2.2.1 _ k_1268) (B.2.2.2.1 _ k_3) ⟨by decide +kernel, by decide +kernel, by decide +kernel⟩ rfl d_Weaver_register_7 rfl (Nat.le_of_ble_eq_true rfl) ⟨by decide, by decide⟩ ⟨by decide, by decide⟩ ⟨by decide, by decide⟩ (mv_noH hno _) (fun w7 σ7 h7 => ?_)
  obtain ⟨rfl, rfl, s_g1⟩ := h7
  have r_g1 : mv_r g1 = mv_r h := s_g1.trans rfl
  refine mv_pop (pc := 10) B d_Weaver_register_10 rfl ?_
  refine mv_aload_n (pc := 11) B d_Weaver_register_11 rfl 0 rfl ?_
  refine mv_getR (pc := 12) (ci := 1) (C := R_Weaver) (T := F_Weaver) (N := 16) B 0 rfl rfl (by decide) i_Weaver (B.2.2.2.1 _ k_228) rfl ((congrFun (congrFun r_g1 2) 0).trans (hb.1.1 2 0 _ rfl)) d_Weaver_register_12 ?_
  refine mv_iconst (pc := 15) (v := 3) B d_Weaver_register_15 (by decide) ?_
  obtain ⟨v4, g3, eg3, hf⟩ := xhb_e hf
  refine mv_callVi (pc := 16) (n := 1) (ci := 2) (C := R_Tokens) B (mK_ok sk sv) hNs rfl rfl (ch_Tokens_take l hi _ (xrw r_g1 hb.t) _ eg3) rfl (ma_goodc kc_Tokens_take) (B.2.2.2.1 _ k_1266) (B.2.2.2.1 _ k_1267) (B.2.2.2.1 _ k_1268) (B.2.2.2.1 _ k_3) ⟨by decide +kernel, by decide +kernel, by decide +kernel⟩ rfl d_Weaver_register_16 rfl (Nat.le_of_ble_eq_true rfl) ⟨by decide, by decide⟩ ⟨by decide, by decide⟩ ⟨by decide, by decide⟩ (mv_noH hno _) (fun w16 σ16 h16 => ?_)
  obtain ⟨rfl, rfl, s_g3⟩ := h16
  have r_g3 : mv_r g3 = mv_r h := s_g3.trans r_g1
  refine mv_istore_n (pc := 19) B d_Weaver_register_19 rfl (by decide) rfl ?_
  refine mv_aload_n (pc := 20) B d_Weaver_register_20 rfl 1 rfl ?_
  refine mv_getR (pc := 21) (ci := 1) (C := R_Weaver) (T := F_Weaver) (N := 16) B 0 rfl rfl (by decide) i_Weaver (B.2.2.2.1 _ k_228) rfl ((congrFun (congrFun r_g3 2) 0).trans (hb.1.1 2 0 _ rfl)) d_Weaver_register_21 ?_
  refine mv_bipush (pc := 24) (v := 58) B d_Weaver_register_24 (by decide) ?_
  obtain ⟨v6, g5, eg5, hf⟩ := xhb_e hf
  refine mv_callVi (pc := 26) (n := 1) (ci := 2) (C := R_Tokens) B (mK_ok sk sv) hNs rfl rfl (ch_Tokens_take l hi _ (xrw r_g3 hb.t) _ eg5) rfl (ma_goodc kc_Tokens_take) (B.2.2.2.1 _ k_1266) (B.2.2.2.1 _ k_1267) (B.2.2.2.1 _ k_1268) (B.2.2.2.1 _ k_3) ⟨by decide +kernel, by decide +kernel, by decide +kernel⟩ rfl d_Weaver_register_26 rfl (Nat.le_of_ble_eq_true rfl) ⟨by decide, by decide⟩ ⟨by decide, by decide⟩ ⟨by decide, by decide⟩ (mv_noH hno _) (fun w26 σ26 h26 => ?_)
  obtain ⟨rfl, rfl, s_g5⟩ := h26
  have r_g5 : mv_r g5 = mv_r h := s_g5.trans r_g3
  refine mv_pop (pc := 29) B d_Weaver_register_29 rfl ?_
  refine mv_aload_n (pc := 30) B d_Weaver_register_30 rfl 1 rfl ?_
  refine mv_aload_n (pc := 31) B d_Weaver_register_31 rfl 1 rfl ?_
  refine mv_getR (pc := 32) (ci := 1) (C := R_Weaver) (T := F_Weaver) (N := 16) B 0 rfl rfl (by decide) i_Weaver (B.2.2.2.1 _ k_228) rfl ((congrFun (congrFun r_g5 2) 0).trans (hb.1.1 2 0 _ rfl)) d_Weaver_register_32 ?_
  refine mv_iconst (pc := 35) (v := 4) B d_Weaver_register_35 (by decide) ?_
  obtain ⟨v8, g7, eg7, hf⟩ := xhb_e hf
  refine mv_callVi (pc := 36) (n := 1) (ci := 2) (C := R_Tokens) B (mK_ok sk sv) hNs rfl rfl (ch_Tokens_take l hi _ (xrw r_g5 hb.t) _ eg7) rfl (ma_goodc kc_Tokens_take) (B.2.2.2.1 _ k_1266) (B.2.2.2.1 _ k_1267) (B.2.2.2.1 _ k_1268) (B.2.2.2.1 _ k_3) ⟨by decide +kernel, by decide +kernel, by decide +kernel⟩ rfl d_Weaver_register_36 rfl (Nat.le_of_ble_eq_true rfl) ⟨by decide, by decide⟩ ⟨by decide, by decide⟩ ⟨by decide, by decide⟩ (mv_noH hno _) (fun w36 σ36 h36 => ?_)
  obtain ⟨rfl, rfl, s_g7⟩ := h36
  have r_g7 : mv_r g7 = mv_r h := s_g7.trans r_g5
  refine mv_bipush (pc := 39) (v := 64) B d_Weaver_register_39 (by decide) ?_
  obtain ⟨v10, g9, eg9, hf⟩ := xhb_e hf
  refine mv_callVi (pc := 41) (n := 2) (ci := 1) (C := R_Weaver) B (mK_ok sk sv) hNs rfl rfl (ch_Weaver_numberUpTo l hi _ (xrw r_g7 hb.t) _ _ eg9) rfl (ma_goodc kc_Weaver_numberUpTo) (B.2.2.2.1 _ k_1304) (B.2.2.2.1 _ k_1306) (B.2.2.2.1 _ ks_35) (B.2.2.2.1 _ k_2) ⟨by decide +kernel, by decide +kernel, by decide +kernel⟩ rfl d_Weaver_register_41 rfl (Nat.le_of_ble_eq_true rfl) ⟨by decide, by decide⟩ ⟨by decide, by decide⟩ ⟨by decide, by decide⟩ (mv_noH hno _) (fun w41 σ41 h41 => ?_)
  obtain ⟨rfl, rfl, s_g9⟩ := h41
  have r_g9 : mv_r g9 = mv_r h := s_g9.trans r_g7
  refine mv_istore_n (pc := 44) B d_Weaver_register_44 rfl (by decide) rfl ?_
  refine mv_aload_n (pc := 45) B d_Weaver_register_45 rfl 2 rfl ?_
  refine mv_getR (pc := 46) (ci := 1) (C := R_Weaver) (T := F_Weaver) (N := 16) B 0 rfl rfl (by decide) i_Weaver (B.2.2.2.1 _ k_228) rfl ((congrFun (congrFun r_g9 2) 0).trans (hb.1.1 2 0 _ rfl)) d_Weaver_register_46 ?_
  refine mv_bipush (pc := 49) (v := 59) B d_Weaver_register_49 (by decide) ?_
  obtain ⟨v12, g11, eg11, hf⟩ := xhb_e hf
  refine mv_callVi (pc := 51) (n := 1) (ci := 2) (C := R_Tokens) B (mK_ok sk sv) hNs rfl rfl (ch_Tokens_take l hi _ (xrw r_g9 hb.t) _ eg11) rfl (ma_goodc kc_Tokens_take) (B.2.2.2.1 _ k_1266) (B.2.2.2.1 _ k_1267) (B.2.2.2.1 _ k_1268) (B.2.2.2.1 _ k_3) ⟨by decide +kernel, by decide +kernel, by decide +kernel⟩ rfl d_Weaver_register_51 rfl (Nat.le_of_ble_eq_true rfl) ⟨by decide, by decide⟩ ⟨by decide, by decide⟩ ⟨by decide, by decide⟩ (mv_noH hno _) (fun w51 σ51 h51 => ?_)
  obtain ⟨rfl, rfl, s_g11⟩ := h51
  have r_g11 : mv_r g11 = mv_r h := s_g11.trans r_g9
  refine mv_pop (pc := 54) B d_Weaver_register_54 rfl ?_
  refine mv_aload_n (pc := 55) B d_Weaver_register_55 rfl 2 rfl ?_
  refine mv_getR (pc := 56) (ci := 1) (C := R_Weaver) (T := F_Weaver) (N := 16) B 0 rfl rfl (by decide) i_Weaver (B.2.2.2.1 _ k_228) rfl ((congrFun (congrFun r_g11 2) 0).trans (hb.1.1 2 0 _ rfl)) d_Weaver_register_56 ?_
  obtain ⟨v14, g13, eg13, hf⟩ := xhb_e hf
  refine mv_callVi (pc := 59) (n := 0) (ci := 2) (C := R_Tokens) B (mK_ok sk sv) hNs rfl rfl (ch_Tokens_right l hi _ eg13) rfl (ma_goodc kc_Tokens_right) (B.2.2.2.1 _ k_1291) (B.2.2.2.1 _ k_1292) (B.2.2.2.1 _ k_1293) (B.2.2.2.1 _ k_3) ⟨by decide +kernel, by decide +kernel, by decide +kernel⟩ rfl d_Weaver_register_59 rfl (Nat.le_of_ble_eq_true rfl) ⟨by decide, by decide⟩ ⟨by decide, by decide⟩ ⟨by decide, by decide⟩ (mv_noH hno _) (fun w59 σ59 h59 => ?_)
  obtain ⟨rfl, rfl, s_g13⟩ := h59
  have r_g13 : mv_r g13 = mv_r h := s_g13.trans r_g11
  refine mv_if_eq (pc := 62) (tgt := 104) B d_Weaver_register_62 rfl (fun h62 => ?_) (fun h62 => ?_)
  · skip
    have hf := xif_t h62 hf
    exact mv_vret (pc := 104) B hr d_Weaver_register_104 (Nat.le_refl _) (Nat.le_refl _) ⟨rfl, xrh_v hf r_g13⟩
  · skip
    have hf := xif_f h62 hf
    refine mv_aload_n (pc := 65) B d_Weaver_register_65 rfl 2 rfl ?_
    refine mv_iload_n (pc := 66) B d_Weaver_register_66 rfl 1 rfl ?_
    refine mv_iconst (pc := 67) (v := 0) B d_Weaver_register_67 (by decide) ?_
    obtain ⟨v16, g15, eg15, hf⟩ := xhb_e hf
    refine mv_callVi (pc := 68) (n := 2) (ci := 1) (C := R_Weaver) B (mK_ok sk sv) hNs rfl rfl (ch_Weaver_isNew_a l hi _ (xrw r_g13 hb) _ _ eg15) rfl (ma_goodc kc_Weaver_isNew) (B.2.2.2.1 _ k_1308) (B.2.2.2.1 _ k_1310) (B.2.2.2.1 _ ks_36) (B.2.2.2.1 _ k_2) ⟨by decide +kernel, by decide +kernel, by decide +kernel⟩ rfl d_Weaver_register_68 rfl (Nat.le_of_ble_eq_true rfl) ⟨by decide, by decide⟩ ⟨by decide, by decide⟩ ⟨by decide, by decide⟩ (mv_noH hno _) (fun w68 σ68 h68 => ?_)
    obtain ⟨rfl, rfl, s_g15⟩ := h68
    have r_g15 : mv_r g15 = mv_r h := s_g15.trans r_g13
    refine mv_if_eq (pc := 71) (tgt := 104) B d_Weaver_register_71 rfl (fun h71 => ?_) (fun h71 => ?_)
    · skip
      have hf := xif_t h71 hf
      exact mv_vret (pc := 104) B hr d_Weaver_register_104 (Nat.le_refl _) (Nat.le_refl _) ⟨rfl, xrh_v hf r_g15⟩
    · skip
      have hf := xif_f h71 hf
      refine mv_aload_n (pc := 74) B d_Weaver_register_74 rfl 2 rfl ?_
      refine mv_getR (pc := 75) (ci := 1) (C := R_Weaver) (T := F_Weaver) (N := 16) B 1 rfl rfl (by decide) i_Weaver (B.2.2.2.1 _ k_229) rfl ((congrFun (congrFun r_g15 2) 1).trans (hb.1.1 2 1 _ rfl)) d_Weaver_register_75 ?_
      refine mv_aload_n (pc := 78) B d_Weaver_register_78 rfl 2 rfl ?_
      refine mv_iload_n (pc := 79) B d_Weaver_register_79 rfl 1 rfl ?_
      obtain ⟨v18, g17, eg17, hf⟩ := xhb_e hf
      refine mv_callVi (pc := 80) (n := 1) (ci := 1) (C := R_Weaver) B (mK_ok sk sv) hNs rfl rfl (ch_Weaver_symbolOf l hi _ (xrw r_g15 hb.t) _ eg17) rfl (ma_goodc kc_Weaver_symbolOf) (B.2.2.2.1 _ k_1312) (B.2.2.2.1 _ k_1314) (B.2.2.2.1 _ ks_37) (B.2.2.2.1 _ k_2) ⟨by decide +kernel, by decide +kernel, by decide +kernel⟩ rfl d_Weaver_register_80 rfl (Nat.le_of_ble_eq_true rfl) ⟨by decide, by decide⟩ ⟨by decide, by decide⟩ ⟨by decide, by decide⟩ (mv_noH hno _) (fun w80 σ80 h80 => ?_)
      obtain ⟨rfl, rfl, s_g17⟩ := h80
      have r_g17 : mv_r g17 = mv_r h := s_g17.trans r_g15
      refine mv_iconst (pc := 83) (v := 1) B d_Weaver_register_83 (by decide) ?_
      refine mv_aload_n (pc := 84) B d_Weaver_register_84 rfl 2 rfl ?_
      refine mv_getR (pc := 85) (ci := 1) (C := R_Weaver) (T := F_Weaver) (N := 16) B 5 rfl rfl (by decide) i_Weaver (B.2.2.2.1 _ k_235) rfl ((congrFun (congrFun r_g17 2) 5).trans hb.1.2.2.1) d_Weaver_register_85 ?_
      refine mv_getI (pc := 88) (ci := 7) (C := R_Program) (T := F_Program) (N := 19) B 1 rfl rfl (by decide) i_Program (B.2.2.2.1 _ k_316) rfl d_Weaver_register_88 ?_
      obtain ⟨g19, eg19, hf⟩ := xhv_e hf
      refine mv_callVv (pc := 91) (n := 3) (ci := 4) (C := R_Names) B (mK_ok sk sv) hNs rfl rfl (ch_Names_know l hi _ (xrw r_g17 hb.t) _ _ _ eg19) rfl (ma_goodc kc_Names_know) (B.2.2.2.1 _ k_1325) (B.2.2.2.1 _ k_1326) (B.2.2.2.1 _ k_1327) (B.2.2.2.1 _ k_5) ⟨by decide +kernel, by decide +kernel, by decide +kernel⟩ rfl d_Weaver_register_91 rfl (Nat.le_of_ble_eq_true rfl) ⟨by decide, by decide⟩ ⟨by decide, by decide⟩ ⟨by decide, by decide⟩ (mv_noH hno _) (fun σ91 h91 => ?_)
      obtain ⟨rfl, s_g19⟩ := h91
      have r_g19 : mv_r g19 = mv_r h := s_g19.trans r_g17
      refine mv_aload_n (pc := 94) B d_Weaver_register_94 rfl 2 rfl ?_
      refine mv_getR (pc := 95) (ci := 1) (C := R_Weaver) (T := F_Weaver) (N := 16) B 5 rfl rfl (by decide) i_Weaver (B.2.2.2.1 _ k_235) rfl ((congrFun (congrFun r_g19 2) 5).trans hb.1.2.2.1) d_Weaver_register_95 ?_
      refine mv_iload_n (pc := 98) B d_Weaver_register_98 rfl 0 rfl ?_
      refine mv_iconst (pc := 99) (v := 0) B d_Weaver_register_99 (by decide) ?_
      refine mv_iconst (pc := 100) (v := 0) B d_Weaver_register_100 (by decide) ?_
      obtain ⟨g20, eg20, hf⟩ := xhv_e hf
      refine mv_callVv (pc := 101) (n := 3) (ci := 7) (C := R_Program) B (mK_ok sk sv) hNs rfl rfl (ch_Program_addThing_a l hi _ (xrw r_g19 hb) _ _ _ eg20) rfl (ma_goodc kc_Program_addThing) (B.2.2.2.1 _ k_1329) (B.2.2.2.1 _ k_1330) (B.2.2.2.1 _ k_1331) (B.2.2.2.1 _ k_8) ⟨by decide +kernel, by decide +kernel, by decide +kernel⟩ rfl d_Weaver_register_101 rfl (Nat.le_of_ble_eq_true rfl) ⟨by decide, by decide⟩ ⟨by decide, by decide⟩ ⟨by decide, by decide⟩ (mv_noH hno _) (fun σ101 h101 => ?_)
      obtain ⟨rfl, s_g20⟩ := h101
      have r_g20 : mv_r g20 = mv_r h := s_g20.trans r_g19
      exact mv_vret (pc := 104) B hr d_Weaver_register_104 (Nat.le_refl _) (Nat.le_refl _) ⟨rfl, xrh_v hf r_g20⟩
set_option maxHeartbeats 4000000 in
set_option maxRecDepth 100000 in
theorem ch_Weaver_register_b (l : Launch) {dA : FieldType → ClassId} {D : va_G} {al : Nat → Nat} {ext : mv_Sh} {sk sv : Nat → Nat} (hi : mv_inj (mg dA D al ext)) (h : mv_H) (hb : xRP 48 (mv_r h))  {rg : mv_H} (hf : f_Weaver_register 48 h = some rg) : mv_C l y_Weaver_register (Cond.code y_Weaver_register b_Weaver_register 3 (Option.none : Option Jvm.ClassFile.FieldType) :: ma) ({ frames := 3, cells := 0, slots := 0, locals := 68 }) (mg dA D al ext) (mK sk sv) [.ref (al 2)] h (mv_Rv (fun σ1 => rg = σ1 ∧ mv_r σ1 = mv_r h)) := by
  refine mv_C.ofV (cc := b_Weaver_register) (nL := 3) (ret := (Option.none : Option Jvm.ClassFile.FieldType)) (by decide +kernel) rfl hi (Nat.le_of_ble_eq_true rfl) ?_
  intro p e s m below meth c B hNs hr hnm hno
  unfold f_Weaver_register at hf
  refine mv_aload_n (pc := 0) B d_Weaver_register_0 rfl 0 rfl ?_
  refine mv_getR (pc := 1) (ci := 1) (C := R_Weaver) (T := F_Weaver) (N := 16) B 0 rfl rfl (by decide) i_Weaver (B.2.2.2.1 _ k_228) rfl (hb.1.1 2 0 _ rfl) d_Weaver_register_1 ?_
  refine mv_sipush (pc := 4) (v := 201) B d_Weaver_register_4 (by decide) ?_
  obtain ⟨v2, g1, eg1, hf⟩ := xhb_e hf
  refine mv_callVi (pc := 7) (n := 1) (ci := 2) (C := R_Tokens) B (mK_ok sk sv) hNs rfl rfl (ch_Tokens_take l hi _ (hb.t) _ eg1) rfl (ma_goodc kc_Tokens_take) (B.2.2.2.1 _ k_1266) (B.2.2.2.1 _ k_1267) (B.2.2.2.1 _ k_1268) (B.2.2.2.1 _ k_3) ⟨by decide +kernel, by decide +kernel, by decide +kernel⟩ rfl d_Weaver_register_7 rfl (Nat.le_of_ble_eq_true rfl) ⟨by decide, by decide⟩ ⟨by decide, by decide⟩ ⟨by decide, by decide⟩ (mv_noH hno _) (fun w7 σ7 h7 => ?_)
  obtain ⟨rfl, rfl, s_g1⟩ := h7
  have r_g1 : mv_r g1 = mv_r h := s_g1.trans rfl
  refine mv_pop (pc := 10) B d_Weaver_register_10 rfl ?_
  refine mv_aload_n (pc := 11) B d_Weaver_register_11 rfl 0 rfl ?_
  refine mv_getR (pc := 12) (ci := 1) (C := R_Weaver) (T := F_Weaver) (N := 16) B 0 rfl rfl (by decide) i_Weaver (B.2.2.2.1 _ k_228) rfl ((congrFun (congrFun r_g1 2) 0).trans (hb.1.1 2 0 _ rfl)) d_Weaver_register_12 ?_
  refine mv_iconst (pc := 15) (v := 3) B d_Weaver_register_15 (by decide) ?_
  obtain ⟨v4, g3, eg3, hf⟩ := xhb_e hf
  refine mv_callVi (pc := 16) (n := 1) (ci := 2) (C := R_Tokens) B (mK_ok sk sv) hNs rfl rfl (ch_Tokens_take l hi _ (xrw r_g1 hb.t) _ eg3) rfl (ma_goodc kc_Tokens_take) (B.2.2.2.1 _ k_1266) (B.2.2.2.1 _ k_1267) (B.2.2.2.1 _ k_1268) (B.2.2.2.1 _ k_3) ⟨by decide +kernel, by decide +kernel, by decide +kernel⟩ rfl d_Weaver_register_16 rfl (Nat.le_of_ble_eq_true rfl) ⟨by decide, by decide⟩ ⟨by decide, by decide⟩ ⟨by decide, by decide⟩ (mv_noH hno _) (fun w16 σ16 h16 => ?_)
  obtain ⟨rfl, rfl, s_g3⟩ := h16
  have r_g3 : mv_r g3 = mv_r h := s_g3.trans r_g1
  refine mv_istore_n (pc := 19) B d_Weaver_register_19 rfl (by decide) rfl ?_
  refine mv_aload_n (pc := 20) B d_Weaver_register_20 rfl 1 rfl ?_
  refine mv_getR (pc := 21) (ci := 1) (C := R_Weaver) (T := F_Weaver) (N := 16) B 0 rfl rfl (by decide) i_Weaver (B.2.2.2.1 _ k_228) rfl ((congrFun (congrFun r_g3 2) 0).trans (hb.1.1 2 0 _ rfl)) d_Weaver_register_21 ?_
  refine mv_bipush (pc := 24) (v := 58) B d_Weaver_register_24 (by decide) ?_
  obtain ⟨v6, g5, eg5, hf⟩ := xhb_e hf
  refine mv_callVi (pc := 26) (n := 1) (ci := 2) (C := R_Tokens) B (mK_ok sk sv) hNs rfl rfl (ch_Tokens_take l hi _ (xrw r_g3 hb.t) _ eg5) rfl (ma_goodc kc_Tokens_take) (B.2.2.2.1 _ k_1266) (B.2.2.2.1 _ k_1267) (B.2.2.2.1 _ k_1268) (B.2.2.2.1 _ k_3) ⟨by decide +kernel, by decide +kernel, by decide +kernel⟩ rfl d_Weaver_register_26 rfl (Nat.le_of_ble_eq_true rfl) ⟨by decide, by decide⟩ ⟨by decide, by decide⟩ ⟨by decide, by decide⟩ (mv_noH hno _) (fun w26 σ26 h26 => ?_)
  obtain ⟨rfl, rfl, s_g5⟩ := h26
  have r_g5 : mv_r g5 = mv_r h := s_g5.trans r_g3
  refine mv_pop (pc := 29) B d_Weaver_register_29 rfl ?_
  refine mv_aload_n (pc := 30) B d_Weaver_register_30 rfl 1 rfl ?_
  refine mv_aload_n (pc := 31) B d_Weaver_register_31 rfl 1 rfl ?_
  refine mv_getR (pc := 32) (ci := 1) (C := R_Weaver) (T := F_Weaver) (N := 16) B 0 rfl rfl (by decide) i_Weaver (B.2.2.2.1 _ k_228) rfl ((congrFun (congrFun r_g5 2) 0).trans (hb.1.1 2 0 _ rfl)) d_Weaver_register_32 ?_
  refine mv_iconst (pc := 35) (v := 4) B d_Weaver_register_35 (by decide) ?_
  obtain ⟨v8, g7, eg7, hf⟩ := xhb_e hf
  refine mv_callVi (pc := 36) (n := 1) (ci := 2) (C := R_Tokens) B (mK_ok sk sv) hNs rfl rfl (ch_Tokens_take l hi _ (xrw r_g5 hb.t) _ eg7) rfl (ma_goodc kc_Tokens_take) (B.2.2.2.1 _ k_1266) (B.2.2.2.1 _ k_1267) (B.2.2.2.1 _ k_1268) (B.2.2.2.1 _ k_3) ⟨by decide +kernel, by decide +kernel, by decide +kernel⟩ rfl d_Weaver_register_36 rfl (Nat.le_of_ble_eq_true rfl) ⟨by decide, by decide⟩ ⟨by decide, by decide⟩ ⟨by decide, by decide⟩ (mv_noH hno _) (fun w36 σ36 h36 => ?_)
  obtain ⟨rfl, rfl, s_g7⟩ := h36
  have r_g7 : mv_r g7 = mv_r h := s_g7.trans r_g5
  refine mv_bipush (pc := 39) (v := 64) B d_Weaver_register_39 (by decide) ?_
  obtain ⟨v10, g9, eg9, hf⟩ := xhb_e hf
  refine mv_callVi (pc := 41) (n := 2) (ci := 1) (C := R_Weaver) B (mK_ok sk sv) hNs rfl rfl (ch_Weaver_numberUpTo l hi _ (xrw r_g7 hb.t) _ _ eg9) rfl (ma_goodc kc_Weaver_numberUpTo) (B.2.2.2.1 _ k_1304) (B.2.2.2.1 _ k_1306) (B.2.2.2.1 _ ks_35) (B.2.2.2.1 _ k_2) ⟨by decide +kernel, by decide +kernel, by decide +kernel⟩ rfl d_Weaver_register_41 rfl (Nat.le_of_ble_eq_true rfl) ⟨by decide, by decide⟩ ⟨by decide, by decide⟩ ⟨by decide, by decide⟩ (mv_noH hno _) (fun w41 σ41 h41 => ?_)
  obtain ⟨rfl, rfl, s_g9⟩ := h41
  have r_g9 : mv_r g9 = mv_r h := s_g9.trans r_g7
  refine mv_istore_n (pc := 44) B d_Weaver_register_44 rfl (by decide) rfl ?_
  refine mv_aload_n (pc := 45) B d_Weaver_register_45 rfl 2 rfl ?_
  refine mv_getR (pc := 46) (ci := 1) (C := R_Weaver) (T := F_Weaver) (N := 16) B 0 rfl rfl (by decide) i_Weaver (B.2.2.2.1 _ k_228) rfl ((congrFun (congrFun r_g9 2) 0).trans (hb.1.1 2 0 _ rfl)) d_Weaver_register_46 ?_
  refine mv_bipush (pc := 49) (v := 59) B d_Weaver_register_49 (by decide) ?_
  obtain ⟨v12, g11, eg11, hf⟩ := xhb_e hf
  refine mv_callVi (pc := 51) (n := 1) (ci := 2) (C := R_Tokens) B (mK_ok sk sv) hNs rfl rfl (ch_Tokens_take l hi _ (xrw r_g9 hb.t) _ eg11) rfl (ma_goodc kc_Tokens_take) (B.2.2.2.1 _ k_1266) (B.2.2.2.1 _ k_1267) (B.2.2.2.1 _ k_1268) (B.2.2.2.1 _ k_3) ⟨by decide +kernel, by decide +kernel, by decide +kernel⟩ rfl d_Weaver_register_51 rfl (Nat.le_of_ble_eq_true rfl) ⟨by decide, by decide⟩ ⟨by decide, by decide⟩ ⟨by decide, by decide⟩ (mv_noH hno _) (fun w51 σ51 h51 => ?_)
  obtain ⟨rfl, rfl, s_g11⟩ := h51
  have r_g11 : mv_r g11 = mv_r h := s_g11.trans r_g9
  refine mv_pop (pc := 54) B d_Weaver_register_54 rfl ?_
  refine mv_aload_n (pc := 55) B d_Weaver_register_55 rfl 2 rfl ?_
  refine mv_getR (pc := 56) (ci := 1) (C := R_Weaver) (T := F_Weaver) (N := 16) B 0 rfl rfl (by decide) i_Weaver (B.2.2.2.1 _ k_228) rfl ((congrFun (congrFun r_g11 2) 0).trans (hb.1.1 2 0 _ rfl)) d_Weaver_register_56 ?_
  obtain ⟨v14, g13, eg13, hf⟩ := xhb_e hf
  refine mv_callVi (pc := 59) (n := 0) (ci := 2) (C := R_Tokens) B (mK_ok sk sv) hNs rfl rfl (ch_Tokens_right l hi _ eg13) rfl (ma_goodc kc_Tokens_right) (B.2.2.2.1 _ k_1291) (B.2.2.2.1 _ k_1292) (B.2.2.2.1 _ k_1293) (B.2.2.2.1 _ k_3) ⟨by decide +kernel, by decide +kernel, by decide +kernel⟩ rfl d_Weaver_register_59 rfl (Nat.le_of_ble_eq_true rfl) ⟨by decide, by decide⟩ ⟨by decide, by decide⟩ ⟨by decide, by decide⟩ (mv_noH hno _) (fun w59 σ59 h59 => ?_)
  obtain ⟨rfl, rfl, s_g13⟩ := h59
  have r_g13 : mv_r g13 = mv_r h := s_g13.trans r_g11
  refine mv_if_eq (pc := 62) (tgt := 104) B d_Weaver_register_62 rfl (fun h62 => ?_) (fun h62 => ?_)
  · skip
    have hf := xif_t h62 hf
    exact mv_vret (pc := 104) B hr d_Weaver_register_104 (Nat.le_refl _) (Nat.le_refl _) ⟨rfl, xrh_v hf r_g13⟩
  · skip
    have hf := xif_f h62 hf
    refine mv_aload_n (pc := 65) B d_Weaver_register_65 rfl 2 rfl ?_
    refine mv_iload_n (pc := 66) B d_Weaver_register_66 rfl 1 rfl ?_
    refine mv_iconst (pc := 67) (v := 0) B d_Weaver_register_67 (by decide) ?_
    obtain ⟨v16, g15, eg15, hf⟩ := xhb_e hf
    refine mv_callVi (pc := 68) (n := 2) (ci := 1) (C := R_Weaver) B (mK_ok sk sv) hNs rfl rfl (ch_Weaver_isNew_b l hi _ (xrw r_g13 hb) _ _ eg15) rfl (ma_goodc kc_Weaver_isNew) (B.2.2.2.1 _ k_1308) (B.2.2.2.1 _ k_1310) (B.2.2.2.1 _ ks_36) (B.2.2.2.1 _ k_2) ⟨by decide +kernel, by decide +kernel, by decide +kernel⟩ rfl d_Weaver_register_68 rfl (Nat.le_of_ble_eq_true rfl) ⟨by decide, by decide⟩ ⟨by decide, by decide⟩ ⟨by decide, by decide⟩ (mv_noH hno _) (fun w68 σ68 h68 => ?_)
    obtain ⟨rfl, rfl, s_g15⟩ := h68
    have r_g15 : mv_r g15 = mv_r h := s_g15.trans r_g13
    refine mv_if_eq (pc := 71) (tgt := 104) B d_Weaver_register_71 rfl (fun h71 => ?_) (fun h71 => ?_)
    · skip
      have hf := xif_t h71 hf
      exact mv_vret (pc := 104) B hr d_Weaver_register_104 (Nat.le_refl _) (Nat.le_refl _) ⟨rfl, xrh_v hf r_g15⟩
    · skip
      have hf := xif_f h71 hf
      refine mv_aload_n (pc := 74) B d_Weaver_register_74 rfl 2 rfl ?_
      refine mv_getR (pc := 75) (ci := 1) (C := R_Weaver) (T := F_Weaver) (N := 16) B 1 rfl rfl (by decide) i_Weaver (B.2.2.2.1 _ k_229) rfl ((congrFun (congrFun r_g15 2) 1).trans (hb.1.1 2 1 _ rfl)) d_Weaver_register_75 ?_
      refine mv_aload_n (pc := 78) B d_Weaver_register_78 rfl 2 rfl ?_
      refine mv_iload_n (pc := 79) B d_Weaver_register_79 rfl 1 rfl ?_
      obtain ⟨v18, g17, eg17, hf⟩ := xhb_e hf
      refine mv_callVi (pc := 80) (n := 1) (ci := 1) (C := R_Weaver) B (mK_ok sk sv) hNs rfl rfl (ch_Weaver_symbolOf l hi _ (xrw r_g15 hb.t) _ eg17) rfl (ma_goodc kc_Weaver_symbolOf) (B.2.2.2.1 _ k_1312) (B.2.2.2.1 _ k_1314) (B.2.2.2.1 _ ks_37) (B.2.2.2.1 _ k_2) ⟨by decide +kernel, by decide +kernel, by decide +kernel⟩ rfl d_Weaver_register_80 rfl (Nat.le_of_ble_eq_true rfl) ⟨by decide, by decide⟩ ⟨by decide, by decide⟩ ⟨by decide, by decide⟩ (mv_noH hno _) (fun w80 σ80 h80 => ?_)
      obtain ⟨rfl, rfl, s_g17⟩ := h80
      have r_g17 : mv_r g17 = mv_r h := s_g17.trans r_g15
      refine mv_iconst (pc := 83) (v := 1) B d_Weaver_register_83 (by decide) ?_
      refine mv_aload_n (pc := 84) B d_Weaver_register_84 rfl 2 rfl ?_
      refine mv_getR (pc := 85) (ci := 1) (C := R_Weaver) (T := F_Weaver) (N := 16) B 5 rfl rfl (by decide) i_Weaver (B.2.2.2.1 _ k_235) rfl ((congrFun (congrFun r_g17 2) 5).trans hb.1.2.2.1) d_Weaver_register_85 ?_
      refine mv_getI (pc := 88) (ci := 7) (C := R_Program) (T := F_Program) (N := 19) B 1 rfl rfl (by decide) i_Program (B.2.2.2.1 _ k_316) rfl d_Weaver_register_88 ?_
      obtain ⟨g19, eg19, hf⟩ := xhv_e hf
      refine mv_callVv (pc := 91) (n := 3) (ci := 4) (C := R_Names) B (mK_ok sk sv) hNs rfl rfl (ch_Names_know l hi _ (xrw r_g17 hb.t) _ _ _ eg19) rfl (ma_goodc kc_Names_know) (B.2.2.2.1 _ k_1325) (B.2.2.2.1 _ k_1326) (B.2.2.2.1 _ k_1327) (B.2.2.2.1 _ k_5) ⟨by decide +kernel, by decide +kernel, by decide +kernel⟩ rfl d_Weaver_register_91 rfl (Nat.le_of_ble_eq_true rfl) ⟨by decide, by decide⟩ ⟨by decide, by decide⟩ ⟨by decide, by decide⟩ (mv_noH hno _) (fun σ91 h91 => ?_)
      obtain ⟨rfl, s_g19⟩ := h91
      have r_g19 : mv_r g19 = mv_r h := s_g19.trans r_g17
      refine mv_aload_n (pc := 94) B d_Weaver_register_94 rfl 2 rfl ?_
      refine mv_getR (pc := 95) (ci := 1) (C := R_Weaver) (T := F_Weaver) (N := 16) B 5 rfl rfl (by decide) i_Weaver (B.2.2.2.1 _ k_235) rfl ((congrFun (congrFun r_g19 2) 5).trans hb.1.2.2.1) d_Weaver_register_95 ?_
      refine mv_iload_n (pc := 98) B d_Weaver_register_98 rfl 0 rfl ?_
      refine mv_iconst (pc := 99) (v := 0) B d_Weaver_register_99 (by decide) ?_
      refine mv_iconst (pc := 100) (v := 0) B d_Weaver_register_100 (by decide) ?_
      obtain ⟨g20, eg20, hf⟩ := xhv_e hf
      refine mv_callVv (pc := 101) (n := 3) (ci := 7) (C := R_Program) B (mK_ok sk sv) hNs rfl rfl (ch_Program_addThing_b l hi _ (xrw r_g19 hb) _ _ _ eg20) rfl (ma_goodc kc_Program_addThing) (B.2.2.2.1 _ k_1329) (B.2.2.2.1 _ k_1330) (B.2.2.2.1 _ k_1331) (B.2.2.2.1 _ k_8) ⟨by decide +kernel, by decide +kernel, by decide +kernel⟩ rfl d_Weaver_register_101 rfl (Nat.le_of_ble_eq_true rfl) ⟨by decide, by decide⟩ ⟨by decide, by decide⟩ ⟨by decide, by decide⟩ (mv_noH hno _) (fun σ101 h101 => ?_)
      obtain ⟨rfl, s_g20⟩ := h101
      have r_g20 : mv_r g20 = mv_r h := s_g20.trans r_g19
      exact mv_vret (pc := 104) B hr d_Weaver_register_104 (Nat.le_refl _) (Nat.le_refl _) ⟨rfl, xrh_v hf r_g20⟩
def f_Weaver_file_138 (P : Nat) (x1 : Int32) (x2 : Int32) (x3 : Int32) (x4 : Int32) (hz : mv_H) : Option mv_H := xhb (f_Tokens_right hz) fun v2 g1 => if v2 = (0 : Int32) then (some g1) else (xhb (f_Weaver_isNew P g1 x1 x3) fun v4 g3 => if v4 = (0 : Int32) then (some g3) else (xhb (f_Weaver_symbolOf g3 x1) fun v6 g5 => xhv (f_Names_know g5 v6 (2 : Int32) (mv_i g5 P 1)) fun g7 => xhv (f_Program_addThing P g7 x2 x3 x4) fun g8 => some g8))
def f_Weaver_file_134 (P : Nat) (x1 : Int32) (x4 : Int32) (hz : mv_H) : Option mv_H := f_Weaver_file_138 P x1 (0 : Int32) (0 : Int32) x4 hz
def f_Weaver_file_116 (P : Nat) (x1 : Int32) (x2 : Int32) (x3 : Int32) (x4 : Int32) (hz : mv_H) : Option mv_H := xhb (f_Tokens_take hz (59 : Int32)) fun v10 g9 => if x2 = (0 : Int32) then (f_Weaver_file_134 P x1 x4 g9) else (if x3 = (0 : Int32) then (f_Weaver_file_134 P x1 x4 g9) else (f_Weaver_file_138 P x1 x2 x3 x4 g9))
def f_Weaver_file_98 (P : Nat) (x1 : Int32) (x2 : Int32) (x3 : Int32) (y0 : Int32) (hz : mv_H) : Option mv_H := if y0 = (0 : Int32) then (f_Weaver_file_116 P x1 x2 x3 y0 hz) else (xhb (f_Tokens_take hz (203 : Int32)) fun v12 g11 => f_Weaver_file_116 P x1 x2 x3 y0 g11)
def f_Weaver_file (P : Nat) (h : mv_H) : Option mv_H := xhb (f_Tokens_take h (202 : Int32)) fun v14 g13 => xhb (f_Tokens_take g13 (3 : Int32)) fun v16 g15 => xhb (f_Tokens_take g15 (58 : Int32)) fun v18 g17 => xhb (f_Tokens_take g17 (4 : Int32)) fun v20 g19 => xhb (f_Weaver_numberUpTo g19 v20 (64 : Int32)) fun v22 g21 => xhb (f_Tokens_take g21 (91 : Int32)) fun v24 g23 => xhb (f_Tokens_take g23 (4 : Int32)) fun v26 g25 => xhb (f_Weaver_numberUpTo g25 v26 (65536 : Int32)) fun v28 g27 => xhb (f_Tokens_take g27 (93 : Int32)) fun v30 g29 => xhb (f_Tokens_kind g29) fun v32 g31 => if v32 = (203 : Int32) then (f_Weaver_file_98 P v16 v22 v28 (1 : Int32) g31) else (f_Weaver_file_98 P v16 v22 v28 (0 : Int32) g31)
set_option maxHeartbeats 4000000 in
set_option maxRecDepth 100000 in
theorem ch_Weaver_file_a (l : Launch) {dA : FieldType → ClassId} {D : va_G} {al : Nat → Nat} {ext : mv_Sh} {sk sv : Nat → Nat} (hi : mv_inj (mg dA D al ext)) (h : mv_H) (hb : xRP 32 (mv_r h))  {rg : mv_H} (hf : f_Weaver_file 32 h = some rg) : mv_C l y_Weaver_file (Cond.code y_Weaver_file b_Weaver_file 5 (Option.none : Option Jvm.ClassFile.FieldType) :: ma) ({ frames := 3, cells := 0, slots := 0, locals := 68 }) (mg dA D al ext) (mK sk sv) [.ref (al 2)] h (mv_Rv (fun σ1 => rg = σ1 ∧ mv_r σ1 = mv_r h)) := by
  refine mv_C.ofV (cc := b_Weaver_file) (nL := 5) (ret := (Option.none : Option Jvm.ClassFile.FieldType)) (by decide +kernel) rfl hi (Nat.le_of_ble_eq_true rfl) ?_
  intro p e s m below meth c B hNs hr hnm hno
  have jn138 : ∀ (x1 : Int32) (x2 : Int32) (x3 : Int32) (x4 : Int32) (hz : mv_H), mv_r hz = mv_r h → f_Weaver_file_138 32 x1 x2 x3 x4 hz = some rg → mv_V p l e ({ frames := 3, cells := 0, slots := 0, locals := 68 }) s m ([.ref (al 2)] : List Value).toArray below meth c (mg dA D al ext) 5 0 0 (mv_Q (mg dA D al ext) below s 0 0 (mv_Rv (fun σ1 => rg = σ1 ∧ mv_r σ1 = mv_r h))) hz 138 [(0, .ref (al 2)), (1, .int x1), (2, .int x2), (3, .int x3), (4, .int x4)] [] := by
    intro x1 x2 x3 x4 hz r_hz hf
    unfold f_Weaver_file_138 at hf
    refine mv_aload_n (pc := 138) B d_Weaver_file_138 rfl 0 rfl ?_
    refine mv_getR (pc := 139) (ci := 1) (C := R_Weaver) (T := F_Weaver) (N := 16) B 0 rfl rfl (by decide) i_Weaver (B.2.2.2.1 _ k_228) rfl ((congrFun (congrFun r_hz 2) 0).trans (hb.1.1 2 0 _ rfl)) d_Weaver_file_139 ?_
    obtain ⟨v2, g1, eg1, hf⟩ := xhb_e hf
    refine mv_callVi (pc := 142) (n := 0) (ci := 2) (C := R_Tokens) B (mK_ok sk sv) hNs rfl rfl (ch_Tokens_right l hi _ eg1) rfl (ma_goodc kc_Tokens_right) (B.2.2.2.1 _ k_1291) (B.2.2.2.1 _ k_1292) (B.2.2.2.1 _ k_1293) (B.2.2.2.1 _ k_3) ⟨by decide +kernel, by decide +kernel, by decide +kernel⟩ rfl d_Weaver_file_142 rfl (Nat.le_of_ble_eq_true rfl) ⟨by decide, by decide⟩ ⟨by decide, by decide⟩ ⟨by decide, by decide⟩ (mv_noH hno _) (fun w142 σ142 h142 => ?_)
    obtain ⟨rfl, rfl, s_g1⟩ := h142
    have r_g1 : mv_r g1 = mv_r h := s_g1.trans r_hz
    refine mv_if_eq (pc := 145) (tgt := 188) B d_Weaver_file_145 rfl (fun h145 => ?_) (fun h145 => ?_)
    · skip
      have hf := xif_t h145 hf
      exact mv_vret (pc := 188) B hr d_Weaver_file_188 (Nat.le_refl _) (Nat.le_refl _) ⟨rfl, xrh_v hf r_g1⟩
    · skip
      have hf := xif_f h145 hf
      refine mv_aload_n (pc := 148) B d_Weaver_file_148 rfl 0 rfl ?_
      refine mv_iload_n (pc := 149) B d_Weaver_file_149 rfl 1 rfl ?_
      refine mv_iload_n (pc := 150) B d_Weaver_file_150 rfl 3 rfl ?_
      obtain ⟨v4, g3, eg3, hf⟩ := xhb_e hf
      refine mv_callVi (pc := 151) (n := 2) (ci := 1) (C := R_Weaver) B (mK_ok sk sv) hNs rfl rfl (ch_Weaver_isNew_a l hi _ (xrw r_g1 hb) _ _ eg3) rfl (ma_goodc kc_Weaver_isNew) (B.2.2.2.1 _ k_1308) (B.2.2.2.1 _ k_1310) (B.2.2.2.1 _ ks_36) (B.2.2.2.1 _ k_2) ⟨by decide +kernel, by decide +kernel, by decide +kernel⟩ rfl d_Weaver_file_151 rfl (Nat.le_of_ble_eq_true rfl) ⟨by decide, by decide⟩ ⟨by decide, by decide⟩ ⟨by decide, by decide⟩ (mv_noH hno _) (fun w151 σ151 h151 => ?_)
      obtain ⟨rfl, rfl, s_g3⟩ := h151
      have r_g3 : mv_r g3 = mv_r h := s_g3.trans r_g1
      refine mv_if_eq (pc := 154) (tgt := 188) B d_Weaver_file_154 rfl (fun h154 => ?_) (fun h154 => ?_)
      · skip
        have hf := xif_t h154 hf
        exact mv_vret (pc := 188) B hr d_Weaver_file_188 (Nat.le_refl _) (Nat.le_refl _) ⟨rfl, xrh_v hf r_g3⟩
      · skip
        have hf := xif_f h154 hf
        refine mv_aload_n (pc := 157) B d_Weaver_file_157 rfl 0 rfl ?_
        refine mv_getR (pc := 158) (ci := 1) (C := R_Weaver) (T := F_Weaver) (N := 16) B 1 rfl rfl (by decide) i_Weaver (B.2.2.2.1 _ k_229) rfl ((congrFun (congrFun r_g3 2) 1).trans (hb.1.1 2 1 _ rfl)) d_Weaver_file_158 ?_
        refine mv_aload_n (pc := 161) B d_Weaver_file_161 rfl 0 rfl ?_
        refine mv_iload_n (pc := 162) B d_Weaver_file_162 rfl 1 rfl ?_
        obtain ⟨v6, g5, eg5, hf⟩ := xhb_e hf
        refine mv_callVi (pc := 163) (n := 1) (ci := 1) (C := R_Weaver) B (mK_ok sk sv) hNs rfl rfl (ch_Weaver_symbolOf l hi _ (xrw r_g3 hb.t) _ eg5) rfl (ma_goodc kc_Weaver_symbolOf) (B.2.2.2.1 _ k_1312) (B.2.2.2.1 _ k_1314) (B.2.2.2.1 _ ks_37) (B.2.2.2.1 _ k_2) ⟨by decide +kernel, by decide +kernel, by decide +kernel⟩ rfl d_Weaver_file_163 rfl (Nat.le_of_ble_eq_true rfl) ⟨by decide, by decide⟩ ⟨by decide, by decide⟩ ⟨by decide, by decide⟩ (mv_noH hno _) (fun w163 σ163 h163 => ?_)
        obtain ⟨rfl, rfl, s_g5⟩ := h163
        have r_g5 : mv_r g5 = mv_r h := s_g5.trans r_g3
        refine mv_iconst (pc := 166) (v := 2) B d_Weaver_file_166 (by decide) ?_
        refine mv_aload_n (pc := 167) B d_Weaver_file_167 rfl 0 rfl ?_
        refine mv_getR (pc := 168) (ci := 1) (C := R_Weaver) (T := F_Weaver) (N := 16) B 5 rfl rfl (by decide) i_Weaver (B.2.2.2.1 _ k_235) rfl ((congrFun (congrFun r_g5 2) 5).trans hb.1.2.2.1) d_Weaver_file_168 ?_
        refine mv_getI (pc := 171) (ci := 7) (C := R_Program) (T := F_Program) (N := 19) B 1 rfl rfl (by decide) i_Program (B.2.2.2.1 _ k_316) rfl d_Weaver_file_171 ?_
        obtain ⟨g7, eg7, hf⟩ := xhv_e hf
        refine mv_callVv (pc := 174) (n := 3) (ci := 4) (C := R_Names) B (mK_ok sk sv) hNs rfl rfl (ch_Names_know l hi _ (xrw r_g5 hb.t) _ _ _ eg7) rfl (ma_goodc kc_Names_know) (B.2.2.2.1 _ k_1325) (B.2.2.2.1 _ k_1326) (B.2.2.2.1 _ k_1327) (B.2.2.2.1 _ k_5) ⟨by decide +kernel, by decide +kernel, by decide +kernel⟩ rfl d_Weaver_file_174 rfl (Nat.le_of_ble_eq_true rfl) ⟨by decide, by decide⟩ ⟨by decide, by decide⟩ ⟨by decide, by decide⟩ (mv_noH hno _) (fun σ174 h174 => ?_)
        obtain ⟨rfl, s_g7⟩ := h174
        have r_g7 : mv_r g7 = mv_r h := s_g7.trans r_g5
        refine mv_aload_n (pc := 177) B d_Weaver_file_177 rfl 0 rfl ?_
        refine mv_getR (pc := 178) (ci := 1) (C := R_Weaver) (T := F_Weaver) (N := 16) B 5 rfl rfl (by decide) i_Weaver (B.2.2.2.1 _ k_235) rfl ((congrFun (congrFun r_g7 2) 5).trans hb.1.2.2.1) d_Weaver_file_178 ?_
        refine mv_iload_n (pc := 181) B d_Weaver_file_181 rfl 2 rfl ?_
        refine mv_iload_n (pc := 182) B d_Weaver_file_182 rfl 3 rfl ?_
        refine mv_iload (pc := 183) B d_Weaver_file_183 4 rfl ?_
        obtain ⟨g8, eg8, hf⟩ := xhv_e hf
        refine mv_callVv (pc := 185) (n := 3) (ci := 7) (C := R_Program) B (mK_ok sk sv) hNs rfl rfl (ch_Program_addThing_a l hi _ (xrw r_g7 hb) _ _ _ eg8) rfl (ma_goodc kc_Program_addThing) (B.2.2.2.1 _ k_1329) (B.2.2.2.1 _ k_1330) (B.2.2.2.1 _ k_1331) (B.2.2.2.1 _ k_8) ⟨by decide +kernel, by decide +kernel, by decide +kernel⟩ rfl d_Weaver_file_185 rfl (Nat.le_of_ble_eq_true rfl) ⟨by decide, by decide⟩ ⟨by decide, by decide⟩ ⟨by decide, by decide⟩ (mv_noH hno _) (fun σ185 h185 => ?_)
        obtain ⟨rfl, s_g8⟩ := h185
        have r_g8 : mv_r g8 = mv_r h := s_g8.trans r_g7
        exact mv_vret (pc := 188) B hr d_Weaver_file_188 (Nat.le_refl _) (Nat.le_refl _) ⟨rfl, xrh_v hf r_g8⟩
  have jn134 : ∀ (x1 : Int32) (x4 : Int32) (hz : mv_H), mv_r hz = mv_r h → f_Weaver_file_134 32 x1 x4 hz = some rg → mv_V p l e ({ frames := 3, cells := 0, slots := 0, locals := 68 }) s m ([.ref (al 2)] : List Value).toArray below meth c (mg dA D al ext) 5 0 0 (mv_Q (mg dA D al ext) below s 0 0 (mv_Rv (fun σ1 => rg = σ1 ∧ mv_r σ1 = mv_r h))) hz 134 [(0, .ref (al 2)), (1, .int x1), (4, .int x4)] [] := by
    intro x1 x4 hz r_hz hf
    unfold f_Weaver_file_134 at hf
    refine mv_iconst (pc := 134) (v := 0) B d_Weaver_file_134 (by decide) ?_
    refine mv_istore_n (pc := 135) B d_Weaver_file_135 rfl (by decide) rfl ?_
    refine mv_iconst (pc := 136) (v := 0) B d_Weaver_file_136 (by decide) ?_
    refine mv_istore_n (pc := 137) B d_Weaver_file_137 rfl (by decide) rfl ?_
    refine mv_lpick [2, 3, 1, 0, 4] rfl ?_
    exact jn138 _ _ _ _ _ r_hz hf
  have jn116 : ∀ (x1 : Int32) (x2 : Int32) (x3 : Int32) (x4 : Int32) (hz : mv_H), mv_r hz = mv_r h → f_Weaver_file_116 32 x1 x2 x3 x4 hz = some rg → mv_V p l e ({ frames := 3, cells := 0, slots := 0, locals := 68 }) s m ([.ref (al 2)] : List Value).toArray below meth c (mg dA D al ext) 5 0 0 (mv_Q (mg dA D al ext) below s 0 0 (mv_Rv (fun σ1 => rg = σ1 ∧ mv_r σ1 = mv_r h))) hz 116 [(0, .ref (al 2)), (1, .int x1), (2, .int x2), (3, .int x3), (4, .int x4)] [] := by
    intro x1 x2 x3 x4 hz r_hz hf
    unfold f_Weaver_file_116 at hf
    refine mv_aload_n (pc := 116) B d_Weaver_file_116 rfl 0 rfl ?_
    refine mv_getR (pc := 117) (ci := 1) (C := R_Weaver) (T := F_Weaver) (N := 16) B 0 rfl rfl (by decide) i_Weaver (B.2.2.2.1 _ k_228) rfl ((congrFun (congrFun r_hz 2) 0).trans (hb.1.1 2 0 _ rfl)) d_Weaver_file_117 ?_
    refine mv_bipush (pc := 120) (v := 59) B d_Weaver_file_120 (by decide) ?_
    obtain ⟨v10, g9, eg9, hf⟩ := xhb_e hf
    refine mv_callVi (pc := 122) (n := 1) (ci := 2) (C := R_Tokens) B (mK_ok sk sv) hNs rfl rfl (ch_Tokens_take l hi _ (xrw r_hz hb.t) _ eg9) rfl (ma_goodc kc_Tokens_take) (B.2.2.2.1 _ k_1266) (B.2.2.2.1 _ k_1267) (B.2.2.2.1 _ k_1268) (B.2.2.2.1 _ k_3) ⟨by decide +kernel, by decide +kernel, by decide +kernel⟩ rfl d_Weaver_file_122 rfl (Nat.le_of_ble_eq_true rfl) ⟨by decide, by decide⟩ ⟨by decide, by decide⟩ ⟨by decide, by decide⟩ (mv_noH hno _) (fun w122 σ122 h122 => ?_)
    obtain ⟨rfl, rfl, s_g9⟩ := h122
    have r_g9 : mv_r g9 = mv_r h := s_g9.trans r_hz
    refine mv_pop (pc := 125) B d_Weaver_file_125 rfl ?_
    refine mv_iload_n (pc := 126) B d_Weaver_file_126 rfl 2 rfl ?_
    refine mv_if_eq (pc := 127) (tgt := 134) B d_Weaver_file_127 rfl (fun h127 => ?_) (fun h127 => ?_)
    · skip
      have hf := xif_t h127 hf
      refine mv_lpick [0, 1, 4] rfl ?_
      exact jn134 _ _ _ r_g9 hf
    · skip
      have hf := xif_f h127 hf
      refine mv_iload_n (pc := 130) B d_Weaver_file_130 rfl 3 rfl ?_
      refine mv_if_ne (pc := 131) (tgt := 138) B d_Weaver_file_131 rfl (fun h131 => ?_) (fun h131 => ?_)
      · skip
        have hf := xif_f h131 hf
        refine mv_lpick [0, 1, 2, 3, 4] rfl ?_
        exact jn138 _ _ _ _ _ r_g9 hf
      · skip
        have hf := xif_t h131 hf
        refine mv_lpick [0, 1, 4] rfl ?_
        exact jn134 _ _ _ r_g9 hf
  have jn98 : ∀ (x1 : Int32) (x2 : Int32) (x3 : Int32) (y0 : Int32) (hz : mv_H), mv_r hz = mv_r h → f_Weaver_file_98 32 x1 x2 x3 y0 hz = some rg → mv_V p l e ({ frames := 3, cells := 0, slots := 0, locals := 68 }) s m ([.ref (al 2)] : List Value).toArray below meth c (mg dA D al ext) 5 0 0 (mv_Q (mg dA D al ext) below s 0 0 (mv_Rv (fun σ1 => rg = σ1 ∧ mv_r σ1 = mv_r h))) hz 98 [(0, .ref (al 2)), (1, .int x1), (2, .int x2), (3, .int x3)] [.int y0] := by
    intro x1 x2 x3 y0 hz r_hz hf
    unfold f_Weaver_file_98 at hf
    refine mv_istore (pc := 98) B d_Weaver_file_98 (by decide) rfl ?_
    refine mv_iload (pc := 100) B d_Weaver_file_100 0 rfl ?_
    refine mv_if_eq (pc := 102) (tgt := 116) B d_Weaver_file_102 rfl (fun h102 => ?_) (fun h102 => ?_)
    · skip
      have hf := xif_t h102 hf
      refine mv_lpick [1, 2, 3, 4, 0] rfl ?_
      exact jn116 _ _ _ _ _ r_hz hf
    · skip
      have hf := xif_f h102 hf
      refine mv_aload_n (pc := 105) B d_Weaver_file_105 rfl 1 rfl ?_
      refine mv_getR (pc := 106) (ci := 1) (C := R_Weaver) (T := F_Weaver) (N := 16) B 0 rfl rfl (by decide) i_Weaver (B.2.2.2.1 _ k_228) rfl ((congrFun (congrFun r_hz 2) 0).trans (hb.1.1 2 0 _ rfl)) d_Weaver_file_106 ?_
      refine mv_sipush (pc := 109) (v := 203) B d_Weaver_file_109 (by decide) ?_
      obtain ⟨v12, g11, eg11, hf⟩ := xhb_e hf
      refine mv_callVi (pc := 112) (n := 1) (ci := 2) (C := R_Tokens) B (mK_ok sk sv) hNs rfl rfl (ch_Tokens_take l hi _ (xrw r_hz hb.t) _ eg11) rfl (ma_goodc kc_Tokens_take) (B.2.2.2.1 _ k_1266) (B.2.2.2.1 _ k_1267) (B.2.2.2.1 _ k_1268) (B.2.2.2.1 _ k_3) ⟨by decide +kernel, by decide +kernel, by decide +kernel⟩ rfl d_Weaver_file_112 rfl (Nat.le_of_ble_eq_true rfl) ⟨by decide, by decide⟩ ⟨by decide, by decide⟩ ⟨by decide, by decide⟩ (mv_noH hno _) (fun w112 σ112 h112 => ?_)
      obtain ⟨rfl, rfl, s_g11⟩ := h112
      have r_g11 : mv_r g11 = mv_r h := s_g11.trans r_hz
      refine mv_pop (pc := 115) B d_Weaver_file_115 rfl ?_
      refine mv_lpick [1, 2, 3, 4, 0] rfl ?_
      exact jn116 _ _ _ _ _ r_g11 hf
  unfold f_Weaver_file at hf
  refine mv_aload_n (pc := 0) B d_Weaver_file_0 rfl 0 rfl ?_
  refine mv_getR (pc := 1) (ci := 1) (C := R_Weaver) (T := F_Weaver) (N := 16) B 0 rfl rfl (by decide) i_Weaver (B.2.2.2.1 _ k_228) rfl (hb.1.1 2 0 _ rfl) d_Weaver_file_1 ?_
  refine mv_sipush (pc := 4) (v := 202) B d_Weaver_file_4 (by decide) ?_
  obtain ⟨v14, g13, eg13, hf⟩ := xhb_e hf
  refine mv_callVi (pc := 7) (n := 1) (ci := 2) (C := R_Tokens) B (mK_ok sk sv) hNs rfl rfl (ch_Tokens_take l hi _ (hb.t) _ eg13) rfl (ma_goodc kc_Tokens_take) (B.2.2.2.1 _ k_1266) (B.2.2.2.1 _ k_1267) (B.2.2.2.1 _ k_1268) (B.2.2.2.1 _ k_3) ⟨by decide +kernel, by decide +kernel, by decide +kernel⟩ rfl d_Weaver_file_7 rfl (Nat.le_of_ble_eq_true rfl) ⟨by decide, by decide⟩ ⟨by decide, by decide⟩ ⟨by decide, by decide⟩ (mv_noH hno _) (fun w7 σ7 h7 => ?_)
  obtain ⟨rfl, rfl, s_g13⟩ := h7
  have r_g13 : mv_r g13 = mv_r h := s_g13.trans rfl
  refine mv_pop (pc := 10) B d_Weaver_file_10 rfl ?_
  refine mv_aload_n (pc := 11) B d_Weaver_file_11 rfl 0 rfl ?_
  refine mv_getR (pc := 12) (ci := 1) (C := R_Weaver) (T := F_Weaver) (N := 16) B 0 rfl rfl (by decide) i_Weaver (B.2.2.2.1 _ k_228) rfl ((congrFun (congrFun r_g13 2) 0).trans (hb.1.1 2 0 _ rfl)) d_Weaver_file_12 ?_
  refine mv_iconst (pc := 15) (v := 3) B d_Weaver_file_15 (by decide) ?_
  obtain ⟨v16, g15, eg15, hf⟩ := xhb_e hf
  refine mv_callVi (pc := 16) (n := 1) (ci := 2) (C := R_Tokens) B (mK_ok sk sv) hNs rfl rfl (ch_Tokens_take l hi _ (xrw r_g13 hb.t) _ eg15) rfl (ma_goodc kc_Tokens_take) (B.2.2.2.1 _ k_1266) (B.2.2.2.1 _ k_1267) (B.2.2.2.1 _ k_1268) (B.2.2.2.1 _ k_3) ⟨by decide +kernel, by decide +kernel, by decide +kernel⟩ rfl d_Weaver_file_16 rfl (Nat.le_of_ble_eq_true rfl) ⟨by decide, by decide⟩ ⟨by decide, by decide⟩ ⟨by decide, by decide⟩ (mv_noH hno _) (fun w16 σ16 h16 => ?_)
  obtain ⟨rfl, rfl, s_g15⟩ := h16
  have r_g15 : mv_r g15 = mv_r h := s_g15.trans r_g13
  refine mv_istore_n (pc := 19) B d_Weaver_file_19 rfl (by decide) rfl ?_
  refine mv_aload_n (pc := 20) B d_Weaver_file_20 rfl 1 rfl ?_
  refine mv_getR (pc := 21) (ci := 1) (C := R_Weaver) (T := F_Weaver) (N := 16) B 0 rfl rfl (by decide) i_Weaver (B.2.2.2.1 _ k_228) rfl ((congrFun (congrFun r_g15 2) 0).trans (hb.1.1 2 0 _ rfl)) d_Weaver_file_21 ?_
  refine mv_bipush (pc := 24) (v := 58) B d_Weaver_file_24 (by decide) ?_
  obtain ⟨v18, g17, eg17, hf⟩ := xhb_e hf
  refine mv_callVi (pc := 26) (n := 1) (ci := 2) (C := R_Tokens) B (mK_ok sk sv) hNs rfl rfl (ch_Tokens_take l hi _ (xrw r_g15 hb.t) _ eg17) rfl (ma_goodc kc_Tokens_take) (B.2.2.2.1 _ k_1266) (B.2.2.2.1 _ k_1267) (B.2.2.2.1 _ k_1268) (B.2.2.2.1 _ k_3) ⟨by decide +kernel, by decide +kernel, by decide +kernel⟩ rfl d_Weaver_file_26 rfl (Nat.le_of_ble_eq_true rfl) ⟨by decide, by decide⟩ ⟨by decide, by decide⟩ ⟨by decide, by decide⟩ (mv_noH hno _) (fun w26 σ26 h26 => ?_)
  obtain ⟨rfl, rfl, s_g17⟩ := h26
  have r_g17 : mv_r g17 = mv_r h := s_g17.trans r_g15
  refine mv_pop (pc := 29) B d_Weaver_file_29 rfl ?_
  refine mv_aload_n (pc := 30) B d_Weaver_file_30 rfl 1 rfl ?_
  refine mv_aload_n (pc := 31) B d_Weaver_file_31 rfl 1 rfl ?_
  refine mv_getR (pc := 32) (ci := 1) (C := R_Weaver) (T := F_Weaver) (N := 16) B 0 rfl rfl (by decide) i_Weaver (B.2.2.2.1 _ k_228) rfl ((congrFun (congrFun r_g17 2) 0).trans (hb.1.1 2 0 _ rfl)) d_Weaver_file_32 ?_
  refine mv_iconst (pc := 35) (v := 4) B d_Weaver_file_35 (by decide) ?_
  obtain ⟨v20, g19, eg19, hf⟩ := xhb_e hf
  refine mv_callVi (pc := 36) (n := 1) (ci := 2) (C := R_Tokens) B (mK_ok sk sv) hNs rfl rfl (ch_Tokens_take l hi _ (xrw r_g17 hb.t) _ eg19) rfl (ma_goodc kc_Tokens_take) (B.2.2.2.1 _ k_1266) (B.2.2.2.1 _ k_1267) (B.2.2.2.1 _ k_1268) (B.2.2.2.1 _ k_3) ⟨by decide +kernel, by decide +kernel, by decide +kernel⟩ rfl d_Weaver_file_36 rfl (Nat.le_of_ble_eq_true rfl) ⟨by decide, by decide⟩ ⟨by decide, by decide⟩ ⟨by decide, by decide⟩ (mv_noH hno _) (fun w36 σ36 h36 => ?_)
  obtain ⟨rfl, rfl, s_g19⟩ := h36
  have r_g19 : mv_r g19 = mv_r h := s_g19.trans r_g17
  refine mv_bipush (pc := 39) (v := 64) B d_Weaver_file_39 (by decide) ?_
  obtain ⟨v22, g21, eg21, hf⟩ := xhb_e hf
  refine mv_callVi (pc := 41) (n := 2) (ci := 1) (C := R_Weaver) B (mK_ok sk sv) hNs rfl rfl (ch_Weaver_numberUpTo l hi _ (xrw r_g19 hb.t) _ _ eg21) rfl (ma_goodc kc_Weaver_numberUpTo) (B.2.2.2.1 _ k_1304) (B.2.2.2.1 _ k_1306) (B.2.2.2.1 _ ks_35) (B.2.2.2.1 _ k_2) ⟨by decide +kernel, by decide +kernel, by decide +kernel⟩ rfl d_Weaver_file_41 rfl (Nat.le_of_ble_eq_true rfl) ⟨by decide, by decide⟩ ⟨by decide, by decide⟩ ⟨by decide, by decide⟩ (mv_noH hno _) (fun w41 σ41 h41 => ?_)
  obtain ⟨rfl, rfl, s_g21⟩ := h41
  have r_g21 : mv_r g21 = mv_r h := s_g21.trans r_g19
  refine mv_istore_n (pc := 44) B d_Weaver_file_44 rfl (by decide) rfl ?_
  refine mv_aload_n (pc := 45) B d_Weaver_file_45 rfl 2 rfl ?_
  refine mv_getR (pc := 46) (ci := 1) (C := R_Weaver) (T := F_Weaver) (N := 16) B 0 rfl rfl (by decide) i_Weaver (B.2.2.2.1 _ k_228) rfl ((congrFun (congrFun r_g21 2) 0).trans (hb.1.1 2 0 _ rfl)) d_Weaver_file_46 ?_
  refine mv_bipush (pc := 49) (v := 91) B d_Weaver_file_49 (by decide) ?_
  obtain ⟨v24, g23, eg23, hf⟩ := xhb_e hf
  refine mv_callVi (pc := 51) (n := 1) (ci := 2) (C := R_Tokens) B (mK_ok sk sv) hNs rfl rfl (ch_Tokens_take l hi _ (xrw r_g21 hb.t) _ eg23) rfl (ma_goodc kc_Tokens_take) (B.2.2.2.1 _ k_1266) (B.2.2.2.1 _ k_1267) (B.2.2.2.1 _ k_1268) (B.2.2.2.1 _ k_3) ⟨by decide +kernel, by decide +kernel, by decide +kernel⟩ rfl d_Weaver_file_51 rfl (Nat.le_of_ble_eq_true rfl) ⟨by decide, by decide⟩ ⟨by decide, by decide⟩ ⟨by decide, by decide⟩ (mv_noH hno _) (fun w51 σ51 h51 => ?_)
  obtain ⟨rfl, rfl, s_g23⟩ := h51
  have r_g23 : mv_r g23 = mv_r h := s_g23.trans r_g21
  refine mv_pop (pc := 54) B d_Weaver_file_54 rfl ?_
  refine mv_aload_n (pc := 55) B d_Weaver_file_55 rfl 2 rfl ?_
  refine mv_aload_n (pc := 56) B d_Weaver_file_56 rfl 2 rfl ?_
  refine mv_getR (pc := 57) (ci := 1) (C := R_Weaver) (T := F_Weaver) (N := 16) B 0 rfl rfl (by decide) i_Weaver (B.2.2.2.1 _ k_228) rfl ((congrFun (congrFun r_g23 2) 0).trans (hb.1.1 2 0 _ rfl)) d_Weaver_file_57 ?_
  refine mv_iconst (pc := 60) (v := 4) B d_Weaver_file_60 (by decide) ?_
  obtain ⟨v26, g25, eg25, hf⟩ := xhb_e hf
  refine mv_callVi (pc := 61) (n := 1) (ci := 2) (C := R_Tokens) B (mK_ok sk sv) hNs rfl rfl (ch_Tokens_take l hi _ (xrw r_g23 hb.t) _ eg25) rfl (ma_goodc kc_Tokens_take) (B.2.2.2.1 _ k_1266) (B.2.2.2.1 _ k_1267) (B.2.2.2.1 _ k_1268) (B.2.2.2.1 _ k_3) ⟨by decide +kernel, by decide +kernel, by decide +kernel⟩ rfl d_Weaver_file_61 rfl (Nat.le_of_ble_eq_true rfl) ⟨by decide, by decide⟩ ⟨by decide, by decide⟩ ⟨by decide, by decide⟩ (mv_noH hno _) (fun w61 σ61 h61 => ?_)
  obtain ⟨rfl, rfl, s_g25⟩ := h61
  have r_g25 : mv_r g25 = mv_r h := s_g25.trans r_g23
  refine mv_ldc (pc := 64) (v := 65536) B (B.2.2.2.1 _ k_1324) d_Weaver_file_64 ?_
  obtain ⟨v28, g27, eg27, hf⟩ := xhb_e hf
  refine mv_callVi (pc := 66) (n := 2) (ci := 1) (C := R_Weaver) B (mK_ok sk sv) hNs rfl rfl (ch_Weaver_numberUpTo l hi _ (xrw r_g25 hb.t) _ _ eg27) rfl (ma_goodc kc_Weaver_numberUpTo) (B.2.2.2.1 _ k_1304) (B.2.2.2.1 _ k_1306) (B.2.2.2.1 _ ks_35) (B.2.2.2.1 _ k_2) ⟨by decide +kernel, by decide +kernel, by decide +kernel⟩ rfl d_Weaver_file_66 rfl (Nat.le_of_ble_eq_true rfl) ⟨by decide, by decide⟩ ⟨by decide, by decide⟩ ⟨by decide, by decide⟩ (mv_noH hno _) (fun w66 σ66 h66 => ?_)
  obtain ⟨rfl, rfl, s_g27⟩ := h66
  have r_g27 : mv_r g27 = mv_r h := s_g27.trans r_g25
  refine mv_istore_n (pc := 69) B d_Weaver_file_69 rfl (by decide) rfl ?_
  refine mv_aload_n (pc := 70) B d_Weaver_file_70 rfl 3 rfl ?_
  refine mv_getR (pc := 71) (ci := 1) (C := R_Weaver) (T := F_Weaver) (N := 16) B 0 rfl rfl (by decide) i_Weaver (B.2.2.2.1 _ k_228) rfl ((congrFun (congrFun r_g27 2) 0).trans (hb.1.1 2 0 _ rfl)) d_Weaver_file_71 ?_
  refine mv_bipush (pc := 74) (v := 93) B d_Weaver_file_74 (by decide) ?_
  obtain ⟨v30, g29, eg29, hf⟩ := xhb_e hf
  refine mv_callVi (pc := 76) (n := 1) (ci := 2) (C := R_Tokens) B (mK_ok sk sv) hNs rfl rfl (ch_Tokens_take l hi _ (xrw r_g27 hb.t) _ eg29) rfl (ma_goodc kc_Tokens_take) (B.2.2.2.1 _ k_1266) (B.2.2.2.1 _ k_1267) (B.2.2.2.1 _ k_1268) (B.2.2.2.1 _ k_3) ⟨by decide +kernel, by decide +kernel, by decide +kernel⟩ rfl d_Weaver_file_76 rfl (Nat.le_of_ble_eq_true rfl) ⟨by decide, by decide⟩ ⟨by decide, by decide⟩ ⟨by decide, by decide⟩ (mv_noH hno _) (fun w76 σ76 h76 => ?_)
  obtain ⟨rfl, rfl, s_g29⟩ := h76
  have r_g29 : mv_r g29 = mv_r h := s_g29.trans r_g27
  refine mv_pop (pc := 79) B d_Weaver_file_79 rfl ?_
  refine mv_aload_n (pc := 80) B d_Weaver_file_80 rfl 3 rfl ?_
  refine mv_getR (pc := 81) (ci := 1) (C := R_Weaver) (T := F_Weaver) (N := 16) B 0 rfl rfl (by decide) i_Weaver (B.2.2.2.1 _ k_228) rfl ((congrFun (congrFun r_g29 2) 0).trans (hb.1.1 2 0 _ rfl)) d_Weaver_file_81 ?_
  obtain ⟨v32, g31, eg31, hf⟩ := xhb_e hf
  refine mv_callVi (pc := 84) (n := 0) (ci := 2) (C := R_Tokens) B (mK_ok sk sv) hNs rfl rfl (ch_Tokens_kind l hi _ (xrw r_g29 hb.t) eg31) rfl (ma_goodc kc_Tokens_kind) (B.2.2.2.1 _ k_1299) (B.2.2.2.1 _ k_1271) (B.2.2.2.1 _ k_1272) (B.2.2.2.1 _ k_3) ⟨by decide +kernel, by decide +kernel, by decide +kernel⟩ rfl d_Weaver_file_84 rfl (Nat.le_of_ble_eq_true rfl) ⟨by decide, by decide⟩ ⟨by decide, by decide⟩ ⟨by decide, by decide⟩ (mv_noH hno _) (fun w84 σ84 h84 => ?_)
  obtain ⟨rfl, rfl, s_g31⟩ := h84
  have r_g31 : mv_r g31 = mv_r h := s_g31.trans r_g29
  refine mv_sipush (pc := 87) (v := 203) B d_Weaver_file_87 (by decide) ?_
  refine mv_icmp_ne (pc := 90) (tgt := 97) B d_Weaver_file_90 rfl (fun h90 => ?_) (fun h90 => ?_)
  · skip
    have hf := xif_f h90 hf
    refine mv_iconst (pc := 97) (v := 0) B d_Weaver_file_97 (by decide) ?_
    refine mv_lpick [3, 2, 1, 0] rfl ?_
    exact jn98 _ _ _ _ _ r_g31 hf
  · skip
    have hf := xif_t h90 hf
    refine mv_iconst (pc := 93) (v := 1) B d_Weaver_file_93 (by decide) ?_
    refine mv_goto (pc := 94) (tgt := 98) B d_Weaver_file_94 rfl ?_
    refine mv_lpick [3, 2, 1, 0] rfl ?_
    exact jn98 _ _ _ _ _ r_g31 hf
set_option maxHeartbeats 4000000 in
set_option maxRecDepth 100000 in
theorem ch_Weaver_file_b (l : Launch) {dA : FieldType → ClassId} {D : va_G} {al : Nat → Nat} {ext : mv_Sh} {sk sv : Nat → Nat} (hi : mv_inj (mg dA D al ext)) (h : mv_H) (hb : xRP 48 (mv_r h))  {rg : mv_H} (hf : f_Weaver_file 48 h = some rg) : mv_C l y_Weaver_file (Cond.code y_Weaver_file b_Weaver_file 5 (Option.none : Option Jvm.ClassFile.FieldType) :: ma) ({ frames := 3, cells := 0, slots := 0, locals := 68 }) (mg dA D al ext) (mK sk sv) [.ref (al 2)] h (mv_Rv (fun σ1 => rg = σ1 ∧ mv_r σ1 = mv_r h)) := by
  refine mv_C.ofV (cc := b_Weaver_file) (nL := 5) (ret := (Option.none : Option Jvm.ClassFile.FieldType)) (by decide +kernel) rfl hi (Nat.le_of_ble_eq_true rfl) ?_
  intro p e s m below meth c B hNs hr hnm hno
  have jn138 : ∀ (x1 : Int32) (x2 : Int32) (x3 : Int32) (x4 : Int32) (hz : mv_H), mv_r hz = mv_r h → f_Weaver_file_138 48 x1 x2 x3 x4 hz = some rg → mv_V p l e ({ frames := 3, cells := 0, slots := 0, locals := 68 }) s m ([.ref (al 2)] : List Value).toArray below meth c (mg dA D al ext) 5 0 0 (mv_Q (mg dA D al ext) below s 0 0 (mv_Rv (fun σ1 => rg = σ1 ∧ mv_r σ1 = mv_r h))) hz 138 [(0, .ref (al 2)), (1, .int x1), (2, .int x2), (3, .int x3), (4, .int x4)] [] := by
    intro x1 x2 x3 x4 hz r_hz hf
    unfold f_Weaver_file_138 at hf
    refine mv_aload_n (pc := 138) B d_Weaver_file_138 rfl 0 rfl ?_
    refine mv_getR (pc := 139) (ci := 1) (C := R_Weaver) (T := F_Weaver) (N := 16) B 0 rfl rfl (by decide) i_Weaver (B.2.2.2.1 _ k_228) rfl ((congrFun (congrFun r_hz 2) 0).trans (hb.1.1 2 0 _ rfl)) d_Weaver_file_139 ?_
    obtain ⟨v2, g1, eg1, hf⟩ := xhb_e hf
    refine mv_callVi (pc := 142) (n := 0) (ci := 2) (C := R_Tokens) B (mK_ok sk sv) hNs rfl rfl (ch_Tokens_right l hi _ eg1) rfl (ma_goodc kc_Tokens_right) (B.2.2.2.1 _ k_1291) (B.2.2.2.1 _ k_1292) (B.2.2.2.1 _ k_1293) (B.2.2.2.1 _ k_3) ⟨by decide +kernel, by decide +kernel, by decide +kernel⟩ rfl d_Weaver_file_142 rfl (Nat.le_of_ble_eq_true rfl) ⟨by decide, by decide⟩ ⟨by decide, by decide⟩ ⟨by decide, by decide⟩ (mv_noH hno _) (fun w142 σ142 h142 => ?_)
    obtain ⟨rfl, rfl, s_g1⟩ := h142
    have r_g1 : mv_r g1 = mv_r h := s_g1.trans r_hz
    refine mv_if_eq (pc := 145) (tgt := 188) B d_Weaver_file_145 rfl (fun h145 => ?_) (fun h145 => ?_)
    · skip
      have hf := xif_t h145 hf
      exact mv_vret (pc := 188) B hr d_Weaver_file_188 (Nat.le_refl _) (Nat.le_refl _) ⟨rfl, xrh_v hf r_g1⟩
    · skip
      have hf := xif_f h145 hf
      refine mv_aload_n (pc := 148) B d_Weaver_file_148 rfl 0 rfl ?_
      refine mv_iload_n (pc := 149) B d_Weaver_file_149 rfl 1 rfl ?_
      refine mv_iload_n (pc := 150) B d_Weaver_file_150 rfl 3 rfl ?_
      obtain ⟨v4, g3, eg3, hf⟩ := xhb_e hf
      refine mv_callVi (pc := 151) (n := 2) (ci := 1) (C := R_Weaver) B (mK_ok sk sv) hNs rfl rfl (ch_Weaver_isNew_b l hi _ (xrw r_g1 hb) _ _ eg3) rfl (ma_goodc kc_Weaver_isNew) (B.2.2.2.1 _ k_1308) (B.2.2.2.1 _ k_1310) (B.2.2.2.1 _ ks_36) (B.2.2.2.1 _ k_2) ⟨by decide +kernel, by decide +kernel, by decide +kernel⟩ rfl d_Weaver_file_151 rfl (Nat.le_of_ble_eq_true rfl) ⟨by decide, by decide⟩ ⟨by decide, by decide⟩ ⟨by decide, by decide⟩ (mv_noH hno _) (fun w151 σ151 h151 => ?_)
      obtain ⟨rfl, rfl, s_g3⟩ := h151
      have r_g3 : mv_r g3 = mv_r h := s_g3.trans r_g1
      refine mv_if_eq (pc := 154) (tgt := 188) B d_Weaver_file_154 rfl (fun h154 => ?_) (fun h154 => ?_)
      · skip
        have hf := xif_t h154 hf
        exact mv_vret (pc := 188) B hr d_Weaver_file_188 (Nat.le_refl _) (Nat.le_refl _) ⟨rfl, xrh_v hf r_g3⟩
      · skip
        have hf := xif_f h154 hf
        refine mv_aload_n (pc := 157) B d_Weaver_file_157 rfl 0 rfl ?_
        refine mv_getR (pc := 158) (ci := 1) (C := R_Weaver) (T := F_Weaver) (N := 16) B 1 rfl rfl (by decide) i_Weaver (B.2.2.2.1 _ k_229) rfl ((congrFun (congrFun r_g3 2) 1).trans (hb.1.1 2 1 _ rfl)) d_Weaver_file_158 ?_
        refine mv_aload_n (pc := 161) B d_Weaver_file_161 rfl 0 rfl ?_
        refine mv_iload_n (pc := 162) B d_Weaver_file_162 rfl 1 rfl ?_
        obtain ⟨v6, g5, eg5, hf⟩ := xhb_e hf
        refine mv_callVi (pc := 163) (n := 1) (ci := 1) (C := R_Weaver) B (mK_ok sk sv) hNs rfl rfl (ch_Weaver_symbolOf l hi _ (xrw r_g3 hb.t) _ eg5) rfl (ma_goodc kc_Weaver_symbolOf) (B.2.2.2.1 _ k_1312) (B.2.2.2.1 _ k_1314) (B.2.2.2.1 _ ks_37) (B.2.2.2.1 _ k_2) ⟨by decide +kernel, by decide +kernel, by decide +kernel⟩ rfl d_Weaver_file_163 rfl (Nat.le_of_ble_eq_true rfl) ⟨by decide, by decide⟩ ⟨by decide, by decide⟩ ⟨by decide, by decide⟩ (mv_noH hno _) (fun w163 σ163 h163 => ?_)
        obtain ⟨rfl, rfl, s_g5⟩ := h163
        have r_g5 : mv_r g5 = mv_r h := s_g5.trans r_g3
        refine mv_iconst (pc := 166) (v := 2) B d_Weaver_file_166 (by decide) ?_
        refine mv_aload_n (pc := 167) B d_Weaver_file_167 rfl 0 rfl ?_
        refine mv_getR (pc := 168) (ci := 1) (C := R_Weaver) (T := F_Weaver) (N := 16) B 5 rfl rfl (by decide) i_Weaver (B.2.2.2.1 _ k_235) rfl ((congrFun (congrFun r_g5 2) 5).trans hb.1.2.2.1) d_Weaver_file_168 ?_
        refine mv_getI (pc := 171) (ci := 7) (C := R_Program) (T := F_Program) (N := 19) B 1 rfl rfl (by decide) i_Program (B.2.2.2.1 _ k_316) rfl d_Weaver_file_171 ?_
        obtain ⟨g7, eg7, hf⟩ := xhv_e hf
        refine mv_callVv (pc := 174) (n := 3) (ci := 4) (C := R_Names) B (mK_ok sk sv) hNs rfl rfl (ch_Names_know l hi _ (xrw r_g5 hb.t) _ _ _ eg7) rfl (ma_goodc kc_Names_know) (B.2.2.2.1 _ k_1325) (B.2.2.2.1 _ k_1326) (B.2.2.2.1 _ k_1327) (B.2.2.2.1 _ k_5) ⟨by decide +kernel, by decide +kernel, by decide +kernel⟩ rfl d_Weaver_file_174 rfl (Nat.le_of_ble_eq_true rfl) ⟨by decide, by decide⟩ ⟨by decide, by decide⟩ ⟨by decide, by decide⟩ (mv_noH hno _) (fun σ174 h174 => ?_)
        obtain ⟨rfl, s_g7⟩ := h174
        have r_g7 : mv_r g7 = mv_r h := s_g7.trans r_g5
        refine mv_aload_n (pc := 177) B d_Weaver_file_177 rfl 0 rfl ?_
        refine mv_getR (pc := 178) (ci := 1) (C := R_Weaver) (T := F_Weaver) (N := 16) B 5 rfl rfl (by decide) i_Weaver (B.2.2.2.1 _ k_235) rfl ((congrFun (congrFun r_g7 2) 5).trans hb.1.2.2.1) d_Weaver_file_178 ?_
        refine mv_iload_n (pc := 181) B d_Weaver_file_181 rfl 2 rfl ?_
        refine mv_iload_n (pc := 182) B d_Weaver_file_182 rfl 3 rfl ?_
        refine mv_iload (pc := 183) B d_Weaver_file_183 4 rfl ?_
        obtain ⟨g8, eg8, hf⟩ := xhv_e hf
        refine mv_callVv (pc := 185) (n := 3) (ci := 7) (C := R_Program) B (mK_ok sk sv) hNs rfl rfl (ch_Program_addThing_b l hi _ (xrw r_g7 hb) _ _ _ eg8) rfl (ma_goodc kc_Program_addThing) (B.2.2.2.1 _ k_1329) (B.2.2.2.1 _ k_1330) (B.2.2.2.1 _ k_1331) (B.2.2.2.1 _ k_8) ⟨by decide +kernel, by decide +kernel, by decide +kernel⟩ rfl d_Weaver_file_185 rfl (Nat.le_of_ble_eq_true rfl) ⟨by decide, by decide⟩ ⟨by decide, by decide⟩ ⟨by decide, by decide⟩ (mv_noH hno _) (fun σ185 h185 => ?_)
        obtain ⟨rfl, s_g8⟩ := h185
        have r_g8 : mv_r g8 = mv_r h := s_g8.trans r_g7
        exact mv_vret (pc := 188) B hr d_Weaver_file_188 (Nat.le_refl _) (Nat.le_refl _) ⟨rfl, xrh_v hf r_g8⟩
  have jn134 : ∀ (x1 : Int32) (x4 : Int32) (hz : mv_H), mv_r hz = mv_r h → f_Weaver_file_134 48 x1 x4 hz = some rg → mv_V p l e ({ frames := 3, cells := 0, slots := 0, locals := 68 }) s m ([.ref (al 2)] : List Value).toArray below meth c (mg dA D al ext) 5 0 0 (mv_Q (mg dA D al ext) below s 0 0 (mv_Rv (fun σ1 => rg = σ1 ∧ mv_r σ1 = mv_r h))) hz 134 [(0, .ref (al 2)), (1, .int x1), (4, .int x4)] [] := by
    intro x1 x4 hz r_hz hf
    unfold f_Weaver_file_134 at hf
    refine mv_iconst (pc := 134) (v := 0) B d_Weaver_file_134 (by decide) ?_
    refine mv_istore_n (pc := 135) B d_Weaver_file_135 rfl (by decide) rfl ?_
    refine mv_iconst (pc := 136) (v := 0) B d_Weaver_file_136 (by decide) ?_
    refine mv_istore_n (pc := 137) B d_Weaver_file_137 rfl (by decide) rfl ?_
    refine mv_lpick [2, 3, 1, 0, 4] rfl ?_
    exact jn138 _ _ _ _ _ r_hz hf
  have jn116 : ∀ (x1 : Int32) (x2 : Int32) (x3 : Int32) (x4 : Int32) (hz : mv_H), mv_r hz = mv_r h → f_Weaver_file_116 48 x1 x2 x3 x4 hz = some rg → mv_V p l e ({ frames := 3, cells := 0, slots := 0, locals := 68 }) s m ([.ref (al 2)] : List Value).toArray below meth c (mg dA D al ext) 5 0 0 (mv_Q (mg dA D al ext) below s 0 0 (mv_Rv (fun σ1 => rg = σ1 ∧ mv_r σ1 = mv_r h))) hz 116 [(0, .ref (al 2)), (1, .int x1), (2, .int x2), (3, .int x3), (4, .int x4)] [] := by
    intro x1 x2 x3 x4 hz r_hz hf
    unfold f_Weaver_file_116 at hf
    refine mv_aload_n (pc := 116) B d_Weaver_file_116 rfl 0 rfl ?_
    refine mv_getR (pc := 117) (ci := 1) (C := R_Weaver) (T := F_Weaver) (N := 16) B 0 rfl rfl (by decide) i_Weaver (B.2.2.2.1 _ k_228) rfl ((congrFun (congrFun r_hz 2) 0).trans (hb.1.1 2 0 _ rfl)) d_Weaver_file_117 ?_
    refine mv_bipush (pc := 120) (v := 59) B d_Weaver_file_120 (by decide) ?_
    obtain ⟨v10, g9, eg9, hf⟩ := xhb_e hf
    refine mv_callVi (pc := 122) (n := 1) (ci := 2) (C := R_Tokens) B (mK_ok sk sv) hNs rfl rfl (ch_Tokens_take l hi _ (xrw r_hz hb.t) _ eg9) rfl (ma_goodc kc_Tokens_take) (B.2.2.2.1 _ k_1266) (B.2.2.2.1 _ k_1267) (B.2.2.2.1 _ k_1268) (B.2.2.2.1 _ k_3) ⟨by decide +kernel, by decide +kernel, by decide +kernel⟩ rfl d_Weaver_file_122 rfl (Nat.le_of_ble_eq_true rfl) ⟨by decide, by decide⟩ ⟨by decide, by decide⟩ ⟨by decide, by decide⟩ (mv_noH hno _) (fun w122 σ122 h122 => ?_)
    obtain ⟨rfl, rfl, s_g9⟩ := h122
    have r_g9 : mv_r g9 = mv_r h := s_g9.trans r_hz
    refine mv_pop (pc := 125) B d_Weaver_file_125 rfl ?_
    refine mv_iload_n (pc := 126) B d_Weaver_file_126 rfl 2 rfl ?_
    refine mv_if_eq (pc := 127) (tgt := 134) B d_Weaver_file_127 rfl (fun h127 => ?_) (fun h127 => ?_)
    · skip
      have hf := xif_t h127 hf
      refine mv_lpick [0, 1, 4] rfl ?_
      exact jn134 _ _ _ r_g9 hf
    · skip
      have hf := xif_f h127 hf
      refine mv_iload_n (pc := 130) B d_Weaver_file_130 rfl 3 rfl ?_
      refine mv_if_ne (pc := 131) (tgt := 138) B d_Weaver_file_131 rfl (fun h131 => ?_) (fun h131 => ?_)
      · skip
        have hf := xif_f h131 hf
        refine mv_lpick [0, 1, 2, 3, 4] rfl ?_
        exact jn138 _ _ _ _ _ r_g9 hf
      · skip
        have hf := xif_t h131 hf
        refine mv_lpick [0, 1, 4] rfl ?_
        exact jn134 _ _ _ r_g9 hf
  have jn98 : ∀ (x1 : Int32) (x2 : Int32) (x3 : Int32) (y0 : Int32) (hz : mv_H), mv_r hz = mv_r h → f_Weaver_file_98 48 x1 x2 x3 y0 hz = some rg → mv_V p l e ({ frames := 3, cells := 0, slots := 0, locals := 68 }) s m ([.ref (al 2)] : List Value).toArray below meth c (mg dA D al ext) 5 0 0 (mv_Q (mg dA D al ext) below s 0 0 (mv_Rv (fun σ1 => rg = σ1 ∧ mv_r σ1 = mv_r h))) hz 98 [(0, .ref (al 2)), (1, .int x1), (2, .int x2), (3, .int x3)] [.int y0] := by
    intro x1 x2 x3 y0 hz r_hz hf
    unfold f_Weaver_file_98 at hf
    refine mv_istore (pc := 98) B d_Weaver_file_98 (by decide) rfl ?_
    refine mv_iload (pc := 100) B d_Weaver_file_100 0 rfl ?_
    refine mv_if_eq (pc := 102) (tgt := 116) B d_Weaver_file_102 rfl (fun h102 => ?_) (fun h102 => ?_)
    · skip
      have hf := xif_t h102 hf
      refine mv_lpick [1, 2, 3, 4, 0] rfl ?_
      exact jn116 _ _ _ _ _ r_hz hf
    · skip
      have hf := xif_f h102 hf
      refine mv_aload_n (pc := 105) B d_Weaver_file_105 rfl 1 rfl ?_
      refine mv_getR (pc := 106) (ci := 1) (C := R_Weaver) (T := F_Weaver) (N := 16) B 0 rfl rfl (by decide) i_Weaver (B.2.2.2.1 _ k_228) rfl ((congrFun (congrFun r_hz 2) 0).trans (hb.1.1 2 0 _ rfl)) d_Weaver_file_106 ?_
      refine mv_sipush (pc := 109) (v := 203) B d_Weaver_file_109 (by decide) ?_
      obtain ⟨v12, g11, eg11, hf⟩ := xhb_e hf
      refine mv_callVi (pc := 112) (n := 1) (ci := 2) (C := R_Tokens) B (mK_ok sk sv) hNs rfl rfl (ch_Tokens_take l hi _ (xrw r_hz hb.t) _ eg11) rfl (ma_goodc kc_Tokens_take) (B.2.2.2.1 _ k_1266) (B.2.2.2.1 _ k_1267) (B.2.2.2.1 _ k_1268) (B.2.2.2.1 _ k_3) ⟨by decide +kernel, by decide +kernel, by decide +kernel⟩ rfl d_Weaver_file_112 rfl (Nat.le_of_ble_eq_true rfl) ⟨by decide, by decide⟩ ⟨by decide, by decide⟩ ⟨by decide, by decide⟩ (mv_noH hno _) (fun w112 σ112 h112 => ?_)
      obtain ⟨rfl, rfl, s_g11⟩ := h112
      have r_g11 : mv_r g11 = mv_r h := s_g11.trans r_hz
      refine mv_pop (pc := 115) B d_Weaver_file_115 rfl ?_
      refine mv_lpick [1, 2, 3, 4, 0] rfl ?_
      exact jn116 _ _ _ _ _ r_g11 hf
  unfold f_Weaver_file at hf
  refine mv_aload_n (pc := 0) B d_Weaver_file_0 rfl 0 rfl ?_
  refine mv_getR (pc := 1) (ci := 1) (C := R_Weaver) (T := F_Weaver) (N := 16) B 0 rfl rfl (by decide) i_Weaver (B.2.2.2.1 _ k_228) rfl (hb.1.1 2 0 _ rfl) d_Weaver_file_1 ?_
  refine mv_sipush (pc := 4) (v := 202) B d_Weaver_file_4 (by decide) ?_
  obtain ⟨v14, g13, eg13, hf⟩ := xhb_e hf
  refine mv_callVi (pc := 7) (n := 1) (ci := 2) (C := R_Tokens) B (mK_ok sk sv) hNs rfl rfl (ch_Tokens_take l hi _ (hb.t) _ eg13) rfl (ma_goodc kc_Tokens_take) (B.2.2.2.1 _ k_1266) (B.2.2.2.1 _ k_1267) (B.2.2.2.1 _ k_1268) (B.2.2.2.1 _ k_3) ⟨by decide +kernel, by decide +kernel, by decide +kernel⟩ rfl d_Weaver_file_7 rfl (Nat.le_of_ble_eq_true rfl) ⟨by decide, by decide⟩ ⟨by decide, by decide⟩ ⟨by decide, by decide⟩ (mv_noH hno _) (fun w7 σ7 h7 => ?_)
  obtain ⟨rfl, rfl, s_g13⟩ := h7
  have r_g13 : mv_r g13 = mv_r h := s_g13.trans rfl
  refine mv_pop (pc := 10) B d_Weaver_file_10 rfl ?_
  refine mv_aload_n (pc := 11) B d_Weaver_file_11 rfl 0 rfl ?_
  refine mv_getR (pc := 12) (ci := 1) (C := R_Weaver) (T := F_Weaver) (N := 16) B 0 rfl rfl (by decide) i_Weaver (B.2.2.2.1 _ k_228) rfl ((congrFun (congrFun r_g13 2) 0).trans (hb.1.1 2 0 _ rfl)) d_Weaver_file_12 ?_
  refine mv_iconst (pc := 15) (v := 3) B d_Weaver_file_15 (by decide) ?_
  obtain ⟨v16, g15, eg15, hf⟩ := xhb_e hf
  refine mv_callVi (pc := 16) (n := 1) (ci := 2) (C := R_Tokens) B (mK_ok sk sv) hNs rfl rfl (ch_Tokens_take l hi _ (xrw r_g13 hb.t) _ eg15) rfl (ma_goodc kc_Tokens_take) (B.2.2.2.1 _ k_1266) (B.2.2.2.1 _ k_1267) (B.2.2.2.1 _ k_1268) (B.2.2.2.1 _ k_3) ⟨by decide +kernel, by decide +kernel, by decide +kernel⟩ rfl d_Weaver_file_16 rfl (Nat.le_of_ble_eq_true rfl) ⟨by decide, by decide⟩ ⟨by decide, by decide⟩ ⟨by decide, by decide⟩ (mv_noH hno _) (fun w16 σ16 h16 => ?_)
  obtain ⟨rfl, rfl, s_g15⟩ := h16
  have r_g15 : mv_r g15 = mv_r h := s_g15.trans r_g13
  refine mv_istore_n (pc := 19) B d_Weaver_file_19 rfl (by decide) rfl ?_
  refine mv_aload_n (pc := 20) B d_Weaver_file_20 rfl 1 rfl ?_
  refine mv_getR (pc := 21) (ci := 1) (C := R_Weaver) (T := F_Weaver) (N := 16) B 0 rfl rfl (by decide) i_Weaver (B.2.2.2.1 _ k_228) rfl ((congrFun (congrFun r_g15 2) 0).trans (hb.1.1 2 0 _ rfl)) d_Weaver_file_21 ?_
  refine mv_bipush (pc := 24) (v := 58) B d_Weaver_file_24 (by decide) ?_
  obtain ⟨v18, g17, eg17, hf⟩ := xhb_e hf
  refine mv_callVi (pc := 26) (n := 1) (ci := 2) (C := R_Tokens) B (mK_ok sk sv) hNs rfl rfl (ch_Tokens_take l hi _ (xrw r_g15 hb.t) _ eg17) rfl (ma_goodc kc_Tokens_take) (B.2.2.2.1 _ k_1266) (B.2.2.2.1 _ k_1267) (B.2.2.2.1 _ k_1268) (B.2.2.2.1 _ k_3) ⟨by decide +kernel, by decide +kernel, by decide +kernel⟩ rfl d_Weaver_file_26 rfl (Nat.le_of_ble_eq_true rfl) ⟨by decide, by decide⟩ ⟨by decide, by decide⟩ ⟨by decide, by decide⟩ (mv_noH hno _) (fun w26 σ26 h26 => ?_)
  obtain ⟨rfl, rfl, s_g17⟩ := h26
  have r_g17 : mv_r g17 = mv_r h := s_g17.trans r_g15
  refine mv_pop (pc := 29) B d_Weaver_file_29 rfl ?_
  refine mv_aload_n (pc := 30) B d_Weaver_file_30 rfl 1 rfl ?_
  refine mv_aload_n (pc := 31) B d_Weaver_file_31 rfl 1 rfl ?_
  refine mv_getR (pc := 32) (ci := 1) (C := R_Weaver) (T := F_Weaver) (N := 16) B 0 rfl rfl (by decide) i_Weaver (B.2.2.2.1 _ k_228) rfl ((congrFun (congrFun r_g17 2) 0).trans (hb.1.1 2 0 _ rfl)) d_Weaver_file_32 ?_
  refine mv_iconst (pc := 35) (v := 4) B d_Weaver_file_35 (by decide) ?_
  obtain ⟨v20, g19, eg19, hf⟩ := xhb_e hf
  refine mv_callVi (pc := 36) (n := 1) (ci := 2) (C := R_Tokens) B (mK_ok sk sv) hNs rfl rfl (ch_Tokens_take l hi _ (xrw r_g17 hb.t) _ eg19) rfl (ma_goodc kc_Tokens_take) (B.2.2.2.1 _ k_1266) (B.2.2.2.1 _ k_1267) (B.2.2.2.1 _ k_1268) (B.2.2.2.1 _ k_3) ⟨by decide +kernel, by decide +kernel, by decide +kernel⟩ rfl d_Weaver_file_36 rfl (Nat.le_of_ble_eq_true rfl) ⟨by decide, by decide⟩ ⟨by decide, by decide⟩ ⟨by decide, by decide⟩ (mv_noH hno _) (fun w36 σ36 h36 => ?_)
  obtain ⟨rfl, rfl, s_g19⟩ := h36
  have r_g19 : mv_r g19 = mv_r h := s_g19.trans r_g17
  refine mv_bipush (pc := 39) (v := 64) B d_Weaver_file_39 (by decide) ?_
  obtain ⟨v22, g21, eg21, hf⟩ := xhb_e hf
  refine mv_callVi (pc := 41) (n := 2) (ci := 1) (C := R_Weaver) B (mK_ok sk sv) hNs rfl rfl (ch_Weaver_numberUpTo l hi _ (xrw r_g19 hb.t) _ _ eg21) rfl (ma_goodc kc_Weaver_numberUpTo) (B.2.2.2.1 _ k_1304) (B.2.2.2.1 _ k_1306) (B.2.2.2.1 _ ks_35) (B.2.2.2.1 _ k_2) ⟨by decide +kernel, by decide +kernel, by decide +kernel⟩ rfl d_Weaver_file_41 rfl (Nat.le_of_ble_eq_true rfl) ⟨by decide, by decide⟩ ⟨by decide, by decide⟩ ⟨by decide, by decide⟩ (mv_noH hno _) (fun w41 σ41 h41 => ?_)
  obtain ⟨rfl, rfl, s_g21⟩ := h41
  have r_g21 : mv_r g21 = mv_r h := s_g21.trans r_g19
  refine mv_istore_n (pc := 44) B d_Weaver_file_44 rfl (by decide) rfl ?_
  refine mv_aload_n (pc := 45) B d_Weaver_file_45 rfl 2 rfl ?_
  refine mv_getR (pc := 46) (ci := 1) (C := R_Weaver) (T := F_Weaver) (N := 16) B 0 rfl rfl (by decide) i_Weaver (B.2.2.2.1 _ k_228) rfl ((congrFun (congrFun r_g21 2) 0).trans (hb.1.1 2 0 _ rfl)) d_Weaver_file_46 ?_
  refine mv_bipush (pc := 49) (v := 91) B d_Weaver_file_49 (by decide) ?_
  obtain ⟨v24, g23, eg23, hf⟩ := xhb_e hf
  refine mv_callVi (pc := 51) (n := 1) (ci := 2) (C := R_Tokens) B (mK_ok sk sv) hNs rfl rfl (ch_Tokens_take l hi _ (xrw r_g21 hb.t) _ eg23) rfl (ma_goodc kc_Tokens_take) (B.2.2.2.1 _ k_1266) (B.2.2.2.1 _ k_1267) (B.2.2.2.1 _ k_1268) (B.2.2.2.1 _ k_3) ⟨by decide +kernel, by decide +kernel, by decide +kernel⟩ rfl d_Weaver_file_51 rfl (Nat.le_of_ble_eq_true rfl) ⟨by decide, by decide⟩ ⟨by decide, by decide⟩ ⟨by decide, by decide⟩ (mv_noH hno _) (fun w51 σ51 h51 => ?_)
  obtain ⟨rfl, rfl, s_g23⟩ := h51
  have r_g23 : mv_r g23 = mv_r h := s_g23.trans r_g21
  refine mv_pop (pc := 54) B d_Weaver_file_54 rfl ?_
  refine mv_aload_n (pc := 55) B d_Weaver_file_55 rfl 2 rfl ?_
  refine mv_aload_n (pc := 56) B d_Weaver_file_56 rfl 2 rfl ?_
  refine mv_getR (pc := 57) (ci := 1) (C := R_Weaver) (T := F_Weaver) (N := 16) B 0 rfl rfl (by decide) i_Weaver (B.2.2.2.1 _ k_228) rfl ((congrFun (congrFun r_g23 2) 0).trans (hb.1.1 2 0 _ rfl)) d_Weaver_file_57 ?_
  refine mv_iconst (pc := 60) (v := 4) B d_Weaver_file_60 (by decide) ?_
  obtain ⟨v26, g25, eg25, hf⟩ := xhb_e hf
  refine mv_callVi (pc := 61) (n := 1) (ci := 2) (C := R_Tokens) B (mK_ok sk sv) hNs rfl rfl (ch_Tokens_take l hi _ (xrw r_g23 hb.t) _ eg25) rfl (ma_goodc kc_Tokens_take) (B.2.2.2.1 _ k_1266) (B.2.2.2.1 _ k_1267) (B.2.2.2.1 _ k_1268) (B.2.2.2.1 _ k_3) ⟨by decide +kernel, by decide +kernel, by decide +kernel⟩ rfl d_Weaver_file_61 rfl (Nat.le_of_ble_eq_true rfl) ⟨by decide, by decide⟩ ⟨by decide, by decide⟩ ⟨by decide, by decide⟩ (mv_noH hno _) (fun w61 σ61 h61 => ?_)
  obtain ⟨rfl, rfl, s_g25⟩ := h61
  have r_g25 : mv_r g25 = mv_r h := s_g25.trans r_g23
  refine mv_ldc (pc := 64) (v := 65536) B (B.2.2.2.1 _ k_1324) d_Weaver_file_64 ?_
  obtain ⟨v28, g27, eg27, hf⟩ := xhb_e hf
  refine mv_callVi (pc := 66) (n := 2) (ci := 1) (C := R_Weaver) B (mK_ok sk sv) hNs rfl rfl (ch_Weaver_numberUpTo l hi _ (xrw r_g25 hb.t) _ _ eg27) rfl (ma_goodc kc_Weaver_numberUpTo) (B.2.2.2.1 _ k_1304) (B.2.2.2.1 _ k_1306) (B.2.2.2.1 _ ks_35) (B.2.2.2.1 _ k_2) ⟨by decide +kernel, by decide +kernel, by decide +kernel⟩ rfl d_Weaver_file_66 rfl (Nat.le_of_ble_eq_true rfl) ⟨by decide, by decide⟩ ⟨by decide, by decide⟩ ⟨by decide, by decide⟩ (mv_noH hno _) (fun w66 σ66 h66 => ?_)
  obtain ⟨rfl, rfl, s_g27⟩ := h66
  have r_g27 : mv_r g27 = mv_r h := s_g27.trans r_g25
  refine mv_istore_n (pc := 69) B d_Weaver_file_69 rfl (by decide) rfl ?_
  refine mv_aload_n (pc := 70) B d_Weaver_file_70 rfl 3 rfl ?_
  refine mv_getR (pc := 71) (ci := 1) (C := R_Weaver) (T := F_Weaver) (N := 16) B 0 rfl rfl (by decide) i_Weaver (B.2.2.2.1 _ k_228) rfl ((congrFun (congrFun r_g27 2) 0).trans (hb.1.1 2 0 _ rfl)) d_Weaver_file_71 ?_
  refine mv_bipush (pc := 74) (v := 93) B d_Weaver_file_74 (by decide) ?_
  obtain ⟨v30, g29, eg29, hf⟩ := xhb_e hf
  refine mv_callVi (pc := 76) (n := 1) (ci := 2) (C := R_Tokens) B (mK_ok sk sv) hNs rfl rfl (ch_Tokens_take l hi _ (xrw r_g27 hb.t) _ eg29) rfl (ma_goodc kc_Tokens_take) (B.2.2.2.1 _ k_1266) (B.2.2.2.1 _ k_1267) (B.2.2.2.1 _ k_1268) (B.2.2.2.1 _ k_3) ⟨by decide +kernel, by decide +kernel, by decide +kernel⟩ rfl d_Weaver_file_76 rfl (Nat.le_of_ble_eq_true rfl) ⟨by decide, by decide⟩ ⟨by decide, by decide⟩ ⟨by decide, by decide⟩ (mv_noH hno _) (fun w76 σ76 h76 => ?_)
  obtain ⟨rfl, rfl, s_g29⟩ := h76
  have r_g29 : mv_r g29 = mv_r h := s_g29.trans r_g27
  refine mv_pop (pc := 79) B d_Weaver_file_79 rfl ?_
  refine mv_aload_n (pc := 80) B d_Weaver_file_80 rfl 3 rfl ?_
  refine mv_getR (pc := 81) (ci := 1) (C := R_Weaver) (T := F_Weaver) (N := 16) B 0 rfl rfl (by decide) i_Weaver (B.2.2.2.1 _ k_228) rfl ((congrFun (congrFun r_g29 2) 0).trans (hb.1.1 2 0 _ rfl)) d_Weaver_file_81 ?_
  obtain ⟨v32, g31, eg31, hf⟩ := xhb_e hf
  refine mv_callVi (pc := 84) (n := 0) (ci := 2) (C := R_Tokens) B (mK_ok sk sv) hNs rfl rfl (ch_Tokens_kind l hi _ (xrw r_g29 hb.t) eg31) rfl (ma_goodc kc_Tokens_kind) (B.2.2.2.1 _ k_1299) (B.2.2.2.1 _ k_1271) (B.2.2.2.1 _ k_1272) (B.2.2.2.1 _ k_3) ⟨by decide +kernel, by decide +kernel, by decide +kernel⟩ rfl d_Weaver_file_84 rfl (Nat.le_of_ble_eq_true rfl) ⟨by decide, by decide⟩ ⟨by decide, by decide⟩ ⟨by decide, by decide⟩ (mv_noH hno _) (fun w84 σ84 h84 => ?_)
  obtain ⟨rfl, rfl, s_g31⟩ := h84
  have r_g31 : mv_r g31 = mv_r h := s_g31.trans r_g29
  refine mv_sipush (pc := 87) (v := 203) B d_Weaver_file_87 (by decide) ?_
  refine mv_icmp_ne (pc := 90) (tgt := 97) B d_Weaver_file_90 rfl (fun h90 => ?_) (fun h90 => ?_)
  · skip
    have hf := xif_f h90 hf
    refine mv_iconst (pc := 97) (v := 0) B d_Weaver_file_97 (by decide) ?_
    refine mv_lpick [3, 2, 1, 0] rfl ?_
    exact jn98 _ _ _ _ _ r_g31 hf
  · skip
    have hf := xif_t h90 hf
    refine mv_iconst (pc := 93) (v := 1) B d_Weaver_file_93 (by decide) ?_
    refine mv_goto (pc := 94) (tgt := 98) B d_Weaver_file_94 rfl ?_
    refine mv_lpick [3, 2, 1, 0] rfl ?_
    exact jn98 _ _ _ _ _ r_g31 hf
def f_Weaver_fetch_164 (P : Nat) (x3 : Int32) (hz : mv_H) : Option mv_H := xhv (f_Weaver_tell hz x3 (2 : Int32)) fun g1 => some g1
def f_Weaver_fetch_78 (P : Nat) (x2 : Int32) (x3 : Int32) (hz : mv_H) : Option mv_H := xhb (f_Weaver_symbolOf hz x2) fun v3 g2 => bif xvi v3 16448 then xhb (f_Weaver_symbolOf g2 x3) fun v6 g5 => bif xvi v6 16448 then xhb (f_Weaver_symbolOf g5 x2) fun v9 g8 => xhb (f_Names_kindOf g8 v9) fun v11 g10 => if v11 = (1 : Int32) then (xhb (f_Weaver_symbolOf g10 x3) fun v13 g12 => xhb (f_Names_kindOf g12 v13) fun v15 g14 => if v15 = (2 : Int32) then (bif xvi (mv_a g5 15 (v6).toNatClampNeg) 64 then if (mv_a g14 (P + 1) ((mv_a g5 15 (v6).toNatClampNeg)).toNatClampNeg) = (8 : Int32) then (xk (mv_si g14 P 8 (mv_a g2 15 (v3).toNatClampNeg)) fun g17 => xk (mv_si g17 P 9 (mv_a g5 15 (v6).toNatClampNeg)) fun g18 => some g18) else (f_Weaver_fetch_164 P x3 g14) else none) else (f_Weaver_fetch_164 P x3 g14)) else (xhv (f_Weaver_tell g10 x2 (2 : Int32)) fun g19 => some g19) else none else none
def f_Weaver_fetch (P : Nat) (h : mv_H) : Option mv_H := xhb (f_Tokens_take h (204 : Int32)) fun v21 g20 => xhb (f_Tokens_take g20 (3 : Int32)) fun v23 g22 => xhb (f_Tokens_take g22 (205 : Int32)) fun v25 g24 => xhb (f_Tokens_take g24 (3 : Int32)) fun v27 g26 => xhb (f_Tokens_take g26 (59 : Int32)) fun v29 g28 => xhb (f_Tokens_right g28) fun v31 g30 => if v31 = (0 : Int32) then (some g30) else (if (mv_i g30 P 9) < (0 : Int32) then (f_Weaver_fetch_78 P v23 v27 g30) else (xhv (f_Weaver_tell g30 v21 (6 : Int32)) fun g32 => f_Weaver_fetch_78 P v23 v27 g32))
set_option maxHeartbeats 4000000 in
set_option maxRecDepth 100000 in
theorem ch_Weaver_fetch_a (l : Launch) {dA : FieldType → ClassId} {D : va_G} {al : Nat → Nat} {ext : mv_Sh} {sk sv : Nat → Nat} (hi : mv_inj (mg dA D al ext)) (h : mv_H) (hb : xRP 32 (mv_r h))  {rg : mv_H} (hf : f_Weaver_fetch 32 h = some rg) : mv_C l y_Weaver_fetch (Cond.code y_Weaver_fetch b_Weaver_fetch 6 (Option.none : Option Jvm.ClassFile.FieldType) :: ma) ({ frames := 2, cells := 0, slots := 0, locals := 44 }) (mg dA D al ext) (mK sk sv) [.ref (al 2)] h (mv_Rv (fun σ1 => rg = σ1 ∧ mv_r σ1 = mv_r h)) := by
  refine mv_C.ofV (cc := b_Weaver_fetch) (nL := 6) (ret := (Option.none : Option Jvm.ClassFile.FieldType)) (by decide +kernel) rfl hi (Nat.le_of_ble_eq_true rfl) ?_
  intro p e s m below meth c B hNs hr hnm hno
  have jn164 : ∀ (x3 : Int32) (hz : mv_H), mv_r hz = mv_r h → f_Weaver_fetch_164 32 x3 hz = some rg → mv_V p l e ({ frames := 2, cells := 0, slots := 0, locals := 44 }) s m ([.ref (al 2)] : List Value).toArray below meth c (mg dA D al ext) 6 0 0 (mv_Q (mg dA D al ext) below s 0 0 (mv_Rv (fun σ1 => rg = σ1 ∧ mv_r σ1 = mv_r h))) hz 164 [(0, .ref (al 2)), (3, .int x3)] [] := by
    intro x3 hz r_hz hf
    unfold f_Weaver_fetch_164 at hf
    refine mv_aload_n (pc := 164) B d_Weaver_fetch_164 rfl 0 rfl ?_
    refine mv_iload_n (pc := 165) B d_Weaver_fetch_165 rfl 1 rfl ?_
    refine mv_iconst (pc := 166) (v := 2) B d_Weaver_fetch_166 (by decide) ?_
    obtain ⟨g1, eg1, hf⟩ := xhv_e hf
    refine mv_callVv (pc := 167) (n := 2) (ci := 1) (C := R_Weaver) B (mK_ok sk sv) hNs rfl rfl (ch_Weaver_tell l hi _ (xrw r_hz hb.t) _ _ eg1) rfl (ma_goodc kc_Weaver_tell) (B.2.2.2.1 _ k_1282) (B.2.2.2.1 _ k_1284) (B.2.2.2.1 _ ks_32) (B.2.2.2.1 _ k_2) ⟨by decide +kernel, by decide +kernel, by decide +kernel⟩ rfl d_Weaver_fetch_167 rfl (Nat.le_of_ble_eq_true rfl) ⟨by decide, by decide⟩ ⟨by decide, by decide⟩ ⟨by decide, by decide⟩ (mv_noH hno _) (fun σ167 h167 => ?_)
    obtain ⟨rfl, s_g1⟩ := h167
    have r_g1 : mv_r g1 = mv_r h := s_g1.trans r_hz
    refine mv_goto (pc := 170) (tgt := 191) B d_Weaver_fetch_170 rfl ?_
    exact mv_vret (pc := 191) B hr d_Weaver_fetch_191 (Nat.le_refl _) (Nat.le_refl _) ⟨rfl, xrh_v hf r_g1⟩
  have jn78 : ∀ (x2 : Int32) (x3 : Int32) (hz : mv_H), mv_r hz = mv_r h → f_Weaver_fetch_78 32 x2 x3 hz = some rg → mv_V p l e ({ frames := 2, cells := 0, slots := 0, locals := 44 }) s m ([.ref (al 2)] : List Value).toArray below meth c (mg dA D al ext) 6 0 0 (mv_Q (mg dA D al ext) below s 0 0 (mv_Rv (fun σ1 => rg = σ1 ∧ mv_r σ1 = mv_r h))) hz 78 [(0, .ref (al 2)), (2, .int x2), (3, .int x3)] [] := by
    intro x2 x3 hz r_hz hf
    unfold f_Weaver_fetch_78 at hf
    refine mv_aload_n (pc := 78) B d_Weaver_fetch_78 rfl 0 rfl ?_
    refine mv_getR (pc := 79) (ci := 1) (C := R_Weaver) (T := F_Weaver) (N := 16) B 1 rfl rfl (by decide) i_Weaver (B.2.2.2.1 _ k_229) rfl ((congrFun (congrFun r_hz 2) 1).trans (hb.1.1 2 1 _ rfl)) d_Weaver_fetch_79 ?_
    refine mv_getR (pc := 82) (ci := 4) (C := R_Names) (T := F_Names) (N := 10) B 2 rfl rfl (by decide) i_Names (B.2.2.2.1 _ k_138) rfl ((congrFun (congrFun r_hz 13) 2).trans (hb.1.1 13 2 _ rfl)) d_Weaver_fetch_82 ?_
    refine mv_aload_n (pc := 85) B d_Weaver_fetch_85 rfl 0 rfl ?_
    refine mv_iload_n (pc := 86) B d_Weaver_fetch_86 rfl 1 rfl ?_
    obtain ⟨v3, g2, eg2, hf⟩ := xhb_e hf
    refine mv_callVi (pc := 87) (n := 1) (ci := 1) (C := R_Weaver) B (mK_ok sk sv) hNs rfl rfl (ch_Weaver_symbolOf l hi _ (xrw r_hz hb.t) _ eg2) rfl (ma_goodc kc_Weaver_symbolOf) (B.2.2.2.1 _ k_1312) (B.2.2.2.1 _ k_1314) (B.2.2.2.1 _ ks_37) (B.2.2.2.1 _ k_2) ⟨by decide +kernel, by decide +kernel, by decide +kernel⟩ rfl d_Weaver_fetch_87 rfl (Nat.le_of_ble_eq_true rfl) ⟨by decide, by decide⟩ ⟨by decide, by decide⟩ ⟨by decide, by decide⟩ (mv_noH hno _) (fun w87 σ87 h87 => ?_)
    obtain ⟨rfl, rfl, s_g2⟩ := h87
    have r_g2 : mv_r g2 = mv_r h := s_g2.trans r_hz
    obtain ⟨q4, hf⟩ := xvi_e hf
    refine mv_iald (pc := 90) B rfl q4 d_Weaver_fetch_90 ?_
    refine mv_istore (pc := 91) B d_Weaver_fetch_91 (by decide) rfl ?_
    refine mv_aload_n (pc := 93) B d_Weaver_fetch_93 rfl 1 rfl ?_
    refine mv_getR (pc := 94) (ci := 1) (C := R_Weaver) (T := F_Weaver) (N := 16) B 1 rfl rfl (by decide) i_Weaver (B.2.2.2.1 _ k_229) rfl ((congrFun (congrFun r_g2 2) 1).trans (hb.1.1 2 1 _ rfl)) d_Weaver_fetch_94 ?_
    refine mv_getR (pc := 97) (ci := 4) (C := R_Names) (T := F_Names) (N := 10) B 2 rfl rfl (by decide) i_Names (B.2.2.2.1 _ k_138) rfl ((congrFun (congrFun r_g2 13) 2).trans (hb.1.1 13 2 _ rfl)) d_Weaver_fetch_97 ?_
    refine mv_aload_n (pc := 100) B d_Weaver_fetch_100 rfl 1 rfl ?_
    refine mv_iload_n (pc := 101) B d_Weaver_fetch_101 rfl 3 rfl ?_
    obtain ⟨v6, g5, eg5, hf⟩ := xhb_e hf
    refine mv_callVi (pc := 102) (n := 1) (ci := 1) (C := R_Weaver) B (mK_ok sk sv) hNs rfl rfl (ch_Weaver_symbolOf l hi _ (xrw r_g2 hb.t) _ eg5) rfl (ma_goodc kc_Weaver_symbolOf) (B.2.2.2.1 _ k_1312) (B.2.2.2.1 _ k_1314) (B.2.2.2.1 _ ks_37) (B.2.2.2.1 _ k_2) ⟨by decide +kernel, by decide +kernel, by decide +kernel⟩ rfl d_Weaver_fetch_102 rfl (Nat.le_of_ble_eq_true rfl) ⟨by decide, by decide⟩ ⟨by decide, by decide⟩ ⟨by decide, by decide⟩ (mv_noH hno _) (fun w102 σ102 h102 => ?_)
    obtain ⟨rfl, rfl, s_g5⟩ := h102
    have r_g5 : mv_r g5 = mv_r h := s_g5.trans r_g2
    obtain ⟨q7, hf⟩ := xvi_e hf
    refine mv_iald (pc := 105) B rfl q7 d_Weaver_fetch_105 ?_
    refine mv_istore (pc := 106) B d_Weaver_fetch_106 (by decide) rfl ?_
    refine mv_aload_n (pc := 108) B d_Weaver_fetch_108 rfl 2 rfl ?_
    refine mv_getR (pc := 109) (ci := 1) (C := R_Weaver) (T := F_Weaver) (N := 16) B 1 rfl rfl (by decide) i_Weaver (B.2.2.2.1 _ k_229) rfl ((congrFun (congrFun r_g5 2) 1).trans (hb.1.1 2 1 _ rfl)) d_Weaver_fetch_109 ?_
    refine mv_aload_n (pc := 112) B d_Weaver_fetch_112 rfl 2 rfl ?_
    refine mv_iload_n (pc := 113) B d_Weaver_fetch_113 rfl 3 rfl ?_
    obtain ⟨v9, g8, eg8, hf⟩ := xhb_e hf
    refine mv_callVi (pc := 114) (n := 1) (ci := 1) (C := R_Weaver) B (mK_ok sk sv) hNs rfl rfl (ch_Weaver_symbolOf l hi _ (xrw r_g5 hb.t) _ eg8) rfl (ma_goodc kc_Weaver_symbolOf) (B.2.2.2.1 _ k_1312) (B.2.2.2.1 _ k_1314) (B.2.2.2.1 _ ks_37) (B.2.2.2.1 _ k_2) ⟨by decide +kernel, by decide +kernel, by decide +kernel⟩ rfl d_Weaver_fetch_114 rfl (Nat.le_of_ble_eq_true rfl) ⟨by decide, by decide⟩ ⟨by decide, by decide⟩ ⟨by decide, by decide⟩ (mv_noH hno _) (fun w114 σ114 h114 => ?_)
    obtain ⟨rfl, rfl, s_g8⟩ := h114
    have r_g8 : mv_r g8 = mv_r h := s_g8.trans r_g5
    obtain ⟨v11, g10, eg10, hf⟩ := xhb_e hf
    refine mv_callVi (pc := 117) (n := 1) (ci := 4) (C := R_Names) B (mK_ok sk sv) hNs rfl rfl (ch_Names_kindOf l hi _ (xrw r_g8 hb.t) _ eg10) rfl (ma_goodc kc_Names_kindOf) (B.2.2.2.1 _ k_1316) (B.2.2.2.1 _ k_1317) (B.2.2.2.1 _ k_1318) (B.2.2.2.1 _ k_5) ⟨by decide +kernel, by decide +kernel, by decide +kernel⟩ rfl d_Weaver_fetch_117 rfl (Nat.le_of_ble_eq_true rfl) ⟨by decide, by decide⟩ ⟨by decide, by decide⟩ ⟨by decide, by decide⟩ (mv_noH hno _) (fun w117 σ117 h117 => ?_)
    obtain ⟨rfl, rfl, s_g10⟩ := h117
    have r_g10 : mv_r g10 = mv_r h := s_g10.trans r_g8
    refine mv_iconst (pc := 120) (v := 1) B d_Weaver_fetch_120 (by decide) ?_
    refine mv_icmp_eq (pc := 121) (tgt := 133) B d_Weaver_fetch_121 rfl (fun h121 => ?_) (fun h121 => ?_)
    · skip
      have hf := xif_t h121 hf
      refine mv_aload_n (pc := 133) B d_Weaver_fetch_133 rfl 2 rfl ?_
      refine mv_getR (pc := 134) (ci := 1) (C := R_Weaver) (T := F_Weaver) (N := 16) B 1 rfl rfl (by decide) i_Weaver (B.2.2.2.1 _ k_229) rfl ((congrFun (congrFun r_g10 2) 1).trans (hb.1.1 2 1 _ rfl)) d_Weaver_fetch_134 ?_
      refine mv_aload_n (pc := 137) B d_Weaver_fetch_137 rfl 2 rfl ?_
      refine mv_iload_n (pc := 138) B d_Weaver_fetch_138 rfl 4 rfl ?_
      obtain ⟨v13, g12, eg12, hf⟩ := xhb_e hf
      refine mv_callVi (pc := 139) (n := 1) (ci := 1) (C := R_Weaver) B (mK_ok sk sv) hNs rfl rfl (ch_Weaver_symbolOf l hi _ (xrw r_g10 hb.t) _ eg12) rfl (ma_goodc kc_Weaver_symbolOf) (B.2.2.2.1 _ k_1312) (B.2.2.2.1 _ k_1314) (B.2.2.2.1 _ ks_37) (B.2.2.2.1 _ k_2) ⟨by decide +kernel, by decide +kernel, by decide +kernel⟩ rfl d_Weaver_fetch_139 rfl (Nat.le_of_ble_eq_true rfl) ⟨by decide, by decide⟩ ⟨by decide, by decide⟩ ⟨by decide, by decide⟩ (mv_noH hno _) (fun w139 σ139 h139 => ?_)
      obtain ⟨rfl, rfl, s_g12⟩ := h139
      have r_g12 : mv_r g12 = mv_r h := s_g12.trans r_g10
      obtain ⟨v15, g14, eg14, hf⟩ := xhb_e hf
      refine mv_callVi (pc := 142) (n := 1) (ci := 4) (C := R_Names) B (mK_ok sk sv) hNs rfl rfl (ch_Names_kindOf l hi _ (xrw r_g12 hb.t) _ eg14) rfl (ma_goodc kc_Names_kindOf) (B.2.2.2.1 _ k_1316) (B.2.2.2.1 _ k_1317) (B.2.2.2.1 _ k_1318) (B.2.2.2.1 _ k_5) ⟨by decide +kernel, by decide +kernel, by decide +kernel⟩ rfl d_Weaver_fetch_142 rfl (Nat.le_of_ble_eq_true rfl) ⟨by decide, by decide⟩ ⟨by decide, by decide⟩ ⟨by decide, by decide⟩ (mv_noH hno _) (fun w142 σ142 h142 => ?_)
      obtain ⟨rfl, rfl, s_g14⟩ := h142
      have r_g14 : mv_r g14 = mv_r h := s_g14.trans r_g12
      refine mv_iconst (pc := 145) (v := 2) B d_Weaver_fetch_145 (by decide) ?_
      refine mv_icmp_ne (pc := 146) (tgt := 164) B d_Weaver_fetch_146 rfl (fun h146 => ?_) (fun h146 => ?_)
      · skip
        have hf := xif_f h146 hf
        refine mv_lpick [2, 4] rfl ?_
        exact jn164 _ _ r_g14 hf
      · skip
        have hf := xif_t h146 hf
        refine mv_aload_n (pc := 149) B d_Weaver_fetch_149 rfl 2 rfl ?_
        refine mv_getR (pc := 150) (ci := 1) (C := R_Weaver) (T := F_Weaver) (N := 16) B 5 rfl rfl (by decide) i_Weaver (B.2.2.2.1 _ k_235) rfl ((congrFun (congrFun r_g14 2) 5).trans hb.1.2.2.1) d_Weaver_fetch_150 ?_
        refine mv_getR (pc := 153) (ci := 7) (C := R_Program) (T := F_Program) (N := 19) B 2 rfl rfl (by decide) i_Program (B.2.2.2.1 _ k_321) rfl ((congrFun (congrFun r_g14 32) 2).trans (hb.1.2.1 32 2 33 rfl)) d_Weaver_fetch_153 ?_
        refine mv_iload (pc := 156) B d_Weaver_fetch_156 0 rfl ?_
        obtain ⟨q16, hf⟩ := xvi_e hf
        refine mv_iald (pc := 158) B rfl q16 d_Weaver_fetch_158 ?_
        refine mv_bipush (pc := 159) (v := 8) B d_Weaver_fetch_159 (by decide) ?_
        refine mv_icmp_eq (pc := 161) (tgt := 173) B d_Weaver_fetch_161 rfl (fun h161 => ?_) (fun h161 => ?_)
        · skip
          have hf := xif_t h161 hf
          refine mv_aload_n (pc := 173) B d_Weaver_fetch_173 rfl 2 rfl ?_
          refine mv_getR (pc := 174) (ci := 1) (C := R_Weaver) (T := F_Weaver) (N := 16) B 5 rfl rfl (by decide) i_Weaver (B.2.2.2.1 _ k_235) rfl ((congrFun (congrFun r_g14 2) 5).trans hb.1.2.2.1) d_Weaver_fetch_174 ?_
          refine mv_iload (pc := 177) B d_Weaver_fetch_177 1 rfl ?_
          refine mv_putI (pc := 179) (ci := 7) (C := R_Program) (T := F_Program) (N := 19) B 8 rfl rfl (by decide) i_Program t_Program_ok n_Program (B.2.2.2.1 _ k_339) rfl rfl rfl rfl d_Weaver_fetch_179 ?_
          refine mvh_hp (R9 := mv_r h) hf r_g14 (fun g17 hf r_g17 => ?_)
          refine mv_aload_n (pc := 182) B d_Weaver_fetch_182 rfl 2 rfl ?_
          refine mv_getR (pc := 183) (ci := 1) (C := R_Weaver) (T := F_Weaver) (N := 16) B 5 rfl rfl (by decide) i_Weaver (B.2.2.2.1 _ k_235) rfl ((congrFun (congrFun r_g17 2) 5).trans hb.1.2.2.1) d_Weaver_fetch_183 ?_
          refine mv_iload (pc := 186) B d_Weaver_fetch_186 0 rfl ?_
          refine mv_putI (pc := 188) (ci := 7) (C := R_Program) (T := F_Program) (N := 19) B 9 rfl rfl (by decide) i_Program t_Program_ok n_Program (B.2.2.2.1 _ k_342) rfl rfl rfl rfl d_Weaver_fetch_188 ?_
          refine mvh_hp (R9 := mv_r h) hf r_g17 (fun g18 hf r_g18 => ?_)
          exact mv_vret (pc := 191) B hr d_Weaver_fetch_191 (Nat.le_refl _) (Nat.le_refl _) ⟨rfl, xrh_v hf r_g18⟩
        · skip
          have hf := xif_f h161 hf
          refine mv_lpick [2, 4] rfl ?_
          exact jn164 _ _ r_g14 hf
    · skip
      have hf := xif_f h121 hf
      refine mv_aload_n (pc := 124) B d_Weaver_fetch_124 rfl 2 rfl ?_
      refine mv_iload_n (pc := 125) B d_Weaver_fetch_125 rfl 3 rfl ?_
      refine mv_iconst (pc := 126) (v := 2) B d_Weaver_fetch_126 (by decide) ?_
      obtain ⟨g19, eg19, hf⟩ := xhv_e hf
      refine mv_callVv (pc := 127) (n := 2) (ci := 1) (C := R_Weaver) B (mK_ok sk sv) hNs rfl rfl (ch_Weaver_tell l hi _ (xrw r_g10 hb.t) _ _ eg19) rfl (ma_goodc kc_Weaver_tell) (B.2.2.2.1 _ k_1282) (B.2.2.2.1 _ k_1284) (B.2.2.2.1 _ ks_32) (B.2.2.2.1 _ k_2) ⟨by decide +kernel, by decide +kernel, by decide +kernel⟩ rfl d_Weaver_fetch_127 rfl (Nat.le_of_ble_eq_true rfl) ⟨by decide, by decide⟩ ⟨by decide, by decide⟩ ⟨by decide, by decide⟩ (mv_noH hno _) (fun σ127 h127 => ?_)
      obtain ⟨rfl, s_g19⟩ := h127
      have r_g19 : mv_r g19 = mv_r h := s_g19.trans r_g10
      refine mv_goto (pc := 130) (tgt := 191) B d_Weaver_fetch_130 rfl ?_
      exact mv_vret (pc := 191) B hr d_Weaver_fetch_191 (Nat.le_refl _) (Nat.le_refl _) ⟨rfl, xrh_v hf r_g19⟩
  unfold f_Weaver_fetch at hf
  refine mv_aload_n (pc := 0) B d_Weaver_fetch_0 rfl 0 rfl ?_
  refine mv_getR (pc := 1) (ci := 1) (C := R_Weaver) (T := F_Weaver) (N := 16) B 0 rfl rfl (by decide) i_Weaver (B.2.2.2.1 _ k_228) rfl (hb.1.1 2 0 _ rfl) d_Weaver_fetch_1 ?_
  refine mv_sipush (pc := 4) (v := 204) B d_Weaver_fetch_4 (by decide) ?_
  obtain ⟨v21, g20, eg20, hf⟩ := xhb_e hf
  refine mv_callVi (pc := 7) (n := 1) (ci := 2) (C := R_Tokens) B (mK_ok sk sv) hNs rfl rfl (ch_Tokens_take l hi _ (hb.t) _ eg20) rfl (ma_goodc kc_Tokens_take) (B.2.2.2.1 _ k_1266) (B.2.2.2.1 _ k_1267) (B.2.2.2.1 _ k_1268) (B.2.2.2.1 _ k_3) ⟨by decide +kernel, by decide +kernel, by decide +kernel⟩ rfl d_Weaver_fetch_7 rfl (Nat.le_of_ble_eq_true rfl) ⟨by decide, by decide⟩ ⟨by decide, by decide⟩ ⟨by decide, by decide⟩ (mv_noH hno _) (fun w7 σ7 h7 => ?_)
  obtain ⟨rfl, rfl, s_g20⟩ := h7
  have r_g20 : mv_r g20 = mv_r h := s_g20.trans rfl
  refine mv_istore_n (pc := 10) B d_Weaver_fetch_10 rfl (by decide) rfl ?_
  refine mv_aload_n (pc := 11) B d_Weaver_fetch_11 rfl 1 rfl ?_
  refine mv_getR (pc := 12) (ci := 1) (C := R_Weaver) (T := F_Weaver) (N := 16) B 0 rfl rfl (by decide) i_Weaver (B.2.2.2.1 _ k_228) rfl ((congrFun (congrFun r_g20 2) 0).trans (hb.1.1 2 0 _ rfl)) d_Weaver_fetch_12 ?_
  refine mv_iconst (pc := 15) (v := 3) B d_Weaver_fetch_15 (by decide) ?_
  obtain ⟨v23, g22, eg22, hf⟩ := xhb_e hf
  refine mv_callVi (pc := 16) (n := 1) (ci := 2) (C := R_Tokens) B (mK_ok sk sv) hNs rfl rfl (ch_Tokens_take l hi _ (xrw r_g20 hb.t) _ eg22) rfl (ma_goodc kc_Tokens_take) (B.2.2.2.1 _ k_1266) (B.2.2.2.1 _ k_1267) (B.2.2.2.1 _ k_1268) (B.2.2.2.1 _ k_3) ⟨by decide +kernel, by decide +kernel, by decide +kernel⟩ rfl d_Weaver_fetch_16 rfl (Nat.le_of_ble_eq_true rfl) ⟨by decide, by decide⟩ ⟨by decide, by decide⟩ ⟨by decide, by decide⟩ (mv_noH hno _) (fun w16 σ16 h16 => ?_)
  obtain ⟨rfl, rfl, s_g22⟩ := h16
  have r_g22 : mv_r g22 = mv_r h := s_g22.trans r_g20
  refine mv_istore_n (pc := 19) B d_Weaver_fetch_19 rfl (by decide) rfl ?_
  refine mv_aload_n (pc := 20) B d_Weaver_fetch_20 rfl 2 rfl ?_
  refine mv_getR (pc := 21) (ci := 1) (C := R_Weaver) (T := F_Weaver) (N := 16) B 0 rfl rfl (by decide) i_Weaver (B.2.2.2.1 _ k_228) rfl ((congrFun (congrFun r_g22 2) 0).trans (hb.1.1 2 0 _ rfl)) d_Weaver_fetch_21 ?_
  refine mv_sipush (pc := 24) (v := 205) B d_Weaver_fetch_24 (by decide) ?_
  obtain ⟨v25, g24, eg24, hf⟩ := xhb_e hf
  refine mv_callVi (pc := 27) (n := 1) (ci := 2) (C := R_Tokens) B (mK_ok sk sv) hNs rfl rfl (ch_Tokens_take l hi _ (xrw r_g22 hb.t) _ eg24) rfl (ma_goodc kc_Tokens_take) (B.2.2.2.1 _ k_1266) (B.2.2.2.1 _ k_1267) (B.2.2.2.1 _ k_1268) (B.2.2.2.1 _ k_3) ⟨by decide +kernel, by decide +kernel, by decide +kernel⟩ rfl d_Weaver_fetch_27 rfl (Nat.le_of_ble_eq_true rfl) ⟨by decide, by decide⟩ ⟨by decide, by decide⟩ ⟨by decide, by decide⟩ (mv_noH hno _) (fun w27 σ27 h27 => ?_)
  obtain ⟨rfl, rfl, s_g24⟩ := h27
  have r_g24 : mv_r g24 = mv_r h := s_g24.trans r_g22
  refine mv_pop (pc := 30) B d_Weaver_fetch_30 rfl ?_
  refine mv_aload_n (pc := 31) B d_Weaver_fetch_31 rfl 2 rfl ?_
  refine mv_getR (pc := 32) (ci := 1) (C := R_Weaver) (T := F_Weaver) (N := 16) B 0 rfl rfl (by decide) i_Weaver (B.2.2.2.1 _ k_228) rfl ((congrFun (congrFun r_g24 2) 0).trans (hb.1.1 2 0 _ rfl)) d_Weaver_fetch_32 ?_
  refine mv_iconst (pc := 35) (v := 3) B d_Weaver_fetch_35 (by decide) ?_
  obtain ⟨v27, g26, eg26, hf⟩ := xhb_e hf
  refine mv_callVi (pc := 36) (n := 1) (ci := 2) (C := R_Tokens) B (mK_ok sk sv) hNs rfl rfl (ch_Tokens_take l hi _ (xrw r_g24 hb.t) _ eg26) rfl (ma_goodc kc_Tokens_take) (B.2.2.2.1 _ k_1266) (B.2.2.2.1 _ k_1267) (B.2.2.2.1 _ k_1268) (B.2.2.2.1 _ k_3) ⟨by decide +kernel, by decide +kernel, by decide +kernel⟩ rfl d_Weaver_fetch_36 rfl (Nat.le_of_ble_eq_true rfl) ⟨by decide, by decide⟩ ⟨by decide, by decide⟩ ⟨by decide, by decide⟩ (mv_noH hno _) (fun w36 σ36 h36 => ?_)
  obtain ⟨rfl, rfl, s_g26⟩ := h36
  have r_g26 : mv_r g26 = mv_r h := s_g26.trans r_g24
  refine mv_istore_n (pc := 39) B d_Weaver_fetch_39 rfl (by decide) rfl ?_
  refine mv_aload_n (pc := 40) B d_Weaver_fetch_40 rfl 3 rfl ?_
  refine mv_getR (pc := 41) (ci := 1) (C := R_Weaver) (T := F_Weaver) (N := 16) B 0 rfl rfl (by decide) i_Weaver (B.2.2.2.1 _ k_228) rfl ((congrFun (congrFun r_g26 2) 0).trans (hb.1.1 2 0 _ rfl)) d_Weaver_fetch_41 ?_
  refine mv_bipush (pc := 44) (v := 59) B d_Weaver_fetch_44 (by decide) ?_
  obtain ⟨v29, g28, eg28, hf⟩ := xhb_e hf
  refine mv_callVi (pc := 46) (n := 1) (ci := 2) (C := R_Tokens) B (mK_ok sk sv) hNs rfl rfl (ch_Tokens_take l hi _ (xrw r_g26 hb.t) _ eg28) rfl (ma_goodc kc_Tokens_take) (B.2.2.2.1 _ k_1266) (B.2.2.2.1 _ k_1267) (B.2.2.2.1 _ k_1268) (B.2.2.2.1 _ k_3) ⟨by decide +kernel, by decide +kernel, by decide +kernel⟩ rfl d_Weaver_fetch_46 rfl (Nat.le_of_ble_eq_true rfl) ⟨by decide, by decide⟩ ⟨by decide, by decide⟩ ⟨by decide, by decide⟩ (mv_noH hno _) (fun w46 σ46 h46 => ?_)
  obtain ⟨rfl, rfl, s_g28⟩ := h46
  have r_g28 : mv_r g28 = mv_r h := s_g28.trans r_g26
  refine mv_pop (pc := 49) B d_Weaver_fetch_49 rfl ?_
  refine mv_aload_n (pc := 50) B d_Weaver_fetch_50 rfl 3 rfl ?_
  refine mv_getR (pc := 51) (ci := 1) (C := R_Weaver) (T := F_Weaver) (N := 16) B 0 rfl rfl (by decide) i_Weaver (B.2.2.2.1 _ k_228) rfl ((congrFun (congrFun r_g28 2) 0).trans (hb.1.1 2 0 _ rfl)) d_Weaver_fetch_51 ?_
  obtain ⟨v31, g30, eg30, hf⟩ := xhb_e hf
  refine mv_callVi (pc := 54) (n := 0) (ci := 2) (C := R_Tokens) B (mK_ok sk sv) hNs rfl rfl (ch_Tokens_right l hi _ eg30) rfl (ma_goodc kc_Tokens_right) (B.2.2.2.1 _ k_1291) (B.2.2.2.1 _ k_1292) (B.2.2.2.1 _ k_1293) (B.2.2.2.1 _ k_3) ⟨by decide +kernel, by decide +kernel, by decide +kernel⟩ rfl d_Weaver_fetch_54 rfl (Nat.le_of_ble_eq_true rfl) ⟨by decide, by decide⟩ ⟨by decide, by decide⟩ ⟨by decide, by decide⟩ (mv_noH hno _) (fun w54 σ54 h54 => ?_)
  obtain ⟨rfl, rfl, s_g30⟩ := h54
  have r_g30 : mv_r g30 = mv_r h := s_g30.trans r_g28
  refine mv_if_ne (pc := 57) (tgt := 61) B d_Weaver_fetch_57 rfl (fun h57 => ?_) (fun h57 => ?_)
  · skip
    have hf := xif_f h57 hf
    refine mv_aload_n (pc := 61) B d_Weaver_fetch_61 rfl 3 rfl ?_
    refine mv_getR (pc := 62) (ci := 1) (C := R_Weaver) (T := F_Weaver) (N := 16) B 5 rfl rfl (by decide) i_Weaver (B.2.2.2.1 _ k_235) rfl ((congrFun (congrFun r_g30 2) 5).trans hb.1.2.2.1) d_Weaver_fetch_62 ?_
    refine mv_getI (pc := 65) (ci := 7) (C := R_Program) (T := F_Program) (N := 19) B 9 rfl rfl (by decide) i_Program (B.2.2.2.1 _ k_342) rfl d_Weaver_fetch_65 ?_
    refine mv_if_lt (pc := 68) (tgt := 78) B d_Weaver_fetch_68 rfl (fun h68 => ?_) (fun h68 => ?_)
    · skip
      have hf := xif_t h68 hf
      refine mv_lpick [3, 1, 0] rfl ?_
      exact jn78 _ _ _ r_g30 hf
    · skip
      have hf := xif_f h68 hf
      refine mv_aload_n (pc := 71) B d_Weaver_fetch_71 rfl 3 rfl ?_
      refine mv_iload_n (pc := 72) B d_Weaver_fetch_72 rfl 2 rfl ?_
      refine mv_bipush (pc := 73) (v := 6) B d_Weaver_fetch_73 (by decide) ?_
      obtain ⟨g32, eg32, hf⟩ := xhv_e hf
      refine mv_callVv (pc := 75) (n := 2) (ci := 1) (C := R_Weaver) B (mK_ok sk sv) hNs rfl rfl (ch_Weaver_tell l hi _ (xrw r_g30 hb.t) _ _ eg32) rfl (ma_goodc kc_Weaver_tell) (B.2.2.2.1 _ k_1282) (B.2.2.2.1 _ k_1284) (B.2.2.2.1 _ ks_32) (B.2.2.2.1 _ k_2) ⟨by decide +kernel, by decide +kernel, by decide +kernel⟩ rfl d_Weaver_fetch_75 rfl (Nat.le_of_ble_eq_true rfl) ⟨by decide, by decide⟩ ⟨by decide, by decide⟩ ⟨by decide, by decide⟩ (mv_noH hno _) (fun σ75 h75 => ?_)
      obtain ⟨rfl, s_g32⟩ := h75
      have r_g32 : mv_r g32 = mv_r h := s_g32.trans r_g30
      refine mv_lpick [3, 1, 0] rfl ?_
      exact jn78 _ _ _ r_g32 hf
  · skip
    have hf := xif_t h57 hf
    exact mv_vret (pc := 60) B hr d_Weaver_fetch_60 (Nat.le_refl _) (Nat.le_refl _) ⟨rfl, xrh_v hf r_g30⟩
set_option maxHeartbeats 4000000 in
set_option maxRecDepth 100000 in
theorem ch_Weaver_fetch_b (l : Launch) {dA : FieldType → ClassId} {D : va_G} {al : Nat → Nat} {ext : mv_Sh} {sk sv : Nat → Nat} (hi : mv_inj (mg dA D al ext)) (h : mv_H) (hb : xRP 48 (mv_r h))  {rg : mv_H} (hf : f_Weaver_fetch 48 h = some rg) : mv_C l y_Weaver_fetch (Cond.code y_Weaver_fetch b_Weaver_fetch 6 (Option.none : Option Jvm.ClassFile.FieldType) :: ma) ({ frames := 2, cells := 0, slots := 0, locals := 44 }) (mg dA D al ext) (mK sk sv) [.ref (al 2)] h (mv_Rv (fun σ1 => rg = σ1 ∧ mv_r σ1 = mv_r h)) := by
  refine mv_C.ofV (cc := b_Weaver_fetch) (nL := 6) (ret := (Option.none : Option Jvm.ClassFile.FieldType)) (by decide +kernel) rfl hi (Nat.le_of_ble_eq_true rfl) ?_
  intro p e s m below meth c B hNs hr hnm hno
  have jn164 : ∀ (x3 : Int32) (hz : mv_H), mv_r hz = mv_r h → f_Weaver_fetch_164 48 x3 hz = some rg → mv_V p l e ({ frames := 2, cells := 0, slots := 0, locals := 44 }) s m ([.ref (al 2)] : List Value).toArray below meth c (mg dA D al ext) 6 0 0 (mv_Q (mg dA D al ext) below s 0 0 (mv_Rv (fun σ1 => rg = σ1 ∧ mv_r σ1 = mv_r h))) hz 164 [(0, .ref (al 2)), (3, .int x3)] [] := by
    intro x3 hz r_hz hf
    unfold f_Weaver_fetch_164 at hf
    refine mv_aload_n (pc := 164) B d_Weaver_fetch_164 rfl 0 rfl ?_
    refine mv_iload_n (pc := 165) B d_Weaver_fetch_165 rfl 1 rfl ?_
    refine mv_iconst (pc := 166) (v := 2) B d_Weaver_fetch_166 (by decide) ?_
    obtain ⟨g1, eg1, hf⟩ := xhv_e hf
    refine mv_callVv (pc := 167) (n := 2) (ci := 1) (C := R_Weaver) B (mK_ok sk sv) hNs rfl rfl (ch_Weaver_tell l hi _ (xrw r_hz hb.t) _ _ eg1) rfl (ma_goodc kc_Weaver_tell) (B.2.2.2.1 _ k_1282) (B.2.2.2.1 _ k_1284) (B.2.2.2.1 _ ks_32) (B.2.2.2.1 _ k_2) ⟨by decide +kernel, by decide +kernel, by decide +kernel⟩ rfl d_Weaver_fetch_167 rfl (Nat.le_of_ble_eq_true rfl) ⟨by decide, by decide⟩ ⟨by decide, by decide⟩ ⟨by decide, by decide⟩ (mv_noH hno _) (fun σ167 h167 => ?_)
    obtain ⟨rfl, s_g1⟩ := h167
    have r_g1 : mv_r g1 = mv_r h := s_g1.trans r_hz
    refine mv_goto (pc := 170) (tgt := 191) B d_Weaver_fetch_170 rfl ?_
    exact mv_vret (pc := 191) B hr d_Weaver_fetch_191 (Nat.le_refl _) (Nat.le_refl _) ⟨rfl, xrh_v hf r_g1⟩
  have jn78 : ∀ (x2 : Int32) (x3 : Int32) (hz : mv_H), mv_r hz = mv_r h → f_Weaver_fetch_78 48 x2 x3 hz = some rg → mv_V p l e ({ frames := 2, cells := 0, slots := 0, locals := 44 }) s m ([.ref (al 2)] : List Value).toArray below meth c (mg dA D al ext) 6 0 0 (mv_Q (mg dA D al ext) below s 0 0 (mv_Rv (fun σ1 => rg = σ1 ∧ mv_r σ1 = mv_r h))) hz 78 [(0, .ref (al 2)), (2, .int x2), (3, .int x3)] [] := by
    intro x2 x3 hz r_hz hf
    unfold f_Weaver_fetch_78 at hf
    refine mv_aload_n (pc := 78) B d_Weaver_fetch_78 rfl 0 rfl ?_
    refine mv_getR (pc := 79) (ci := 1) (C := R_Weaver) (T := F_Weaver) (N := 16) B 1 rfl rfl (by decide) i_Weaver (B.2.2.2.1 _ k_229) rfl ((congrFun (congrFun r_hz 2) 1).trans (hb.1.1 2 1 _ rfl)) d_Weaver_fetch_79 ?_
    refine mv_getR (pc := 82) (ci := 4) (C := R_Names) (T := F_Names) (N := 10) B 2 rfl rfl (by decide) i_Names (B.2.2.2.1 _ k_138) rfl ((congrFun (congrFun r_hz 13) 2).trans (hb.1.1 13 2 _ rfl)) d_Weaver_fetch_82 ?_
    refine mv_aload_n (pc := 85) B d_Weaver_fetch_85 rfl 0 rfl ?_
    refine mv_iload_n (pc := 86) B d_Weaver_fetch_86 rfl 1 rfl ?_
    obtain ⟨v3, g2, eg2, hf⟩ := xhb_e hf
    refine mv_callVi (pc := 87) (n := 1) (ci := 1) (C := R_Weaver) B (mK_ok sk sv) hNs rfl rfl (ch_Weaver_symbolOf l hi _ (xrw r_hz hb.t) _ eg2) rfl (ma_goodc kc_Weaver_symbolOf) (B.2.2.2.1 _ k_1312) (B.2.2.2.1 _ k_1314) (B.2.2.2.1 _ ks_37) (B.2.2.2.1 _ k_2) ⟨by decide +kernel, by decide +kernel, by decide +kernel⟩ rfl d_Weaver_fetch_87 rfl (Nat.le_of_ble_eq_true rfl) ⟨by decide, by decide⟩ ⟨by decide, by decide⟩ ⟨by decide, by decide⟩ (mv_noH hno _) (fun w87 σ87 h87 => ?_)
    obtain ⟨rfl, rfl, s_g2⟩ := h87
    have r_g2 : mv_r g2 = mv_r h := s_g2.trans r_hz
    obtain ⟨q4, hf⟩ := xvi_e hf
    refine mv_iald (pc := 90) B rfl q4 d_Weaver_fetch_90 ?_
    refine mv_istore (pc := 91) B d_Weaver_fetch_91 (by decide) rfl ?_
    refine mv_aload_n (pc := 93) B d_Weaver_fetch_93 rfl 1 rfl ?_
    refine mv_getR (pc := 94) (ci := 1) (C := R_Weaver) (T := F_Weaver) (N := 16) B 1 rfl rfl (by decide) i_Weaver (B.2.2.2.1 _ k_229) rfl ((congrFun (congrFun r_g2 2) 1).trans (hb.1.1 2 1 _ rfl)) d_Weaver_fetch_94 ?_
    refine mv_getR (pc := 97) (ci := 4) (C := R_Names) (T := F_Names) (N := 10) B 2 rfl rfl (by decide) i_Names (B.2.2.2.1 _ k_138) rfl ((congrFun (congrFun r_g2 13) 2).trans (hb.1.1 13 2 _ rfl)) d_Weaver_fetch_97 ?_
    refine mv_aload_n (pc := 100) B d_Weaver_fetch_100 rfl 1 rfl ?_
    refine mv_iload_n (pc := 101) B d_Weaver_fetch_101 rfl 3 rfl ?_
    obtain ⟨v6, g5, eg5, hf⟩ := xhb_e hf
    refine mv_callVi (pc := 102) (n := 1) (ci := 1) (C := R_Weaver) B (mK_ok sk sv) hNs rfl rfl (ch_Weaver_symbolOf l hi _ (xrw r_g2 hb.t) _ eg5) rfl (ma_goodc kc_Weaver_symbolOf) (B.2.2.2.1 _ k_1312) (B.2.2.2.1 _ k_1314) (B.2.2.2.1 _ ks_37) (B.2.2.2.1 _ k_2) ⟨by decide +kernel, by decide +kernel, by decide +kernel⟩ rfl d_Weaver_fetch_102 rfl (Nat.le_of_ble_eq_true rfl) ⟨by decide, by decide⟩ ⟨by decide, by decide⟩ ⟨by decide, by decide⟩ (mv_noH hno _) (fun w102 σ102 h102 => ?_)
    obtain ⟨rfl, rfl, s_g5⟩ := h102
    have r_g5 : mv_r g5 = mv_r h := s_g5.trans r_g2
    obtain ⟨q7, hf⟩ := xvi_e hf
    refine mv_iald (pc := 105) B rfl q7 d_Weaver_fetch_105 ?_
    refine mv_istore (pc := 106) B d_Weaver_fetch_106 (by decide) rfl ?_
    refine mv_aload_n (pc := 108) B d_Weaver_fetch_108 rfl 2 rfl ?_
    refine mv_getR (pc := 109) (ci := 1) (C := R_Weaver) (T := F_Weaver) (N := 16) B 1 rfl rfl (by decide) i_Weaver (B.2.2.2.1 _ k_229) rfl ((congrFun (congrFun r_g5 2) 1).trans (hb.1.1 2 1 _ rfl)) d_Weaver_fetch_109 ?_
    refine mv_aload_n (pc := 112) B d_Weaver_fetch_112 rfl 2 rfl ?_
    refine mv_iload_n (pc := 113) B d_Weaver_fetch_113 rfl 3 rfl ?_
    obtain ⟨v9, g8, eg8, hf⟩ := xhb_e hf
    refine mv_callVi (pc := 114) (n := 1) (ci := 1) (C := R_Weaver) B (mK_ok sk sv) hNs rfl rfl (ch_Weaver_symbolOf l hi _ (xrw r_g5 hb.t) _ eg8) rfl (ma_goodc kc_Weaver_symbolOf) (B.2.2.2.1 _ k_1312) (B.2.2.2.1 _ k_1314) (B.2.2.2.1 _ ks_37) (B.2.2.2.1 _ k_2) ⟨by decide +kernel, by decide +kernel, by decide +kernel⟩ rfl d_Weaver_fetch_114 rfl (Nat.le_of_ble_eq_true rfl) ⟨by decide, by decide⟩ ⟨by decide, by decide⟩ ⟨by decide, by decide⟩ (mv_noH hno _) (fun w114 σ114 h114 => ?_)
    obtain ⟨rfl, rfl, s_g8⟩ := h114
    have r_g8 : mv_r g8 = mv_r h := s_g8.trans r_g5
    obtain ⟨v11, g10, eg10, hf⟩ := xhb_e hf
    refine mv_callVi (pc := 117) (n := 1) (ci := 4) (C := R_Names) B (mK_ok sk sv) hNs rfl rfl (ch_Names_kindOf l hi _ (xrw r_g8 hb.t) _ eg10) rfl (ma_goodc kc_Names_kindOf) (B.2.2.2.1 _ k_1316) (B.2.2.2.1 _ k_1317) (B.2.2.2.1 _ k_1318) (B.2.2.2.1 _ k_5) ⟨by decide +kernel, by decide +kernel, by decide +kernel⟩ rfl d_Weaver_fetch_117 rfl (Nat.le_of_ble_eq_true rfl) ⟨by decide, by decide⟩ ⟨by decide, by decide⟩ ⟨by decide, by decide⟩ (mv_noH hno _) (fun w117 σ117 h117 => ?_)
    obtain ⟨rfl, rfl, s_g10⟩ := h117
    have r_g10 : mv_r g10 = mv_r h := s_g10.trans r_g8
    refine mv_iconst (pc := 120) (v := 1) B d_Weaver_fetch_120 (by decide) ?_
    refine mv_icmp_eq (pc := 121) (tgt := 133) B d_Weaver_fetch_121 rfl (fun h121 => ?_) (fun h121 => ?_)
    · skip
      have hf := xif_t h121 hf
      refine mv_aload_n (pc := 133) B d_Weaver_fetch_133 rfl 2 rfl ?_
      refine mv_getR (pc := 134) (ci := 1) (C := R_Weaver) (T := F_Weaver) (N := 16) B 1 rfl rfl (by decide) i_Weaver (B.2.2.2.1 _ k_229) rfl ((congrFun (congrFun r_g10 2) 1).trans (hb.1.1 2 1 _ rfl)) d_Weaver_fetch_134 ?_
      refine mv_aload_n (pc := 137) B d_Weaver_fetch_137 rfl 2 rfl ?_
      refine mv_iload_n (pc := 138) B d_Weaver_fetch_138 rfl 4 rfl ?_
      obtain ⟨v13, g12, eg12, hf⟩ := xhb_e hf
      refine mv_callVi (pc := 139) (n := 1) (ci := 1) (C := R_Weaver) B (mK_ok sk sv) hNs rfl rfl (ch_Weaver_symbolOf l hi _ (xrw r_g10 hb.t) _ eg12) rfl (ma_goodc kc_Weaver_symbolOf) (B.2.2.2.1 _ k_1312) (B.2.2.2.1 _ k_1314) (B.2.2.2.1 _ ks_37) (B.2.2.2.1 _ k_2) ⟨by decide +kernel, by decide +kernel, by decide +kernel⟩ rfl d_Weaver_fetch_139 rfl (Nat.le_of_ble_eq_true rfl) ⟨by decide, by decide⟩ ⟨by decide, by decide⟩ ⟨by decide, by decide⟩ (mv_noH hno _) (fun w139 σ139 h139 => ?_)
      obtain ⟨rfl, rfl, s_g12⟩ := h139
      have r_g12 : mv_r g12 = mv_r h := s_g12.trans r_g10
      obtain ⟨v15, g14, eg14, hf⟩ := xhb_e hf
      refine mv_callVi (pc := 142) (n := 1) (ci := 4) (C := R_Names) B (mK_ok sk sv) hNs rfl rfl (ch_Names_kindOf l hi _ (xrw r_g12 hb.t) _ eg14) rfl (ma_goodc kc_Names_kindOf) (B.2.2.2.1 _ k_1316) (B.2.2.2.1 _ k_1317) (B.2.2.2.1 _ k_1318) (B.2.2.2.1 _ k_5) ⟨by decide +kernel, by decide +kernel, by decide +kernel⟩ rfl d_Weaver_fetch_142 rfl (Nat.le_of_ble_eq_true rfl) ⟨by decide, by decide⟩ ⟨by decide, by decide⟩ ⟨by decide, by decide⟩ (mv_noH hno _) (fun w142 σ142 h142 => ?_)
      obtain ⟨rfl, rfl, s_g14⟩ := h142
      have r_g14 : mv_r g14 = mv_r h := s_g14.trans r_g12
      refine mv_iconst (pc := 145) (v := 2) B d_Weaver_fetch_145 (by decide) ?_
      refine mv_icmp_ne (pc := 146) (tgt := 164) B d_Weaver_fetch_146 rfl (fun h146 => ?_) (fun h146 => ?_)
      · skip
        have hf := xif_f h146 hf
        refine mv_lpick [2, 4] rfl ?_
        exact jn164 _ _ r_g14 hf
      · skip
        have hf := xif_t h146 hf
        refine mv_aload_n (pc := 149) B d_Weaver_fetch_149 rfl 2 rfl ?_
        refine mv_getR (pc := 150) (ci := 1) (C := R_Weaver) (T := F_Weaver) (N := 16) B 5 rfl rfl (by decide) i_Weaver (B.2.2.2.1 _ k_235) rfl ((congrFun (congrFun r_g14 2) 5).trans hb.1.2.2.1) d_Weaver_fetch_150 ?_
        refine mv_getR (pc := 153) (ci := 7) (C := R_Program) (T := F_Program) (N := 19) B 2 rfl rfl (by decide) i_Program (B.2.2.2.1 _ k_321) rfl ((congrFun (congrFun r_g14 48) 2).trans (hb.1.2.1 48 2 49 rfl)) d_Weaver_fetch_153 ?_
        refine mv_iload (pc := 156) B d_Weaver_fetch_156 0 rfl ?_
        obtain ⟨q16, hf⟩ := xvi_e hf
        refine mv_iald (pc := 158) B rfl q16 d_Weaver_fetch_158 ?_
        refine mv_bipush (pc := 159) (v := 8) B d_Weaver_fetch_159 (by decide) ?_
        refine mv_icmp_eq (pc := 161) (tgt := 173) B d_Weaver_fetch_161 rfl (fun h161 => ?_) (fun h161 => ?_)
        · skip
          have hf := xif_t h161 hf
          refine mv_aload_n (pc := 173) B d_Weaver_fetch_173 rfl 2 rfl ?_
          refine mv_getR (pc := 174) (ci := 1) (C := R_Weaver) (T := F_Weaver) (N := 16) B 5 rfl rfl (by decide) i_Weaver (B.2.2.2.1 _ k_235) rfl ((congrFun (congrFun r_g14 2) 5).trans hb.1.2.2.1) d_Weaver_fetch_174 ?_
          refine mv_iload (pc := 177) B d_Weaver_fetch_177 1 rfl ?_
          refine mv_putI (pc := 179) (ci := 7) (C := R_Program) (T := F_Program) (N := 19) B 8 rfl rfl (by decide) i_Program t_Program_ok n_Program (B.2.2.2.1 _ k_339) rfl rfl rfl rfl d_Weaver_fetch_179 ?_
          refine mvh_hp (R9 := mv_r h) hf r_g14 (fun g17 hf r_g17 => ?_)
          refine mv_aload_n (pc := 182) B d_Weaver_fetch_182 rfl 2 rfl ?_
          refine mv_getR (pc := 183) (ci := 1) (C := R_Weaver) (T := F_Weaver) (N := 16) B 5 rfl rfl (by decide) i_Weaver (B.2.2.2.1 _ k_235) rfl ((congrFun (congrFun r_g17 2) 5).trans hb.1.2.2.1) d_Weaver_fetch_183 ?_
          refine mv_iload (pc := 186) B d_Weaver_fetch_186 0 rfl ?_
          refine mv_putI (pc := 188) (ci := 7) (C := R_Program) (T := F_Program) (N := 19) B 9 rfl rfl (by decide) i_Program t_Program_ok n_Program (B.2.2.2.1 _ k_342) rfl rfl rfl rfl d_Weaver_fetch_188 ?_
          refine mvh_hp (R9 := mv_r h) hf r_g17 (fun g18 hf r_g18 => ?_)
          exact mv_vret (pc := 191) B hr d_Weaver_fetch_191 (Nat.le_refl _) (Nat.le_refl _) ⟨rfl, xrh_v hf r_g18⟩
        · skip
          have hf := xif_f h161 hf
          refine mv_lpick [2, 4] rfl ?_
          exact jn164 _ _ r_g14 hf
    · skip
      have hf := xif_f h121 hf
      refine mv_aload_n (pc := 124) B d_Weaver_fetch_124 rfl 2 rfl ?_
      refine mv_iload_n (pc := 125) B d_Weaver_fetch_125 rfl 3 rfl ?_
      refine mv_iconst (pc := 126) (v := 2) B d_Weaver_fetch_126 (by decide) ?_
      obtain ⟨g19, eg19, hf⟩ := xhv_e hf
      refine mv_callVv (pc := 127) (n := 2) (ci := 1) (C := R_Weaver) B (mK_ok sk sv) hNs rfl rfl (ch_Weaver_tell l hi _ (xrw r_g10 hb.t) _ _ eg19) rfl (ma_goodc kc_Weaver_tell) (B.2.2.2.1 _ k_1282) (B.2.2.2.1 _ k_1284) (B.2.2.2.1 _ ks_32) (B.2.2.2.1 _ k_2) ⟨by decide +kernel, by decide +kernel, by decide +kernel⟩ rfl d_Weaver_fetch_127 rfl (Nat.le_of_ble_eq_true rfl) ⟨by decide, by decide⟩ ⟨by decide, by decide⟩ ⟨by decide, by decide⟩ (mv_noH hno _) (fun σ127 h127 => ?_)
      obtain ⟨rfl, s_g19⟩ := h127
      have r_g19 : mv_r g19 = mv_r h := s_g19.trans r_g10
      refine mv_goto (pc := 130) (tgt := 191) B d_Weaver_fetch_130 rfl ?_
      exact mv_vret (pc := 191) B hr d_Weaver_fetch_191 (Nat.le_refl _) (Nat.le_refl _) ⟨rfl, xrh_v hf r_g19⟩
  unfold f_Weaver_fetch at hf
  refine mv_aload_n (pc := 0) B d_Weaver_fetch_0 rfl 0 rfl ?_
  refine mv_getR (pc := 1) (ci := 1) (C := R_Weaver) (T := F_Weaver) (N := 16) B 0 rfl rfl (by decide) i_Weaver (B.2.2.2.1 _ k_228) rfl (hb.1.1 2 0 _ rfl) d_Weaver_fetch_1 ?_
  refine mv_sipush (pc := 4) (v := 204) B d_Weaver_fetch_4 (by decide) ?_
  obtain ⟨v21, g20, eg20, hf⟩ := xhb_e hf
  refine mv_callVi (pc := 7) (n := 1) (ci := 2) (C := R_Tokens) B (mK_ok sk sv) hNs rfl rfl (ch_Tokens_take l hi _ (hb.t) _ eg20) rfl (ma_goodc kc_Tokens_take) (B.2.2.2.1 _ k_1266) (B.2.2.2.1 _ k_1267) (B.2.2.2.1 _ k_1268) (B.2.2.2.1 _ k_3) ⟨by decide +kernel, by decide +kernel, by decide +kernel⟩ rfl d_Weaver_fetch_7 rfl (Nat.le_of_ble_eq_true rfl) ⟨by decide, by decide⟩ ⟨by decide, by decide⟩ ⟨by decide, by decide⟩ (mv_noH hno _) (fun w7 σ7 h7 => ?_)
  obtain ⟨rfl, rfl, s_g20⟩ := h7
  have r_g20 : mv_r g20 = mv_r h := s_g20.trans rfl
  refine mv_istore_n (pc := 10) B d_Weaver_fetch_10 rfl (by decide) rfl ?_
  refine mv_aload_n (pc := 11) B d_Weaver_fetch_11 rfl 1 rfl ?_
  refine mv_getR (pc := 12) (ci := 1) (C := R_Weaver) (T := F_Weaver) (N := 16) B 0 rfl rfl (by decide) i_Weaver (B.2.2.2.1 _ k_228) rfl ((congrFun (congrFun r_g20 2) 0).trans (hb.1.1 2 0 _ rfl)) d_Weaver_fetch_12 ?_
  refine mv_iconst (pc := 15) (v := 3) B d_Weaver_fetch_15 (by decide) ?_
  obtain ⟨v23, g22, eg22, hf⟩ := xhb_e hf
  refine mv_callVi (pc := 16) (n := 1) (ci := 2) (C := R_Tokens) B (mK_ok sk sv) hNs rfl rfl (ch_Tokens_take l hi _ (xrw r_g20 hb.t) _ eg22) rfl (ma_goodc kc_Tokens_take) (B.2.2.2.1 _ k_1266) (B.2.2.2.1 _ k_1267) (B.2.2.2.1 _ k_1268) (B.2.2.2.1 _ k_3) ⟨by decide +kernel, by decide +kernel, by decide +kernel⟩ rfl d_Weaver_fetch_16 rfl (Nat.le_of_ble_eq_true rfl) ⟨by decide, by decide⟩ ⟨by decide, by decide⟩ ⟨by decide, by decide⟩ (mv_noH hno _) (fun w16 σ16 h16 => ?_)
  obtain ⟨rfl, rfl, s_g22⟩ := h16
  have r_g22 : mv_r g22 = mv_r h := s_g22.trans r_g20
  refine mv_istore_n (pc := 19) B d_Weaver_fetch_19 rfl (by decide) rfl ?_
  refine mv_aload_n (pc := 20) B d_Weaver_fetch_20 rfl 2 rfl ?_
  refine mv_getR (pc := 21) (ci := 1) (C := R_Weaver) (T := F_Weaver) (N := 16) B 0 rfl rfl (by decide) i_Weaver (B.2.2.2.1 _ k_228) rfl ((congrFun (congrFun r_g22 2) 0).trans (hb.1.1 2 0 _ rfl)) d_Weaver_fetch_21 ?_
  refine mv_sipush (pc := 24) (v := 205) B d_Weaver_fetch_24 (by decide) ?_
  obtain ⟨v25, g24, eg24, hf⟩ := xhb_e hf
  refine mv_callVi (pc := 27) (n := 1) (ci := 2) (C := R_Tokens) B (mK_ok sk sv) hNs rfl rfl (ch_Tokens_take l hi _ (xrw r_g22 hb.t) _ eg24) rfl (ma_goodc kc_Tokens_take) (B.2.2.2.1 _ k_1266) (B.2.2.2.1 _ k_1267) (B.2.2.2.1 _ k_1268) (B.2.2.2.1 _ k_3) ⟨by decide +kernel, by decide +kernel, by decide +kernel⟩ rfl d_Weaver_fetch_27 rfl (Nat.le_of_ble_eq_true rfl) ⟨by decide, by decide⟩ ⟨by decide, by decide⟩ ⟨by decide, by decide⟩ (mv_noH hno _) (fun w27 σ27 h27 => ?_)
  obtain ⟨rfl, rfl, s_g24⟩ := h27
  have r_g24 : mv_r g24 = mv_r h := s_g24.trans r_g22
  refine mv_pop (pc := 30) B d_Weaver_fetch_30 rfl ?_
  refine mv_aload_n (pc := 31) B d_Weaver_fetch_31 rfl 2 rfl ?_
  refine mv_getR (pc := 32) (ci := 1) (C := R_Weaver) (T := F_Weaver) (N := 16) B 0 rfl rfl (by decide) i_Weaver (B.2.2.2.1 _ k_228) rfl ((congrFun (congrFun r_g24 2) 0).trans (hb.1.1 2 0 _ rfl)) d_Weaver_fetch_32 ?_
  refine mv_iconst (pc := 35) (v := 3) B d_Weaver_fetch_35 (by decide) ?_
  obtain ⟨v27, g26, eg26, hf⟩ := xhb_e hf
  refine mv_callVi (pc := 36) (n := 1) (ci := 2) (C := R_Tokens) B (mK_ok sk sv) hNs rfl rfl (ch_Tokens_take l hi _ (xrw r_g24 hb.t) _ eg26) rfl (ma_goodc kc_Tokens_take) (B.2.2.2.1 _ k_1266) (B.2.2.2.1 _ k_1267) (B.2.2.2.1 _ k_1268) (B.2.2.2.1 _ k_3) ⟨by decide +kernel, by decide +kernel, by decide +kernel⟩ rfl d_Weaver_fetch_36 rfl (Nat.le_of_ble_eq_true rfl) ⟨by decide, by decide⟩ ⟨by decide, by decide⟩ ⟨by decide, by decide⟩ (mv_noH hno _) (fun w36 σ36 h36 => ?_)
  obtain ⟨rfl, rfl, s_g26⟩ := h36
  have r_g26 : mv_r g26 = mv_r h := s_g26.trans r_g24
  refine mv_istore_n (pc := 39) B d_Weaver_fetch_39 rfl (by decide) rfl ?_
  refine mv_aload_n (pc := 40) B d_Weaver_fetch_40 rfl 3 rfl ?_
  refine mv_getR (pc := 41) (ci := 1) (C := R_Weaver) (T := F_Weaver) (N := 16) B 0 rfl rfl (by decide) i_Weaver (B.2.2.2.1 _ k_228) rfl ((congrFun (congrFun r_g26 2) 0).trans (hb.1.1 2 0 _ rfl)) d_Weaver_fetch_41 ?_
  refine mv_bipush (pc := 44) (v := 59) B d_Weaver_fetch_44 (by decide) ?_
  obtain ⟨v29, g28, eg28, hf⟩ := xhb_e hf
  refine mv_callVi (pc := 46) (n := 1) (ci := 2) (C := R_Tokens) B (mK_ok sk sv) hNs rfl rfl (ch_Tokens_take l hi _ (xrw r_g26 hb.t) _ eg28) rfl (ma_goodc kc_Tokens_take) (B.2.2.2.1 _ k_1266) (B.2.2.2.1 _ k_1267) (B.2.2.2.1 _ k_1268) (B.2.2.2.1 _ k_3) ⟨by decide +kernel, by decide +kernel, by decide +kernel⟩ rfl d_Weaver_fetch_46 rfl (Nat.le_of_ble_eq_true rfl) ⟨by decide, by decide⟩ ⟨by decide, by decide⟩ ⟨by decide, by decide⟩ (mv_noH hno _) (fun w46 σ46 h46 => ?_)
  obtain ⟨rfl, rfl, s_g28⟩ := h46
  have r_g28 : mv_r g28 = mv_r h := s_g28.trans r_g26
  refine mv_pop (pc := 49) B d_Weaver_fetch_49 rfl ?_
  refine mv_aload_n (pc := 50) B d_Weaver_fetch_50 rfl 3 rfl ?_
  refine mv_getR (pc := 51) (ci := 1) (C := R_Weaver) (T := F_Weaver) (N := 16) B 0 rfl rfl (by decide) i_Weaver (B.2.2.2.1 _ k_228) rfl ((congrFun (congrFun r_g28 2) 0).trans (hb.1.1 2 0 _ rfl)) d_Weaver_fetch_51 ?_
  obtain ⟨v31, g30, eg30, hf⟩ := xhb_e hf
  refine mv_callVi (pc := 54) (n := 0) (ci := 2) (C := R_Tokens) B (mK_ok sk sv) hNs rfl rfl (ch_Tokens_right l hi _ eg30) rfl (ma_goodc kc_Tokens_right) (B.2.2.2.1 _ k_1291) (B.2.2.2.1 _ k_1292) (B.2.2.2.1 _ k_1293) (B.2.2.2.1 _ k_3) ⟨by decide +kernel, by decide +kernel, by decide +kernel⟩ rfl d_Weaver_fetch_54 rfl (Nat.le_of_ble_eq_true rfl) ⟨by decide, by decide⟩ ⟨by decide, by decide⟩ ⟨by decide, by decide⟩ (mv_noH hno _) (fun w54 σ54 h54 => ?_)
  obtain ⟨rfl, rfl, s_g30⟩ := h54
  have r_g30 : mv_r g30 = mv_r h := s_g30.trans r_g28
  refine mv_if_ne (pc := 57) (tgt := 61) B d_Weaver_fetch_57 rfl (fun h57 => ?_) (fun h57 => ?_)
  · skip
    have hf := xif_f h57 hf
    refine mv_aload_n (pc := 61) B d_Weaver_fetch_61 rfl 3 rfl ?_
    refine mv_getR (pc := 62) (ci := 1) (C := R_Weaver) (T := F_Weaver) (N := 16) B 5 rfl rfl (by decide) i_Weaver (B.2.2.2.1 _ k_235) rfl ((congrFun (congrFun r_g30 2) 5).trans hb.1.2.2.1) d_Weaver_fetch_62 ?_
    refine mv_getI (pc := 65) (ci := 7) (C := R_Program) (T := F_Program) (N := 19) B 9 rfl rfl (by decide) i_Program (B.2.2.2.1 _ k_342) rfl d_Weaver_fetch_65 ?_
    refine mv_if_lt (pc := 68) (tgt := 78) B d_Weaver_fetch_68 rfl (fun h68 => ?_) (fun h68 => ?_)
    · skip
      have hf := xif_t h68 hf
      refine mv_lpick [3, 1, 0] rfl ?_
      exact jn78 _ _ _ r_g30 hf
    · skip
      have hf := xif_f h68 hf
      refine mv_aload_n (pc := 71) B d_Weaver_fetch_71 rfl 3 rfl ?_
      refine mv_iload_n (pc := 72) B d_Weaver_fetch_72 rfl 2 rfl ?_
      refine mv_bipush (pc := 73) (v := 6) B d_Weaver_fetch_73 (by decide) ?_
      obtain ⟨g32, eg32, hf⟩ := xhv_e hf
      refine mv_callVv (pc := 75) (n := 2) (ci := 1) (C := R_Weaver) B (mK_ok sk sv) hNs rfl rfl (ch_Weaver_tell l hi _ (xrw r_g30 hb.t) _ _ eg32) rfl (ma_goodc kc_Weaver_tell) (B.2.2.2.1 _ k_1282) (B.2.2.2.1 _ k_1284) (B.2.2.2.1 _ ks_32) (B.2.2.2.1 _ k_2) ⟨by decide +kernel, by decide +kernel, by decide +kernel⟩ rfl d_Weaver_fetch_75 rfl (Nat.le_of_ble_eq_true rfl) ⟨by decide, by decide⟩ ⟨by decide, by decide⟩ ⟨by decide, by decide⟩ (mv_noH hno _) (fun σ75 h75 => ?_)
      obtain ⟨rfl, s_g32⟩ := h75
      have r_g32 : mv_r g32 = mv_r h := s_g32.trans r_g30
      refine mv_lpick [3, 1, 0] rfl ?_
      exact jn78 _ _ _ r_g32 hf
  · skip
    have hf := xif_t h57 hf
    exact mv_vret (pc := 60) B hr d_Weaver_fetch_60 (Nat.le_refl _) (Nat.le_refl _) ⟨rfl, xrh_v hf r_g30⟩
def f_Weaver_openBlock (h : mv_H) (a0 : Int32) (a1 : Int32) (a2 : Int32) : Option mv_H := xhb (f_Tokens_open h (123 : Int32)) fun v2 g1 => xhb (f_Tokens_right g1) fun v4 g3 => if v4 = (0 : Int32) then (some g3) else (bif xvi (mv_i g3 2 15) 61 then xk (mv_sa g3 28 ((mv_i g3 2 15)).toNatClampNeg a0) fun g6 => bif xvi (mv_i g6 2 15) 61 then xk (mv_sa g6 29 ((mv_i g6 2 15)).toNatClampNeg a1) fun g8 => bif xvi (mv_i g8 2 15) 61 then xk (mv_sa g8 30 ((mv_i g8 2 15)).toNatClampNeg a2) fun g10 => bif xvi (mv_i g10 2 15) 61 then xk (mv_sa g10 31 ((mv_i g10 2 15)).toNatClampNeg (mv_i g10 13 7)) fun g12 => xk (mv_si g12 2 15 ((mv_i g12 2 15) + (1 : Int32))) fun g13 => xk (mv_si g13 2 6 (1 : Int32)) fun g14 => some g14 else none else none else none else none)
set_option maxHeartbeats 4000000 in
set_option maxRecDepth 100000 in
theorem ch_Weaver_openBlock (l : Launch) {dA : FieldType → ClassId} {D : va_G} {al : Nat → Nat} {ext : mv_Sh} {sk sv : Nat → Nat} (hi : mv_inj (mg dA D al ext)) (h : mv_H) (hb : xRT (mv_r h))  (a0 : Int32) (a1 : Int32) (a2 : Int32) {rg : mv_H} (hf : f_Weaver_openBlock h a0 a1 a2 = some rg) : mv_C l y_Weaver_openBlock (Cond.code y_Weaver_openBlock b_Weaver_openBlock 4 (Option.none : Option Jvm.ClassFile.FieldType) :: ma) ({ frames := 3, cells := 0, slots := 0, locals := 63 }) (mg dA D al ext) (mK sk sv) [.ref (al 2), .int a0, .int a1, .int a2] h (mv_Rv (fun σ1 => rg = σ1 ∧ mv_r σ1 = mv_r h)) := by
  refine mv_C.ofV (cc := b_Weaver_openBlock) (nL := 4) (ret := (Option.none : Option Jvm.ClassFile.FieldType)) (by decide +kernel) rfl hi (Nat.le_of_ble_eq_true rfl) ?_
  intro p e s m below meth c B hNs hr hnm hno
  unfold f_Weaver_openBlock at hf
  refine mv_aload_n (pc := 0) B d_Weaver_openBlock_0 rfl 0 rfl ?_
  refine mv_getR (pc := 1) (ci := 1) (C := R_Weaver) (T := F_Weaver) (N := 16) B 0 rfl rfl (by decide) i_Weaver (B.2.2.2.1 _ k_228) rfl (hb.1 2 0 _ rfl) d_Weaver_openBlock_1 ?_
  refine mv_bipush (pc := 4) (v := 123) B d_Weaver_openBlock_4 (by decide) ?_
  obtain ⟨v2, g1, eg1, hf⟩ := xhb_e hf
  refine mv_callVi (pc := 6) (n := 1) (ci := 2) (C := R_Tokens) B (mK_ok sk sv) hNs rfl rfl (ch_Tokens_open l hi _ (hb) _ eg1) rfl (ma_goodc kc_Tokens_open) (B.2.2.2.1 _ k_1349) (B.2.2.2.1 _ k_1350) (B.2.2.2.1 _ k_1351) (B.2.2.2.1 _ k_3) ⟨by decide +kernel, by decide +kernel, by decide +kernel⟩ rfl d_Weaver_openBlock_6 rfl (Nat.le_of_ble_eq_true rfl) ⟨by decide, by decide⟩ ⟨by decide, by decide⟩ ⟨by decide, by decide⟩ (mv_noH hno _) (fun w6 σ6 h6 => ?_)
  obtain ⟨rfl, rfl, s_g1⟩ := h6
  have r_g1 : mv_r g1 = mv_r h := s_g1.trans rfl
  refine mv_pop (pc := 9) B d_Weaver_openBlock_9 rfl ?_
  refine mv_aload_n (pc := 10) B d_Weaver_openBlock_10 rfl 0 rfl ?_
  refine mv_getR (pc := 11) (ci := 1) (C := R_Weaver) (T := F_Weaver) (N := 16) B 0 rfl rfl (by decide) i_Weaver (B.2.2.2.1 _ k_228) rfl ((congrFun (congrFun r_g1 2) 0).trans (hb.1 2 0 _ rfl)) d_Weaver_openBlock_11 ?_
  obtain ⟨v4, g3, eg3, hf⟩ := xhb_e hf
  refine mv_callVi (pc := 14) (n := 0) (ci := 2) (C := R_Tokens) B (mK_ok sk sv) hNs rfl rfl (ch_Tokens_right l hi _ eg3) rfl (ma_goodc kc_Tokens_right) (B.2.2.2.1 _ k_1291) (B.2.2.2.1 _ k_1292) (B.2.2.2.1 _ k_1293) (B.2.2.2.1 _ k_3) ⟨by decide +kernel, by decide +kernel, by decide +kernel⟩ rfl d_Weaver_openBlock_14 rfl (Nat.le_of_ble_eq_true rfl) ⟨by decide, by decide⟩ ⟨by decide, by decide⟩ ⟨by decide, by decide⟩ (mv_noH hno _) (fun w14 σ14 h14 => ?_)
  obtain ⟨rfl, rfl, s_g3⟩ := h14
  have r_g3 : mv_r g3 = mv_r h := s_g3.trans r_g1
  refine mv_if_eq (pc := 17) (tgt := 81) B d_Weaver_openBlock_17 rfl (fun h17 => ?_) (fun h17 => ?_)
  · skip
    have hf := xif_t h17 hf
    exact mv_vret (pc := 81) B hr d_Weaver_openBlock_81 (Nat.le_refl _) (Nat.le_refl _) ⟨rfl, xrh_v hf r_g3⟩
  · skip
    have hf := xif_f h17 hf
    refine mv_aload_n (pc := 20) B d_Weaver_openBlock_20 rfl 0 rfl ?_
    refine mv_getR (pc := 21) (ci := 1) (C := R_Weaver) (T := F_Weaver) (N := 16) B 11 rfl rfl (by decide) i_Weaver (B.2.2.2.1 _ k_241) rfl ((congrFun (congrFun r_g3 2) 11).trans (hb.1 2 11 _ rfl)) d_Weaver_openBlock_21 ?_
    refine mv_aload_n (pc := 24) B d_Weaver_openBlock_24 rfl 0 rfl ?_
    refine mv_getI (pc := 25) (ci := 1) (C := R_Weaver) (T := F_Weaver) (N := 16) B 15 rfl rfl (by decide) i_Weaver (B.2.2.2.1 _ k_245) rfl d_Weaver_openBlock_25 ?_
    refine mv_iload_n (pc := 28) B d_Weaver_openBlock_28 rfl 1 rfl ?_
    obtain ⟨q5, hf⟩ := xvi_e hf
    refine mv_iast (pc := 29) B rfl q5 d_Weaver_openBlock_29 ?_
    refine mvh_hp (R9 := mv_r h) hf r_g3 (fun g6 hf r_g6 => ?_)
    refine mv_aload_n (pc := 30) B d_Weaver_openBlock_30 rfl 0 rfl ?_
    refine mv_getR (pc := 31) (ci := 1) (C := R_Weaver) (T := F_Weaver) (N := 16) B 12 rfl rfl (by decide) i_Weaver (B.2.2.2.1 _ k_242) rfl ((congrFun (congrFun r_g6 2) 12).trans (hb.1 2 12 _ rfl)) d_Weaver_openBlock_31 ?_
    refine mv_aload_n (pc := 34) B d_Weaver_openBlock_34 rfl 0 rfl ?_
    refine mv_getI (pc := 35) (ci := 1) (C := R_Weaver) (T := F_Weaver) (N := 16) B 15 rfl rfl (by decide) i_Weaver (B.2.2.2.1 _ k_245) rfl d_Weaver_openBlock_35 ?_
    refine mv_iload_n (pc := 38) B d_Weaver_openBlock_38 rfl 2 rfl ?_
    obtain ⟨q7, hf⟩ := xvi_e hf
    refine mv_iast (pc := 39) B rfl q7 d_Weaver_openBlock_39 ?_
    refine mvh_hp (R9 := mv_r h) hf r_g6 (fun g8 hf r_g8 => ?_)
    refine mv_aload_n (pc := 40) B d_Weaver_openBlock_40 rfl 0 rfl ?_
    refine mv_getR (pc := 41) (ci := 1) (C := R_Weaver) (T := F_Weaver) (N := 16) B 13 rfl rfl (by decide) i_Weaver (B.2.2.2.1 _ k_243) rfl ((congrFun (congrFun r_g8 2) 13).trans (hb.1 2 13 _ rfl)) d_Weaver_openBlock_41 ?_
    refine mv_aload_n (pc := 44) B d_Weaver_openBlock_44 rfl 0 rfl ?_
    refine mv_getI (pc := 45) (ci := 1) (C := R_Weaver) (T := F_Weaver) (N := 16) B 15 rfl rfl (by decide) i_Weaver (B.2.2.2.1 _ k_245) rfl d_Weaver_openBlock_45 ?_
    refine mv_iload_n (pc := 48) B d_Weaver_openBlock_48 rfl 3 rfl ?_
    obtain ⟨q9, hf⟩ := xvi_e hf
    refine mv_iast (pc := 49) B rfl q9 d_Weaver_openBlock_49 ?_
    refine mvh_hp (R9 := mv_r h) hf r_g8 (fun g10 hf r_g10 => ?_)
    refine mv_aload_n (pc := 50) B d_Weaver_openBlock_50 rfl 0 rfl ?_
    refine mv_getR (pc := 51) (ci := 1) (C := R_Weaver) (T := F_Weaver) (N := 16) B 14 rfl rfl (by decide) i_Weaver (B.2.2.2.1 _ k_244) rfl ((congrFun (congrFun r_g10 2) 14).trans (hb.1 2 14 _ rfl)) d_Weaver_openBlock_51 ?_
    refine mv_aload_n (pc := 54) B d_Weaver_openBlock_54 rfl 0 rfl ?_
    refine mv_getI (pc := 55) (ci := 1) (C := R_Weaver) (T := F_Weaver) (N := 16) B 15 rfl rfl (by decide) i_Weaver (B.2.2.2.1 _ k_245) rfl d_Weaver_openBlock_55 ?_
    refine mv_aload_n (pc := 58) B d_Weaver_openBlock_58 rfl 0 rfl ?_
    refine mv_getR (pc := 59) (ci := 1) (C := R_Weaver) (T := F_Weaver) (N := 16) B 1 rfl rfl (by decide) i_Weaver (B.2.2.2.1 _ k_229) rfl ((congrFun (congrFun r_g10 2) 1).trans (hb.1 2 1 _ rfl)) d_Weaver_openBlock_59 ?_
    refine mv_getI (pc := 62) (ci := 4) (C := R_Names) (T := F_Names) (N := 10) B 7 rfl rfl (by decide) i_Names (B.2.2.2.1 _ k_145) rfl d_Weaver_openBlock_62 ?_
    obtain ⟨q11, hf⟩ := xvi_e hf
    refine mv_iast (pc := 65) B rfl q11 d_Weaver_openBlock_65 ?_
    refine mvh_hp (R9 := mv_r h) hf r_g10 (fun g12 hf r_g12 => ?_)
    refine mv_aload_n (pc := 66) B d_Weaver_openBlock_66 rfl 0 rfl ?_
    refine mv_dup (pc := 67) B d_Weaver_openBlock_67 rfl ?_
    refine mv_getI (pc := 68) (ci := 1) (C := R_Weaver) (T := F_Weaver) (N := 16) B 15 rfl rfl (by decide) i_Weaver (B.2.2.2.1 _ k_245) rfl d_Weaver_openBlock_68 ?_
    refine mv_iconst (pc := 71) (v := 1) B d_Weaver_openBlock_71 (by decide) ?_
    refine mv_iadd (pc := 72) B d_Weaver_openBlock_72 ?_
    refine mv_putI (pc := 73) (ci := 1) (C := R_Weaver) (T := F_Weaver) (N := 16) B 15 rfl rfl (by decide) i_Weaver t_Weaver_ok n_Weaver (B.2.2.2.1 _ k_245) rfl rfl rfl rfl d_Weaver_openBlock_73 ?_
    refine mvh_hp (R9 := mv_r h) hf r_g12 (fun g13 hf r_g13 => ?_)
    refine mv_aload_n (pc := 76) B d_Weaver_openBlock_76 rfl 0 rfl ?_
    refine mv_iconst (pc := 77) (v := 1) B d_Weaver_openBlock_77 (by decide) ?_
    refine mv_putI (pc := 78) (ci := 1) (C := R_Weaver) (T := F_Weaver) (N := 16) B 6 rfl rfl (by decide) i_Weaver t_Weaver_ok n_Weaver (B.2.2.2.1 _ k_236) rfl rfl rfl rfl d_Weaver_openBlock_78 ?_
    refine mvh_hp (R9 := mv_r h) hf r_g13 (fun g14 hf r_g14 => ?_)
    exact mv_vret (pc := 81) B hr d_Weaver_openBlock_81 (Nat.le_refl _) (Nat.le_refl _) ⟨rfl, xrh_v hf r_g14⟩
def f_Weaver_op_171 (P : Nat) (x3 : Int32) (x4 : Int32) (x5 : Int32) (hz : mv_H) : Option mv_H := bif xvi x3 16448 then xk (mv_sa hz 16 (x3).toNatClampNeg (vp_nar .byte (1 : Int32))) fun g2 => xhv (f_Names_enterOp g2 x4 x5 (mv_i g2 P 0)) fun g3 => some g3 else none
def f_Weaver_op_153 (P : Nat) (x2 : Int32) (x3 : Int32) (x4 : Int32) (x5 : Int32) (hz : mv_H) : Option mv_H := if x5 = (mv_i hz P 0) then (f_Weaver_op_171 P x3 x4 x5 hz) else (xhv (f_Weaver_tell hz x2 (5 : Int32)) fun g4 => f_Weaver_op_171 P x3 x4 x5 g4)
def f_Weaver_op (P : Nat) (h : mv_H) : Option mv_H := xhb (f_Tokens_take h (206 : Int32)) fun v6 g5 => xhb (f_Tokens_take g5 (3 : Int32)) fun v8 g7 => xhb (f_Tokens_take g7 (5 : Int32)) fun v10 g9 => xhv (f_Weaver_openBlock g9 (206 : Int32) (-1 : Int32) (-1 : Int32)) fun g11 => xhb (f_Tokens_right g11) fun v13 g12 => if v13 = (0 : Int32) then (some g12) else (xhb (f_Weaver_symbolOf g12 v8) fun v15 g14 => bif xvi v10 32770 then bif xvi v10 32770 then bif xvi v15 16448 then if (mv_a g14 16 (v15).toNatClampNeg) = (1 : Int32) then (xhv (f_Weaver_tell g14 v8 (2 : Int32)) fun g21 => f_Weaver_op_153 P v10 v15 ((mv_a g14 5 (v10).toNatClampNeg) + (1 : Int32)) (((mv_b g14 6 (v10).toNatClampNeg)).toInt32) g21) else (if (mv_i g14 P 10) = (512 : Int32) then (xhv (f_Weaver_tell g14 v8 (6 : Int32)) fun g20 => f_Weaver_op_153 P v10 v15 ((mv_a g14 5 (v10).toNatClampNeg) + (1 : Int32)) (((mv_b g14 6 (v10).toNatClampNeg)).toInt32) g20) else (if (((mv_b g14 6 (v10).toNatClampNeg)).toInt32) = (mv_i g14 P 0) then (xhv (f_Program_addOp P g14 ((mv_a g14 5 (v10).toNatClampNeg) + (1 : Int32))) fun g19 => f_Weaver_op_153 P v10 v15 ((mv_a g14 5 (v10).toNatClampNeg) + (1 : Int32)) (((mv_b g14 6 (v10).toNatClampNeg)).toInt32) g19) else (f_Weaver_op_153 P v10 v15 ((mv_a g14 5 (v10).toNatClampNeg) + (1 : Int32)) (((mv_b g14 6 (v10).toNatClampNeg)).toInt32) g14))) else none else none else none)
set_option maxHeartbeats 4000000 in
set_option maxRecDepth 100000 in
theorem ch_Weaver_op_a (l : Launch) {dA : FieldType → ClassId} {D : va_G} {al : Nat → Nat} {ext : mv_Sh} {sk sv : Nat → Nat} (hi : mv_inj (mg dA D al ext)) (h : mv_H) (hb : xRP 32 (mv_r h))  {rg : mv_H} (hf : f_Weaver_op 32 h = some rg) : mv_C l y_Weaver_op (Cond.code y_Weaver_op b_Weaver_op 6 (Option.none : Option Jvm.ClassFile.FieldType) :: ma) ({ frames := 4, cells := 0, slots := 0, locals := 86 }) (mg dA D al ext) (mK sk sv) [.ref (al 2)] h (mv_Rv (fun σ1 => rg = σ1 ∧ mv_r σ1 = mv_r h)) := by
  refine mv_C.ofV (cc := b_Weaver_op) (nL := 6) (ret := (Option.none : Option Jvm.ClassFile.FieldType)) (by decide +kernel) rfl hi (Nat.le_of_ble_eq_true rfl) ?_
  intro p e s m below meth c B hNs hr hnm hno
  have jn171 : ∀ (x3 : Int32) (x4 : Int32) (x5 : Int32) (hz : mv_H), mv_r hz = mv_r h → f_Weaver_op_171 32 x3 x4 x5 hz = some rg → mv_V p l e ({ frames := 4, cells := 0, slots := 0, locals := 86 }) s m ([.ref (al 2)] : List Value).toArray below meth c (mg dA D al ext) 6 0 0 (mv_Q (mg dA D al ext) below s 0 0 (mv_Rv (fun σ1 => rg = σ1 ∧ mv_r σ1 = mv_r h))) hz 171 [(0, .ref (al 2)), (3, .int x3), (4, .int x4), (5, .int x5)] [] := by
    intro x3 x4 x5 hz r_hz hf
    unfold f_Weaver_op_171 at hf
    refine mv_aload_n (pc := 171) B d_Weaver_op_171 rfl 0 rfl ?_
    refine mv_getR (pc := 172) (ci := 1) (C := R_Weaver) (T := F_Weaver) (N := 16) B 1 rfl rfl (by decide) i_Weaver (B.2.2.2.1 _ k_229) rfl ((congrFun (congrFun r_hz 2) 1).trans (hb.1.1 2 1 _ rfl)) d_Weaver_op_172 ?_
    refine mv_getR (pc := 175) (ci := 4) (C := R_Names) (T := F_Names) (N := 10) B 3 rfl rfl (by decide) i_Names (B.2.2.2.1 _ k_140) rfl ((congrFun (congrFun r_hz 13) 3).trans (hb.1.1 13 3 _ rfl)) d_Weaver_op_175 ?_
    refine mv_iload_n (pc := 178) B d_Weaver_op_178 rfl 1 rfl ?_
    refine mv_iconst (pc := 179) (v := 1) B d_Weaver_op_179 (by decide) ?_
    obtain ⟨q1, hf⟩ := xvi_e hf
    refine mv_bast (pc := 180) B rfl q1 d_Weaver_op_180 ?_
    refine mvh_hp (R9 := mv_r h) hf r_hz (fun g2 hf r_g2 => ?_)
    refine mv_aload_n (pc := 181) B d_Weaver_op_181 rfl 0 rfl ?_
    refine mv_getR (pc := 182) (ci := 1) (C := R_Weaver) (T := F_Weaver) (N := 16) B 1 rfl rfl (by decide) i_Weaver (B.2.2.2.1 _ k_229) rfl ((congrFun (congrFun r_g2 2) 1).trans (hb.1.1 2 1 _ rfl)) d_Weaver_op_182 ?_
    refine mv_aload_n (pc := 185) B d_Weaver_op_185 rfl 0 rfl ?_
    refine mv_getR (pc := 186) (ci := 1) (C := R_Weaver) (T := F_Weaver) (N := 16) B 0 rfl rfl (by decide) i_Weaver (B.2.2.2.1 _ k_228) rfl ((congrFun (congrFun r_g2 2) 0).trans (hb.1.1 2 0 _ rfl)) d_Weaver_op_186 ?_
    refine mv_getR (pc := 189) (ci := 2) (C := R_Tokens) (T := F_Tokens) (N := 10) B 4 rfl rfl (by decide) i_Tokens (B.2.2.2.1 _ k_99) rfl ((congrFun (congrFun r_g2 3) 4).trans hb.2) d_Weaver_op_189 ?_
    refine mv_iload (pc := 192) B d_Weaver_op_192 2 rfl ?_
    refine mv_iload (pc := 194) B d_Weaver_op_194 3 rfl ?_
    refine mv_aload_n (pc := 196) B d_Weaver_op_196 rfl 0 rfl ?_
    refine mv_getR (pc := 197) (ci := 1) (C := R_Weaver) (T := F_Weaver) (N := 16) B 5 rfl rfl (by decide) i_Weaver (B.2.2.2.1 _ k_235) rfl ((congrFun (congrFun r_g2 2) 5).trans hb.1.2.2.1) d_Weaver_op_197 ?_
    refine mv_getI (pc := 200) (ci := 7) (C := R_Program) (T := F_Program) (N := 19) B 0 rfl rfl (by decide) i_Program (B.2.2.2.1 _ k_313) rfl d_Weaver_op_200 ?_
    obtain ⟨g3, eg3, hf⟩ := xhv_e hf
    refine mv_callVv (pc := 203) (n := 4) (ci := 4) (C := R_Names) B (mK_ok sk sv) hNs rfl rfl (ch_Names_enterOp l hi _ (xrw r_g2 hb.t) _ _ _ eg3) rfl (ma_goodc kc_Names_enterOp) (B.2.2.2.1 _ k_1358) (B.2.2.2.1 _ k_1359) (B.2.2.2.1 _ k_1360) (B.2.2.2.1 _ k_5) ⟨by decide +kernel, by decide +kernel, by decide +kernel⟩ rfl d_Weaver_op_203 rfl (Nat.le_of_ble_eq_true rfl) ⟨by decide, by decide⟩ ⟨by decide, by decide⟩ ⟨by decide, by decide⟩ (mv_noH hno _) (fun σ203 h203 => ?_)
    obtain ⟨rfl, s_g3⟩ := h203
    have r_g3 : mv_r g3 = mv_r h := s_g3.trans r_g2
    exact mv_vret (pc := 206) B hr d_Weaver_op_206 (Nat.le_refl _) (Nat.le_refl _) ⟨rfl, xrh_v hf r_g3⟩
  have jn153 : ∀ (x2 : Int32) (x3 : Int32) (x4 : Int32) (x5 : Int32) (hz : mv_H), mv_r hz = mv_r h → f_Weaver_op_153 32 x2 x3 x4 x5 hz = some rg → mv_V p l e ({ frames := 4, cells := 0, slots := 0, locals := 86 }) s m ([.ref (al 2)] : List Value).toArray below meth c (mg dA D al ext) 6 0 0 (mv_Q (mg dA D al ext) below s 0 0 (mv_Rv (fun σ1 => rg = σ1 ∧ mv_r σ1 = mv_r h))) hz 153 [(0, .ref (al 2)), (2, .int x2), (3, .int x3), (4, .int x4), (5, .int x5)] [] := by
    intro x2 x3 x4 x5 hz r_hz hf
    unfold f_Weaver_op_153 at hf
    refine mv_iload (pc := 153) B d_Weaver_op_153 4 rfl ?_
    refine mv_aload_n (pc := 155) B d_Weaver_op_155 rfl 0 rfl ?_
    refine mv_getR (pc := 156) (ci := 1) (C := R_Weaver) (T := F_Weaver) (N := 16) B 5 rfl rfl (by decide) i_Weaver (B.2.2.2.1 _ k_235) rfl ((congrFun (congrFun r_hz 2) 5).trans hb.1.2.2.1) d_Weaver_op_156 ?_
    refine mv_getI (pc := 159) (ci := 7) (C := R_Program) (T := F_Program) (N := 19) B 0 rfl rfl (by decide) i_Program (B.2.2.2.1 _ k_313) rfl d_Weaver_op_159 ?_
    refine mv_icmp_eq (pc := 162) (tgt := 171) B d_Weaver_op_162 rfl (fun h162 => ?_) (fun h162 => ?_)
    · skip
      have hf := xif_t h162 hf
      refine mv_lpick [0, 2, 3, 4] rfl ?_
      exact jn171 _ _ _ _ r_hz hf
    · skip
      have hf := xif_f h162 hf
      refine mv_aload_n (pc := 165) B d_Weaver_op_165 rfl 0 rfl ?_
      refine mv_iload_n (pc := 166) B d_Weaver_op_166 rfl 1 rfl ?_
      refine mv_iconst (pc := 167) (v := 5) B d_Weaver_op_167 (by decide) ?_
      obtain ⟨g4, eg4, hf⟩ := xhv_e hf
      refine mv_callVv (pc := 168) (n := 2) (ci := 1) (C := R_Weaver) B (mK_ok sk sv) hNs rfl rfl (ch_Weaver_tell l hi _ (xrw r_hz hb.t) _ _ eg4) rfl (ma_goodc kc_Weaver_tell) (B.2.2.2.1 _ k_1282) (B.2.2.2.1 _ k_1284) (B.2.2.2.1 _ ks_32) (B.2.2.2.1 _ k_2) ⟨by decide +kernel, by decide +kernel, by decide +kernel⟩ rfl d_Weaver_op_168 rfl (Nat.le_of_ble_eq_true rfl) ⟨by decide, by decide⟩ ⟨by decide, by decide⟩ ⟨by decide, by decide⟩ (mv_noH hno _) (fun σ168 h168 => ?_)
      obtain ⟨rfl, s_g4⟩ := h168
      have r_g4 : mv_r g4 = mv_r h := s_g4.trans r_hz
      refine mv_lpick [0, 2, 3, 4] rfl ?_
      exact jn171 _ _ _ _ r_g4 hf
  unfold f_Weaver_op at hf
  refine mv_aload_n (pc := 0) B d_Weaver_op_0 rfl 0 rfl ?_
  refine mv_getR (pc := 1) (ci := 1) (C := R_Weaver) (T := F_Weaver) (N := 16) B 0 rfl rfl (by decide) i_Weaver (B.2.2.2.1 _ k_228) rfl (hb.1.1 2 0 _ rfl) d_Weaver_op_1 ?_
  refine mv_sipush (pc := 4) (v := 206) B d_Weaver_op_4 (by decide) ?_
  obtain ⟨v6, g5, eg5, hf⟩ := xhb_e hf
  refine mv_callVi (pc := 7) (n := 1) (ci := 2) (C := R_Tokens) B (mK_ok sk sv) hNs rfl rfl (ch_Tokens_take l hi _ (hb.t) _ eg5) rfl (ma_goodc kc_Tokens_take) (B.2.2.2.1 _ k_1266) (B.2.2.2.1 _ k_1267) (B.2.2.2.1 _ k_1268) (B.2.2.2.1 _ k_3) ⟨by decide +kernel, by decide +kernel, by decide +kernel⟩ rfl d_Weaver_op_7 rfl (Nat.le_of_ble_eq_true rfl) ⟨by decide, by decide⟩ ⟨by decide, by decide⟩ ⟨by decide, by decide⟩ (mv_noH hno _) (fun w7 σ7 h7 => ?_)
  obtain ⟨rfl, rfl, s_g5⟩ := h7
  have r_g5 : mv_r g5 = mv_r h := s_g5.trans rfl
  refine mv_pop (pc := 10) B d_Weaver_op_10 rfl ?_
  refine mv_aload_n (pc := 11) B d_Weaver_op_11 rfl 0 rfl ?_
  refine mv_getR (pc := 12) (ci := 1) (C := R_Weaver) (T := F_Weaver) (N := 16) B 0 rfl rfl (by decide) i_Weaver (B.2.2.2.1 _ k_228) rfl ((congrFun (congrFun r_g5 2) 0).trans (hb.1.1 2 0 _ rfl)) d_Weaver_op_12 ?_
  refine mv_iconst (pc := 15) (v := 3) B d_Weaver_op_15 (by decide) ?_
  obtain ⟨v8, g7, eg7, hf⟩ := xhb_e hf
  refine mv_callVi (pc := 16) (n := 1) (ci := 2) (C := R_Tokens) B (mK_ok sk sv) hNs rfl rfl (ch_Tokens_take l hi _ (xrw r_g5 hb.t) _ eg7) rfl (ma_goodc kc_Tokens_take) (B.2.2.2.1 _ k_1266) (B.2.2.2.1 _ k_1267) (B.2.2.2.1 _ k_1268) (B.2.2.2.1 _ k_3) ⟨by decide +kernel, by decide +kernel, by decide +kernel⟩ rfl d_Weaver_op_16 rfl (Nat.le_of_ble_eq_true rfl) ⟨by decide, by decide⟩ ⟨by decide, by decide⟩ ⟨by decide, by decide⟩ (mv_noH hno _) (fun w16 σ16 h16 => ?_)
  obtain ⟨rfl, rfl, s_g7⟩ := h16
  have r_g7 : mv_r g7 = mv_r h := s_g7.trans r_g5
  refine mv_istore_n (pc := 19) B d_Weaver_op_19 rfl (by decide) rfl ?_
  refine mv_aload_n (pc := 20) B d_Weaver_op_20 rfl 1 rfl ?_
  refine mv_getR (pc := 21) (ci := 1) (C := R_Weaver) (T := F_Weaver) (N := 16) B 0 rfl rfl (by decide) i_Weaver (B.2.2.2.1 _ k_228) rfl ((congrFun (congrFun r_g7 2) 0).trans (hb.1.1 2 0 _ rfl)) d_Weaver_op_21 ?_
  refine mv_iconst (pc := 24) (v := 5) B d_Weaver_op_24 (by decide) ?_
  obtain ⟨v10, g9, eg9, hf⟩ := xhb_e hf
  refine mv_callVi (pc := 25) (n := 1) (ci := 2) (C := R_Tokens) B (mK_ok sk sv) hNs rfl rfl (ch_Tokens_take l hi _ (xrw r_g7 hb.t) _ eg9) rfl (ma_goodc kc_Tokens_take) (B.2.2.2.1 _ k_1266) (B.2.2.2.1 _ k_1267) (B.2.2.2.1 _ k_1268) (B.2.2.2.1 _ k_3) ⟨by decide +kernel, by decide +kernel, by decide +kernel⟩ rfl d_Weaver_op_25 rfl (Nat.le_of_ble_eq_true rfl) ⟨by decide, by decide⟩ ⟨by decide, by decide⟩ ⟨by decide, by decide⟩ (mv_noH hno _) (fun w25 σ25 h25 => ?_)
  obtain ⟨rfl, rfl, s_g9⟩ := h25
  have r_g9 : mv_r g9 = mv_r h := s_g9.trans r_g7
  refine mv_istore_n (pc := 28) B d_Weaver_op_28 rfl (by decide) rfl ?_
  refine mv_aload_n (pc := 29) B d_Weaver_op_29 rfl 2 rfl ?_
  refine mv_sipush (pc := 30) (v := 206) B d_Weaver_op_30 (by decide) ?_
  refine mv_iconst (pc := 33) (v := -1) B d_Weaver_op_33 (by decide) ?_
  refine mv_iconst (pc := 34) (v := -1) B d_Weaver_op_34 (by decide) ?_
  obtain ⟨g11, eg11, hf⟩ := xhv_e hf
  refine mv_callVv (pc := 35) (n := 3) (ci := 1) (C := R_Weaver) B (mK_ok sk sv) hNs rfl rfl (ch_Weaver_openBlock l hi _ (xrw r_g9 hb.t) _ _ _ eg11) rfl (ma_goodc kc_Weaver_openBlock) (B.2.2.2.1 _ k_1345) (B.2.2.2.1 _ k_1347) (B.2.2.2.1 _ ks_41) (B.2.2.2.1 _ k_2) ⟨by decide +kernel, by decide +kernel, by decide +kernel⟩ rfl d_Weaver_op_35 rfl (Nat.le_of_ble_eq_true rfl) ⟨by decide, by decide⟩ ⟨by decide, by decide⟩ ⟨by decide, by decide⟩ (mv_noH hno _) (fun σ35 h35 => ?_)
  obtain ⟨rfl, s_g11⟩ := h35
  have r_g11 : mv_r g11 = mv_r h := s_g11.trans r_g9
  refine mv_aload_n (pc := 38) B d_Weaver_op_38 rfl 2 rfl ?_
  refine mv_getR (pc := 39) (ci := 1) (C := R_Weaver) (T := F_Weaver) (N := 16) B 0 rfl rfl (by decide) i_Weaver (B.2.2.2.1 _ k_228) rfl ((congrFun (congrFun r_g11 2) 0).trans (hb.1.1 2 0 _ rfl)) d_Weaver_op_39 ?_
  obtain ⟨v13, g12, eg12, hf⟩ := xhb_e hf
  refine mv_callVi (pc := 42) (n := 0) (ci := 2) (C := R_Tokens) B (mK_ok sk sv) hNs rfl rfl (ch_Tokens_right l hi _ eg12) rfl (ma_goodc kc_Tokens_right) (B.2.2.2.1 _ k_1291) (B.2.2.2.1 _ k_1292) (B.2.2.2.1 _ k_1293) (B.2.2.2.1 _ k_3) ⟨by decide +kernel, by decide +kernel, by decide +kernel⟩ rfl d_Weaver_op_42 rfl (Nat.le_of_ble_eq_true rfl) ⟨by decide, by decide⟩ ⟨by decide, by decide⟩ ⟨by decide, by decide⟩ (mv_noH hno _) (fun w42 σ42 h42 => ?_)
  obtain ⟨rfl, rfl, s_g12⟩ := h42
  have r_g12 : mv_r g12 = mv_r h := s_g12.trans r_g11
  refine mv_if_ne (pc := 45) (tgt := 49) B d_Weaver_op_45 rfl (fun h45 => ?_) (fun h45 => ?_)
  · skip
    have hf := xif_f h45 hf
    refine mv_aload_n (pc := 49) B d_Weaver_op_49 rfl 2 rfl ?_
    refine mv_iload_n (pc := 50) B d_Weaver_op_50 rfl 1 rfl ?_
    obtain ⟨v15, g14, eg14, hf⟩ := xhb_e hf
    refine mv_callVi (pc := 51) (n := 1) (ci := 1) (C := R_Weaver) B (mK_ok sk sv) hNs rfl rfl (ch_Weaver_symbolOf l hi _ (xrw r_g12 hb.t) _ eg14) rfl (ma_goodc kc_Weaver_symbolOf) (B.2.2.2.1 _ k_1312) (B.2.2.2.1 _ k_1314) (B.2.2.2.1 _ ks_37) (B.2.2.2.1 _ k_2) ⟨by decide +kernel, by decide +kernel, by decide +kernel⟩ rfl d_Weaver_op_51 rfl (Nat.le_of_ble_eq_true rfl) ⟨by decide, by decide⟩ ⟨by decide, by decide⟩ ⟨by decide, by decide⟩ (mv_noH hno _) (fun w51 σ51 h51 => ?_)
    obtain ⟨rfl, rfl, s_g14⟩ := h51
    have r_g14 : mv_r g14 = mv_r h := s_g14.trans r_g12
    refine mv_istore_n (pc := 54) B d_Weaver_op_54 rfl (by decide) rfl ?_
    refine mv_aload_n (pc := 55) B d_Weaver_op_55 rfl 3 rfl ?_
    refine mv_getR (pc := 56) (ci := 1) (C := R_Weaver) (T := F_Weaver) (N := 16) B 0 rfl rfl (by decide) i_Weaver (B.2.2.2.1 _ k_228) rfl ((congrFun (congrFun r_g14 2) 0).trans (hb.1.1 2 0 _ rfl)) d_Weaver_op_56 ?_
    refine mv_getR (pc := 59) (ci := 2) (C := R_Tokens) (T := F_Tokens) (N := 10) B 1 rfl rfl (by decide) i_Tokens (B.2.2.2.1 _ k_91) rfl ((congrFun (congrFun r_g14 3) 1).trans (hb.1.1 3 1 _ rfl)) d_Weaver_op_59 ?_
    refine mv_iload_n (pc := 62) B d_Weaver_op_62 rfl 1 rfl ?_
    obtain ⟨q16, hf⟩ := xvi_e hf
    refine mv_iald (pc := 63) B rfl q16 d_Weaver_op_63 ?_
    refine mv_iconst (pc := 64) (v := 1) B d_Weaver_op_64 (by decide) ?_
    refine mv_iadd (pc := 65) B d_Weaver_op_65 ?_
    refine mv_istore (pc := 66) B d_Weaver_op_66 (by decide) rfl ?_
    refine mv_aload_n (pc := 68) B d_Weaver_op_68 rfl 4 rfl ?_
    refine mv_getR (pc := 69) (ci := 1) (C := R_Weaver) (T := F_Weaver) (N := 16) B 0 rfl rfl (by decide) i_Weaver (B.2.2.2.1 _ k_228) rfl ((congrFun (congrFun r_g14 2) 0).trans (hb.1.1 2 0 _ rfl)) d_Weaver_op_69 ?_
    refine mv_getR (pc := 72) (ci := 2) (C := R_Tokens) (T := F_Tokens) (N := 10) B 2 rfl rfl (by decide) i_Tokens (B.2.2.2.1 _ k_94) rfl ((congrFun (congrFun r_g14 3) 2).trans (hb.1.1 3 2 _ rfl)) d_Weaver_op_72 ?_
    refine mv_iload_n (pc := 75) B d_Weaver_op_75 rfl 2 rfl ?_
    obtain ⟨q17, hf⟩ := xvi_e hf
    refine mv_lald (pc := 76) B rfl q17 d_Weaver_op_76 ?_
    refine mv_l2i (pc := 77) B d_Weaver_op_77 ?_
    refine mv_istore (pc := 78) B d_Weaver_op_78 (by decide) rfl ?_
    refine mv_aload_n (pc := 80) B d_Weaver_op_80 rfl 5 rfl ?_
    refine mv_getR (pc := 81) (ci := 1) (C := R_Weaver) (T := F_Weaver) (N := 16) B 1 rfl rfl (by decide) i_Weaver (B.2.2.2.1 _ k_229) rfl ((congrFun (congrFun r_g14 2) 1).trans (hb.1.1 2 1 _ rfl)) d_Weaver_op_81 ?_
    refine mv_getR (pc := 84) (ci := 4) (C := R_Names) (T := F_Names) (N := 10) B 3 rfl rfl (by decide) i_Names (B.2.2.2.1 _ k_140) rfl ((congrFun (congrFun r_g14 13) 3).trans (hb.1.1 13 3 _ rfl)) d_Weaver_op_84 ?_
    refine mv_iload_n (pc := 87) B d_Weaver_op_87 rfl 2 rfl ?_
    obtain ⟨q18, hf⟩ := xvi_e hf
    refine mv_bald (pc := 88) B rfl q18 d_Weaver_op_88 ?_
    refine mv_iconst (pc := 89) (v := 1) B d_Weaver_op_89 (by decide) ?_
    refine mv_icmp_ne (pc := 90) (tgt := 102) B d_Weaver_op_90 rfl (fun h90 => ?_) (fun h90 => ?_)
    · skip
      have hf := xif_f h90 hf
      refine mv_aload_n (pc := 102) B d_Weaver_op_102 rfl 5 rfl ?_
      refine mv_getR (pc := 103) (ci := 1) (C := R_Weaver) (T := F_Weaver) (N := 16) B 5 rfl rfl (by decide) i_Weaver (B.2.2.2.1 _ k_235) rfl ((congrFun (congrFun r_g14 2) 5).trans hb.1.2.2.1) d_Weaver_op_103 ?_
      refine mv_getI (pc := 106) (ci := 7) (C := R_Program) (T := F_Program) (N := 19) B 10 rfl rfl (by decide) i_Program (B.2.2.2.1 _ k_347) rfl d_Weaver_op_106 ?_
      refine mv_sipush (pc := 109) (v := 512) B d_Weaver_op_109 (by decide) ?_
      refine mv_icmp_ne (pc := 112) (tgt := 125) B d_Weaver_op_112 rfl (fun h112 => ?_) (fun h112 => ?_)
      · skip
        have hf := xif_f h112 hf
        refine mv_iload (pc := 125) B d_Weaver_op_125 0 rfl ?_
        refine mv_aload_n (pc := 127) B d_Weaver_op_127 rfl 5 rfl ?_
        refine mv_getR (pc := 128) (ci := 1) (C := R_Weaver) (T := F_Weaver) (N := 16) B 5 rfl rfl (by decide) i_Weaver (B.2.2.2.1 _ k_235) rfl ((congrFun (congrFun r_g14 2) 5).trans hb.1.2.2.1) d_Weaver_op_128 ?_
        refine mv_getI (pc := 131) (ci := 7) (C := R_Program) (T := F_Program) (N := 19) B 0 rfl rfl (by decide) i_Program (B.2.2.2.1 _ k_313) rfl d_Weaver_op_131 ?_
        refine mv_icmp_ne (pc := 134) (tgt := 153) B d_Weaver_op_134 rfl (fun h134 => ?_) (fun h134 => ?_)
        · skip
          have hf := xif_f h134 hf
          refine mv_lpick [5, 3, 2, 1, 0] rfl ?_
          exact jn153 _ _ _ _ _ r_g14 hf
        · skip
          have hf := xif_t h134 hf
          refine mv_aload_n (pc := 137) B d_Weaver_op_137 rfl 5 rfl ?_
          refine mv_getR (pc := 138) (ci := 1) (C := R_Weaver) (T := F_Weaver) (N := 16) B 5 rfl rfl (by decide) i_Weaver (B.2.2.2.1 _ k_235) rfl ((congrFun (congrFun r_g14 2) 5).trans hb.1.2.2.1) d_Weaver_op_138 ?_
          refine mv_aload_n (pc := 141) B d_Weaver_op_141 rfl 5 rfl ?_
          refine mv_getR (pc := 142) (ci := 1) (C := R_Weaver) (T := F_Weaver) (N := 16) B 0 rfl rfl (by decide) i_Weaver (B.2.2.2.1 _ k_228) rfl ((congrFun (congrFun r_g14 2) 0).trans (hb.1.1 2 0 _ rfl)) d_Weaver_op_142 ?_
          refine mv_getR (pc := 145) (ci := 2) (C := R_Tokens) (T := F_Tokens) (N := 10) B 4 rfl rfl (by decide) i_Tokens (B.2.2.2.1 _ k_99) rfl ((congrFun (congrFun r_g14 3) 4).trans hb.2) d_Weaver_op_145 ?_
          refine mv_iload (pc := 148) B d_Weaver_op_148 1 rfl ?_
          obtain ⟨g19, eg19, hf⟩ := xhv_e hf
          refine mv_callVv (pc := 150) (n := 2) (ci := 7) (C := R_Program) B (mK_ok sk sv) hNs rfl rfl (ch_Program_addOp_a l hi _ (xrw r_g14 hb) _ eg19) rfl (ma_goodc kc_Program_addOp) (B.2.2.2.1 _ k_1354) (B.2.2.2.1 _ k_1355) (B.2.2.2.1 _ k_1356) (B.2.2.2.1 _ k_8) ⟨by decide +kernel, by decide +kernel, by decide +kernel⟩ rfl d_Weaver_op_150 rfl (Nat.le_of_ble_eq_true rfl) ⟨by decide, by decide⟩ ⟨by decide, by decide⟩ ⟨by decide, by decide⟩ (mv_noH hno _) (fun σ150 h150 => ?_)
          obtain ⟨rfl, s_g19⟩ := h150
          have r_g19 : mv_r g19 = mv_r h := s_g19.trans r_g14
          refine mv_lpick [5, 3, 2, 1, 0] rfl ?_
          exact jn153 _ _ _ _ _ r_g19 hf
      · skip
        have hf := xif_t h112 hf
        refine mv_aload_n (pc := 115) B d_Weaver_op_115 rfl 5 rfl ?_
        refine mv_iload_n (pc := 116) B d_Weaver_op_116 rfl 4 rfl ?_
        refine mv_bipush (pc := 117) (v := 6) B d_Weaver_op_117 (by decide) ?_
        obtain ⟨g20, eg20, hf⟩ := xhv_e hf
        refine mv_callVv (pc := 119) (n := 2) (ci := 1) (C := R_Weaver) B (mK_ok sk sv) hNs rfl rfl (ch_Weaver_tell l hi _ (xrw r_g14 hb.t) _ _ eg20) rfl (ma_goodc kc_Weaver_tell) (B.2.2.2.1 _ k_1282) (B.2.2.2.1 _ k_1284) (B.2.2.2.1 _ ks_32) (B.2.2.2.1 _ k_2) ⟨by decide +kernel, by decide +kernel, by decide +kernel⟩ rfl d_Weaver_op_119 rfl (Nat.le_of_ble_eq_true rfl) ⟨by decide, by decide⟩ ⟨by decide, by decide⟩ ⟨by decide, by decide⟩ (mv_noH hno _) (fun σ119 h119 => ?_)
        obtain ⟨rfl, s_g20⟩ := h119
        have r_g20 : mv_r g20 = mv_r h := s_g20.trans r_g14
        refine mv_goto (pc := 122) (tgt := 153) B d_Weaver_op_122 rfl ?_
        refine mv_lpick [5, 3, 2, 1, 0] rfl ?_
        exact jn153 _ _ _ _ _ r_g20 hf
    · skip
      have hf := xif_t h90 hf
      refine mv_aload_n (pc := 93) B d_Weaver_op_93 rfl 5 rfl ?_
      refine mv_iload_n (pc := 94) B d_Weaver_op_94 rfl 4 rfl ?_
      refine mv_iconst (pc := 95) (v := 2) B d_Weaver_op_95 (by decide) ?_
      obtain ⟨g21, eg21, hf⟩ := xhv_e hf
      refine mv_callVv (pc := 96) (n := 2) (ci := 1) (C := R_Weaver) B (mK_ok sk sv) hNs rfl rfl (ch_Weaver_tell l hi _ (xrw r_g14 hb.t) _ _ eg21) rfl (ma_goodc kc_Weaver_tell) (B.2.2.2.1 _ k_1282) (B.2.2.2.1 _ k_1284) (B.2.2.2.1 _ ks_32) (B.2.2.2.1 _ k_2) ⟨by decide +kernel, by decide +kernel, by decide +kernel⟩ rfl d_Weaver_op_96 rfl (Nat.le_of_ble_eq_true rfl) ⟨by decide, by decide⟩ ⟨by decide, by decide⟩ ⟨by decide, by decide⟩ (mv_noH hno _) (fun σ96 h96 => ?_)
      obtain ⟨rfl, s_g21⟩ := h96
      have r_g21 : mv_r g21 = mv_r h := s_g21.trans r_g14
      refine mv_goto (pc := 99) (tgt := 153) B d_Weaver_op_99 rfl ?_
      refine mv_lpick [5, 3, 2, 1, 0] rfl ?_
      exact jn153 _ _ _ _ _ r_g21 hf
  · skip
    have hf := xif_t h45 hf
    exact mv_vret (pc := 48) B hr d_Weaver_op_48 (Nat.le_refl _) (Nat.le_refl _) ⟨rfl, xrh_v hf r_g12⟩
set_option maxHeartbeats 4000000 in
set_option maxRecDepth 100000 in
theorem ch_Weaver_op_b (l : Launch) {dA : FieldType → ClassId} {D : va_G} {al : Nat → Nat} {ext : mv_Sh} {sk sv : Nat → Nat} (hi : mv_inj (mg dA D al ext)) (h : mv_H) (hb : xRP 48 (mv_r h))  {rg : mv_H} (hf : f_Weaver_op 48 h = some rg) : mv_C l y_Weaver_op (Cond.code y_Weaver_op b_Weaver_op 6 (Option.none : Option Jvm.ClassFile.FieldType) :: ma) ({ frames := 4, cells := 0, slots := 0, locals := 86 }) (mg dA D al ext) (mK sk sv) [.ref (al 2)] h (mv_Rv (fun σ1 => rg = σ1 ∧ mv_r σ1 = mv_r h)) := by
  refine mv_C.ofV (cc := b_Weaver_op) (nL := 6) (ret := (Option.none : Option Jvm.ClassFile.FieldType)) (by decide +kernel) rfl hi (Nat.le_of_ble_eq_true rfl) ?_
  intro p e s m below meth c B hNs hr hnm hno
  have jn171 : ∀ (x3 : Int32) (x4 : Int32) (x5 : Int32) (hz : mv_H), mv_r hz = mv_r h → f_Weaver_op_171 48 x3 x4 x5 hz = some rg → mv_V p l e ({ frames := 4, cells := 0, slots := 0, locals := 86 }) s m ([.ref (al 2)] : List Value).toArray below meth c (mg dA D al ext) 6 0 0 (mv_Q (mg dA D al ext) below s 0 0 (mv_Rv (fun σ1 => rg = σ1 ∧ mv_r σ1 = mv_r h))) hz 171 [(0, .ref (al 2)), (3, .int x3), (4, .int x4), (5, .int x5)] [] := by
    intro x3 x4 x5 hz r_hz hf
    unfold f_Weaver_op_171 at hf
    refine mv_aload_n (pc := 171) B d_Weaver_op_171 rfl 0 rfl ?_
    refine mv_getR (pc := 172) (ci := 1) (C := R_Weaver) (T := F_Weaver) (N := 16) B 1 rfl rfl (by decide) i_Weaver (B.2.2.2.1 _ k_229) rfl ((congrFun (congrFun r_hz 2) 1).trans (hb.1.1 2 1 _ rfl)) d_Weaver_op_172 ?_
    refine mv_getR (pc := 175) (ci := 4) (C := R_Names) (T := F_Names) (N := 10) B 3 rfl rfl (by decide) i_Names (B.2.2.2.1 _ k_140) rfl ((congrFun (congrFun r_hz 13) 3).trans (hb.1.1 13 3 _ rfl)) d_Weaver_op_175 ?_
    refine mv_iload_n (pc := 178) B d_Weaver_op_178 rfl 1 rfl ?_
    refine mv_iconst (pc := 179) (v := 1) B d_Weaver_op_179 (by decide) ?_
    obtain ⟨q1, hf⟩ := xvi_e hf
    refine mv_bast (pc := 180) B rfl q1 d_Weaver_op_180 ?_
    refine mvh_hp (R9 := mv_r h) hf r_hz (fun g2 hf r_g2 => ?_)
    refine mv_aload_n (pc := 181) B d_Weaver_op_181 rfl 0 rfl ?_
    refine mv_getR (pc := 182) (ci := 1) (C := R_Weaver) (T := F_Weaver) (N := 16) B 1 rfl rfl (by decide) i_Weaver (B.2.2.2.1 _ k_229) rfl ((congrFun (congrFun r_g2 2) 1).trans (hb.1.1 2 1 _ rfl)) d_Weaver_op_182 ?_
    refine mv_aload_n (pc := 185) B d_Weaver_op_185 rfl 0 rfl ?_
    refine mv_getR (pc := 186) (ci := 1) (C := R_Weaver) (T := F_Weaver) (N := 16) B 0 rfl rfl (by decide) i_Weaver (B.2.2.2.1 _ k_228) rfl ((congrFun (congrFun r_g2 2) 0).trans (hb.1.1 2 0 _ rfl)) d_Weaver_op_186 ?_
    refine mv_getR (pc := 189) (ci := 2) (C := R_Tokens) (T := F_Tokens) (N := 10) B 4 rfl rfl (by decide) i_Tokens (B.2.2.2.1 _ k_99) rfl ((congrFun (congrFun r_g2 3) 4).trans hb.2) d_Weaver_op_189 ?_
    refine mv_iload (pc := 192) B d_Weaver_op_192 2 rfl ?_
    refine mv_iload (pc := 194) B d_Weaver_op_194 3 rfl ?_
    refine mv_aload_n (pc := 196) B d_Weaver_op_196 rfl 0 rfl ?_
    refine mv_getR (pc := 197) (ci := 1) (C := R_Weaver) (T := F_Weaver) (N := 16) B 5 rfl rfl (by decide) i_Weaver (B.2.2.2.1 _ k_235) rfl ((congrFun (congrFun r_g2 2) 5).trans hb.1.2.2.1) d_Weaver_op_197 ?_
    refine mv_getI (pc := 200) (ci := 7) (C := R_Program) (T := F_Program) (N := 19) B 0 rfl rfl (by decide) i_Program (B.2.2.2.1 _ k_313) rfl d_Weaver_op_200 ?_
    obtain ⟨g3, eg3, hf⟩ := xhv_e hf
    refine mv_callVv (pc := 203) (n := 4) (ci := 4) (C := R_Names) B (mK_ok sk sv) hNs rfl rfl (ch_Names_enterOp l hi _ (xrw r_g2 hb.t) _ _ _ eg3) rfl (ma_goodc kc_Names_enterOp) (B.2.2.2.1 _ k_1358) (B.2.2.2.1 _ k_1359) (B.2.2.2.1 _ k_1360) (B.2.2.2.1 _ k_5) ⟨by decide +kernel, by decide +kernel, by decide +kernel⟩ rfl d_Weaver_op_203 rfl (Nat.le_of_ble_eq_true rfl) ⟨by decide, by decide⟩ ⟨by decide, by decide⟩ ⟨by decide, by decide⟩ (mv_noH hno _) (fun σ203 h203 => ?_)
    obtain ⟨rfl, s_g3⟩ := h203
    have r_g3 : mv_r g3 = mv_r h := s_g3.trans r_g2
    exact mv_vret (pc := 206) B hr d_Weaver_op_206 (Nat.le_refl _) (Nat.le_refl _) ⟨rfl, xrh_v hf r_g3⟩
  have jn153 : ∀ (x2 : Int32) (x3 : Int32) (x4 : Int32) (x5 : Int32) (hz : mv_H), mv_r hz = mv_r h → f_Weaver_op_153 48 x2 x3 x4 x5 hz = some rg → mv_V p l e ({ frames := 4, cells := 0, slots := 0, locals := 86 }) s m ([.ref (al 2)] : List Value).toArray below meth c (mg dA D al ext) 6 0 0 (mv_Q (mg dA D al ext) below s 0 0 (mv_Rv (fun σ1 => rg = σ1 ∧ mv_r σ1 = mv_r h))) hz 153 [(0, .ref (al 2)), (2, .int x2), (3, .int x3), (4, .int x4), (5, .int x5)] [] := by
    intro x2 x3 x4 x5 hz r_hz hf
    unfold f_Weaver_op_153 at hf
    refine mv_iload (pc := 153) B d_Weaver_op_153 4 rfl ?_
    refine mv_aload_n (pc := 155) B d_Weaver_op_155 rfl 0 rfl ?_
    refine mv_getR (pc := 156) (ci := 1) (C := R_Weaver) (T := F_Weaver) (N := 16) B 5 rfl rfl (by decide) i_Weaver (B.2.2.2.1 _ k_235) rfl ((congrFun (congrFun r_hz 2) 5).trans hb.1.2.2.1) d_Weaver_op_156 ?_
    refine mv_getI (pc := 159) (ci := 7) (C := R_Program) (T := F_Program) (N := 19) B 0 rfl rfl (by decide) i_Program (B.2.2.2.1 _ k_313) rfl d_Weaver_op_159 ?_
    refine mv_icmp_eq (pc := 162) (tgt := 171) B d_Weaver_op_162 rfl (fun h162 => ?_) (fun h162 => ?_)
    · skip
      have hf := xif_t h162 hf
      refine mv_lpick [0, 2, 3, 4] rfl ?_
      exact jn171 _ _ _ _ r_hz hf
    · skip
      have hf := xif_f h162 hf
      refine mv_aload_n (pc := 165) B d_Weaver_op_165 rfl 0 rfl ?_
      refine mv_iload_n (pc := 166) B d_Weaver_op_166 rfl 1 rfl ?_
      refine mv_iconst (pc := 167) (v := 5) B d_Weaver_op_167 (by decide) ?_
      obtain ⟨g4, eg4, hf⟩ := xhv_e hf
      refine mv_callVv (pc := 168) (n := 2) (ci := 1) (C := R_Weaver) B (mK_ok sk sv) hNs rfl rfl (ch_Weaver_tell l hi _ (xrw r_hz hb.t) _ _ eg4) rfl (ma_goodc kc_Weaver_tell) (B.2.2.2.1 _ k_1282) (B.2.2.2.1 _ k_1284) (B.2.2.2.1 _ ks_32) (B.2.2.2.1 _ k_2) ⟨by decide +kernel, by decide +kernel, by decide +kernel⟩ rfl d_Weaver_op_168 rfl (Nat.le_of_ble_eq_true rfl) ⟨by decide, by decide⟩ ⟨by decide, by decide⟩ ⟨by decide, by decide⟩ (mv_noH hno _) (fun σ168 h168 => ?_)
      obtain ⟨rfl, s_g4⟩ := h168
      have r_g4 : mv_r g4 = mv_r h := s_g4.trans r_hz
      refine mv_lpick [0, 2, 3, 4] rfl ?_
      exact jn171 _ _ _ _ r_g4 hf
  unfold f_Weaver_op at hf
  refine mv_aload_n (pc := 0) B d_Weaver_op_0 rfl 0 rfl ?_
  refine mv_getR (pc := 1) (ci := 1) (C := R_Weaver) (T := F_Weaver) (N := 16) B 0 rfl rfl (by decide) i_Weaver (B.2.2.2.1 _ k_228) rfl (hb.1.1 2 0 _ rfl) d_Weaver_op_1 ?_
  refine mv_sipush (pc := 4) (v := 206) B d_Weaver_op_4 (by decide) ?_
  obtain ⟨v6, g5, eg5, hf⟩ := xhb_e hf
  refine mv_callVi (pc := 7) (n := 1) (ci := 2) (C := R_Tokens) B (mK_ok sk sv) hNs rfl rfl (ch_Tokens_take l hi _ (hb.t) _ eg5) rfl (ma_goodc kc_Tokens_take) (B.2.2.2.1 _ k_1266) (B.2.2.2.1 _ k_1267) (B.2.2.2.1 _ k_1268) (B.2.2.2.1 _ k_3) ⟨by decide +kernel, by decide +kernel, by decide +kernel⟩ rfl d_Weaver_op_7 rfl (Nat.le_of_ble_eq_true rfl) ⟨by decide, by decide⟩ ⟨by decide, by decide⟩ ⟨by decide, by decide⟩ (mv_noH hno _) (fun w7 σ7 h7 => ?_)
  obtain ⟨rfl, rfl, s_g5⟩ := h7
  have r_g5 : mv_r g5 = mv_r h := s_g5.trans rfl
  refine mv_pop (pc := 10) B d_Weaver_op_10 rfl ?_
  refine mv_aload_n (pc := 11) B d_Weaver_op_11 rfl 0 rfl ?_
  refine mv_getR (pc := 12) (ci := 1) (C := R_Weaver) (T := F_Weaver) (N := 16) B 0 rfl rfl (by decide) i_Weaver (B.2.2.2.1 _ k_228) rfl ((congrFun (congrFun r_g5 2) 0).trans (hb.1.1 2 0 _ rfl)) d_Weaver_op_12 ?_
  refine mv_iconst (pc := 15) (v := 3) B d_Weaver_op_15 (by decide) ?_
  obtain ⟨v8, g7, eg7, hf⟩ := xhb_e hf
  refine mv_callVi (pc := 16) (n := 1) (ci := 2) (C := R_Tokens) B (mK_ok sk sv) hNs rfl rfl (ch_Tokens_take l hi _ (xrw r_g5 hb.t) _ eg7) rfl (ma_goodc kc_Tokens_take) (B.2.2.2.1 _ k_1266) (B.2.2.2.1 _ k_1267) (B.2.2.2.1 _ k_1268) (B.2.2.2.1 _ k_3) ⟨by decide +kernel, by decide +kernel, by decide +kernel⟩ rfl d_Weaver_op_16 rfl (Nat.le_of_ble_eq_true rfl) ⟨by decide, by decide⟩ ⟨by decide, by decide⟩ ⟨by decide, by decide⟩ (mv_noH hno _) (fun w16 σ16 h16 => ?_)
  obtain ⟨rfl, rfl, s_g7⟩ := h16
  have r_g7 : mv_r g7 = mv_r h := s_g7.trans r_g5
  refine mv_istore_n (pc := 19) B d_Weaver_op_19 rfl (by decide) rfl ?_
  refine mv_aload_n (pc := 20) B d_Weaver_op_20 rfl 1 rfl ?_
  refine mv_getR (pc := 21) (ci := 1) (C := R_Weaver) (T := F_Weaver) (N := 16) B 0 rfl rfl (by decide) i_Weaver (B.2.2.2.1 _ k_228) rfl ((congrFun (congrFun r_g7 2) 0).trans (hb.1.1 2 0 _ rfl)) d_Weaver_op_21 ?_
  refine mv_iconst (pc := 24) (v := 5) B d_Weaver_op_24 (by decide) ?_
  obtain ⟨v10, g9, eg9, hf⟩ := xhb_e hf
  refine mv_callVi (pc := 25) (n := 1) (ci := 2) (C := R_Tokens) B (mK_ok sk sv) hNs rfl rfl (ch_Tokens_take l hi _ (xrw r_g7 hb.t) _ eg9) rfl (ma_goodc kc_Tokens_take) (B.2.2.2.1 _ k_1266) (B.2.2.2.1 _ k_1267) (B.2.2.2.1 _ k_1268) (B.2.2.2.1 _ k_3) ⟨by decide +kernel, by decide +kernel, by decide +kernel⟩ rfl d_Weaver_op_25 rfl (Nat.le_of_ble_eq_true rfl) ⟨by decide, by decide⟩ ⟨by decide, by decide⟩ ⟨by decide, by decide⟩ (mv_noH hno _) (fun w25 σ25 h25 => ?_)
  obtain ⟨rfl, rfl, s_g9⟩ := h25
  have r_g9 : mv_r g9 = mv_r h := s_g9.trans r_g7
  refine mv_istore_n (pc := 28) B d_Weaver_op_28 rfl (by decide) rfl ?_
  refine mv_aload_n (pc := 29) B d_Weaver_op_29 rfl 2 rfl ?_
  refine mv_sipush (pc := 30) (v := 206) B d_Weaver_op_30 (by decide) ?_
  refine mv_iconst (pc := 33) (v := -1) B d_Weaver_op_33 (by decide) ?_
  refine mv_iconst (pc := 34) (v := -1) B d_Weaver_op_34 (by decide) ?_
  obtain ⟨g11, eg11, hf⟩ := xhv_e hf
  refine mv_callVv (pc := 35) (n := 3) (ci := 1) (C := R_Weaver) B (mK_ok sk sv) hNs rfl rfl (ch_Weaver_openBlock l hi _ (xrw r_g9 hb.t) _ _ _ eg11) rfl (ma_goodc kc_Weaver_openBlock) (B.2.2.2.1 _ k_1345) (B.2.2.2.1 _ k_1347) (B.2.2.2.1 _ ks_41) (B.2.2.2.1 _ k_2) ⟨by decide +kernel, by decide +kernel, by decide +kernel⟩ rfl d_Weaver_op_35 rfl (Nat.le_of_ble_eq_true rfl) ⟨by decide, by decide⟩ ⟨by decide, by decide⟩ ⟨by decide, by decide⟩ (mv_noH hno _) (fun σ35 h35 => ?_)
  obtain ⟨rfl, s_g11⟩ := h35
  have r_g11 : mv_r g11 = mv_r h := s_g11.trans r_g9
  refine mv_aload_n (pc := 38) B d_Weaver_op_38 rfl 2 rfl ?_
  refine mv_getR (pc := 39) (ci := 1) (C := R_Weaver) (T := F_Weaver) (N := 16) B 0 rfl rfl (by decide) i_Weaver (B.2.2.2.1 _ k_228) rfl ((congrFun (congrFun r_g11 2) 0).trans (hb.1.1 2 0 _ rfl)) d_Weaver_op_39 ?_
  obtain ⟨v13, g12, eg12, hf⟩ := xhb_e hf
  refine mv_callVi (pc := 42) (n := 0) (ci := 2) (C := R_Tokens) B (mK_ok sk sv) hNs rfl rfl (ch_Tokens_right l hi _ eg12) rfl (ma_goodc kc_Tokens_right) (B.2.2.2.1 _ k_1291) (B.2.2.2.1 _ k_1292) (B.2.2.2.1 _ k_1293) (B.2.2.2.1 _ k_3) ⟨by decide +kernel, by decide +kernel, by decide +kernel⟩ rfl d_Weaver_op_42 rfl (Nat.le_of_ble_eq_true rfl) ⟨by decide, by decide⟩ ⟨by decide, by decide⟩ ⟨by decide, by decide⟩ (mv_noH hno _) (fun w42 σ42 h42 => ?_)
  obtain ⟨rfl, rfl, s_g12⟩ := h42
  have r_g12 : mv_r g12 = mv_r h := s_g12.trans r_g11
  refine mv_if_ne (pc := 45) (tgt := 49) B d_Weaver_op_45 rfl (fun h45 => ?_) (fun h45 => ?_)
  · skip
    have hf := xif_f h45 hf
    refine mv_aload_n (pc := 49) B d_Weaver_op_49 rfl 2 rfl ?_
    refine mv_iload_n (pc := 50) B d_Weaver_op_50 rfl 1 rfl ?_
    obtain ⟨v15, g14, eg14, hf⟩ := xhb_e hf
    refine mv_callVi (pc := 51) (n := 1) (ci := 1) (C := R_Weaver) B (mK_ok sk sv) hNs rfl rfl (ch_Weaver_symbolOf l hi _ (xrw r_g12 hb.t) _ eg14) rfl (ma_goodc kc_Weaver_symbolOf) (B.2.2.2.1 _ k_1312) (B.2.2.2.1 _ k_1314) (B.2.2.2.1 _ ks_37) (B.2.2.2.1 _ k_2) ⟨by decide +kernel, by decide +kernel, by decide +kernel⟩ rfl d_Weaver_op_51 rfl (Nat.le_of_ble_eq_true rfl) ⟨by decide, by decide⟩ ⟨by decide, by decide⟩ ⟨by decide, by decide⟩ (mv_noH hno _) (fun w51 σ51 h51 => ?_)
    obtain ⟨rfl, rfl, s_g14⟩ := h51
    have r_g14 : mv_r g14 = mv_r h := s_g14.trans r_g12
    refine mv_istore_n (pc := 54) B d_Weaver_op_54 rfl (by decide) rfl ?_
    refine mv_aload_n (pc := 55) B d_Weaver_op_55 rfl 3 rfl ?_
    refine mv_getR (pc := 56) (ci := 1) (C := R_Weaver) (T := F_Weaver) (N := 16) B 0 rfl rfl (by decide) i_Weaver (B.2.2.2.1 _ k_228) rfl ((congrFun (congrFun r_g14 2) 0).trans (hb.1.1 2 0 _ rfl)) d_Weaver_op_56 ?_
    refine mv_getR (pc := 59) (ci := 2) (C := R_Tokens) (T := F_Tokens) (N := 10) B 1 rfl rfl (by decide) i_Tokens (B.2.2.2.1 _ k_91) rfl ((congrFun (congrFun r_g14 3) 1).trans (hb.1.1 3 1 _ rfl)) d_Weaver_op_59 ?_
    refine mv_iload_n (pc := 62) B d_Weaver_op_62 rfl 1 rfl ?_
    obtain ⟨q16, hf⟩ := xvi_e hf
    refine mv_iald (pc := 63) B rfl q16 d_Weaver_op_63 ?_
    refine mv_iconst (pc := 64) (v := 1) B d_Weaver_op_64 (by decide) ?_
    refine mv_iadd (pc := 65) B d_Weaver_op_65 ?_
    refine mv_istore (pc := 66) B d_Weaver_op_66 (by decide) rfl ?_
    refine mv_aload_n (pc := 68) B d_Weaver_op_68 rfl 4 rfl ?_
    refine mv_getR (pc := 69) (ci := 1) (C := R_Weaver) (T := F_Weaver) (N := 16) B 0 rfl rfl (by decide) i_Weaver (B.2.2.2.1 _ k_228) rfl ((congrFun (congrFun r_g14 2) 0).trans (hb.1.1 2 0 _ rfl)) d_Weaver_op_69 ?_
    refine mv_getR (pc := 72) (ci := 2) (C := R_Tokens) (T := F_Tokens) (N := 10) B 2 rfl rfl (by decide) i_Tokens (B.2.2.2.1 _ k_94) rfl ((congrFun (congrFun r_g14 3) 2).trans (hb.1.1 3 2 _ rfl)) d_Weaver_op_72 ?_
    refine mv_iload_n (pc := 75) B d_Weaver_op_75 rfl 2 rfl ?_
    obtain ⟨q17, hf⟩ := xvi_e hf
    refine mv_lald (pc := 76) B rfl q17 d_Weaver_op_76 ?_
    refine mv_l2i (pc := 77) B d_Weaver_op_77 ?_
    refine mv_istore (pc := 78) B d_Weaver_op_78 (by decide) rfl ?_
    refine mv_aload_n (pc := 80) B d_Weaver_op_80 rfl 5 rfl ?_
    refine mv_getR (pc := 81) (ci := 1) (C := R_Weaver) (T := F_Weaver) (N := 16) B 1 rfl rfl (by decide) i_Weaver (B.2.2.2.1 _ k_229) rfl ((congrFun (congrFun r_g14 2) 1).trans (hb.1.1 2 1 _ rfl)) d_Weaver_op_81 ?_
    refine mv_getR (pc := 84) (ci := 4) (C := R_Names) (T := F_Names) (N := 10) B 3 rfl rfl (by decide) i_Names (B.2.2.2.1 _ k_140) rfl ((congrFun (congrFun r_g14 13) 3).trans (hb.1.1 13 3 _ rfl)) d_Weaver_op_84 ?_
    refine mv_iload_n (pc := 87) B d_Weaver_op_87 rfl 2 rfl ?_
    obtain ⟨q18, hf⟩ := xvi_e hf
    refine mv_bald (pc := 88) B rfl q18 d_Weaver_op_88 ?_
    refine mv_iconst (pc := 89) (v := 1) B d_Weaver_op_89 (by decide) ?_
    refine mv_icmp_ne (pc := 90) (tgt := 102) B d_Weaver_op_90 rfl (fun h90 => ?_) (fun h90 => ?_)
    · skip
      have hf := xif_f h90 hf
      refine mv_aload_n (pc := 102) B d_Weaver_op_102 rfl 5 rfl ?_
      refine mv_getR (pc := 103) (ci := 1) (C := R_Weaver) (T := F_Weaver) (N := 16) B 5 rfl rfl (by decide) i_Weaver (B.2.2.2.1 _ k_235) rfl ((congrFun (congrFun r_g14 2) 5).trans hb.1.2.2.1) d_Weaver_op_103 ?_
      refine mv_getI (pc := 106) (ci := 7) (C := R_Program) (T := F_Program) (N := 19) B 10 rfl rfl (by decide) i_Program (B.2.2.2.1 _ k_347) rfl d_Weaver_op_106 ?_
      refine mv_sipush (pc := 109) (v := 512) B d_Weaver_op_109 (by decide) ?_
      refine mv_icmp_ne (pc := 112) (tgt := 125) B d_Weaver_op_112 rfl (fun h112 => ?_) (fun h112 => ?_)
      · skip
        have hf := xif_f h112 hf
        refine mv_iload (pc := 125) B d_Weaver_op_125 0 rfl ?_
        refine mv_aload_n (pc := 127) B d_Weaver_op_127 rfl 5 rfl ?_
        refine mv_getR (pc := 128) (ci := 1) (C := R_Weaver) (T := F_Weaver) (N := 16) B 5 rfl rfl (by decide) i_Weaver (B.2.2.2.1 _ k_235) rfl ((congrFun (congrFun r_g14 2) 5).trans hb.1.2.2.1) d_Weaver_op_128 ?_
        refine mv_getI (pc := 131) (ci := 7) (C := R_Program) (T := F_Program) (N := 19) B 0 rfl rfl (by decide) i_Program (B.2.2.2.1 _ k_313) rfl d_Weaver_op_131 ?_
        refine mv_icmp_ne (pc := 134) (tgt := 153) B d_Weaver_op_134 rfl (fun h134 => ?_) (fun h134 => ?_)
        · skip
          have hf := xif_f h134 hf
          refine mv_lpick [5, 3, 2, 1, 0] rfl ?_
          exact jn153 _ _ _ _ _ r_g14 hf
        · skip
          have hf := xif_t h134 hf
          refine mv_aload_n (pc := 137) B d_Weaver_op_137 rfl 5 rfl ?_
          refine mv_getR (pc := 138) (ci := 1) (C := R_Weaver) (T := F_Weaver) (N := 16) B 5 rfl rfl (by decide) i_Weaver (B.2.2.2.1 _ k_235) rfl ((congrFun (congrFun r_g14 2) 5).trans hb.1.2.2.1) d_Weaver_op_138 ?_
          refine mv_aload_n (pc := 141) B d_Weaver_op_141 rfl 5 rfl ?_
          refine mv_getR (pc := 142) (ci := 1) (C := R_Weaver) (T := F_Weaver) (N := 16) B 0 rfl rfl (by decide) i_Weaver (B.2.2.2.1 _ k_228) rfl ((congrFun (congrFun r_g14 2) 0).trans (hb.1.1 2 0 _ rfl)) d_Weaver_op_142 ?_
          refine mv_getR (pc := 145) (ci := 2) (C := R_Tokens) (T := F_Tokens) (N := 10) B 4 rfl rfl (by decide) i_Tokens (B.2.2.2.1 _ k_99) rfl ((congrFun (congrFun r_g14 3) 4).trans hb.2) d_Weaver_op_145 ?_
          refine mv_iload (pc := 148) B d_Weaver_op_148 1 rfl ?_
          obtain ⟨g19, eg19, hf⟩ := xhv_e hf
          refine mv_callVv (pc := 150) (n := 2) (ci := 7) (C := R_Program) B (mK_ok sk sv) hNs rfl rfl (ch_Program_addOp_b l hi _ (xrw r_g14 hb) _ eg19) rfl (ma_goodc kc_Program_addOp) (B.2.2.2.1 _ k_1354) (B.2.2.2.1 _ k_1355) (B.2.2.2.1 _ k_1356) (B.2.2.2.1 _ k_8) ⟨by decide +kernel, by decide +kernel, by decide +kernel⟩ rfl d_Weaver_op_150 rfl (Nat.le_of_ble_eq_true rfl) ⟨by decide, by decide⟩ ⟨by decide, by decide⟩ ⟨by decide, by decide⟩ (mv_noH hno _) (fun σ150 h150 => ?_)
          obtain ⟨rfl, s_g19⟩ := h150
          have r_g19 : mv_r g19 = mv_r h := s_g19.trans r_g14
          refine mv_lpick [5, 3, 2, 1, 0] rfl ?_
          exact jn153 _ _ _ _ _ r_g19 hf
      · skip
        have hf := xif_t h112 hf
        refine mv_aload_n (pc := 115) B d_Weaver_op_115 rfl 5 rfl ?_
        refine mv_iload_n (pc := 116) B d_Weaver_op_116 rfl 4 rfl ?_
        refine mv_bipush (pc := 117) (v := 6) B d_Weaver_op_117 (by decide) ?_
        obtain ⟨g20, eg20, hf⟩ := xhv_e hf
        refine mv_callVv (pc := 119) (n := 2) (ci := 1) (C := R_Weaver) B (mK_ok sk sv) hNs rfl rfl (ch_Weaver_tell l hi _ (xrw r_g14 hb.t) _ _ eg20) rfl (ma_goodc kc_Weaver_tell) (B.2.2.2.1 _ k_1282) (B.2.2.2.1 _ k_1284) (B.2.2.2.1 _ ks_32) (B.2.2.2.1 _ k_2) ⟨by decide +kernel, by decide +kernel, by decide +kernel⟩ rfl d_Weaver_op_119 rfl (Nat.le_of_ble_eq_true rfl) ⟨by decide, by decide⟩ ⟨by decide, by decide⟩ ⟨by decide, by decide⟩ (mv_noH hno _) (fun σ119 h119 => ?_)
        obtain ⟨rfl, s_g20⟩ := h119
        have r_g20 : mv_r g20 = mv_r h := s_g20.trans r_g14
        refine mv_goto (pc := 122) (tgt := 153) B d_Weaver_op_122 rfl ?_
        refine mv_lpick [5, 3, 2, 1, 0] rfl ?_
        exact jn153 _ _ _ _ _ r_g20 hf
    · skip
      have hf := xif_t h90 hf
      refine mv_aload_n (pc := 93) B d_Weaver_op_93 rfl 5 rfl ?_
      refine mv_iload_n (pc := 94) B d_Weaver_op_94 rfl 4 rfl ?_
      refine mv_iconst (pc := 95) (v := 2) B d_Weaver_op_95 (by decide) ?_
      obtain ⟨g21, eg21, hf⟩ := xhv_e hf
      refine mv_callVv (pc := 96) (n := 2) (ci := 1) (C := R_Weaver) B (mK_ok sk sv) hNs rfl rfl (ch_Weaver_tell l hi _ (xrw r_g14 hb.t) _ _ eg21) rfl (ma_goodc kc_Weaver_tell) (B.2.2.2.1 _ k_1282) (B.2.2.2.1 _ k_1284) (B.2.2.2.1 _ ks_32) (B.2.2.2.1 _ k_2) ⟨by decide +kernel, by decide +kernel, by decide +kernel⟩ rfl d_Weaver_op_96 rfl (Nat.le_of_ble_eq_true rfl) ⟨by decide, by decide⟩ ⟨by decide, by decide⟩ ⟨by decide, by decide⟩ (mv_noH hno _) (fun σ96 h96 => ?_)
      obtain ⟨rfl, s_g21⟩ := h96
      have r_g21 : mv_r g21 = mv_r h := s_g21.trans r_g14
      refine mv_goto (pc := 99) (tgt := 153) B d_Weaver_op_99 rfl ?_
      refine mv_lpick [5, 3, 2, 1, 0] rfl ?_
      exact jn153 _ _ _ _ _ r_g21 hf
  · skip
    have hf := xif_t h45 hf
    exact mv_vret (pc := 48) B hr d_Weaver_op_48 (Nat.le_refl _) (Nat.le_refl _) ⟨rfl, xrh_v hf r_g12⟩
def f_Weaver_beginExpr (h : mv_H) (a0 : Int32) : Option mv_H := xk (mv_si h 2 7 a0) fun g1 => xhv (f_Exprs_begin g1) fun g2 => xk (mv_si g2 2 6 (2 : Int32)) fun g3 => some g3
set_option maxHeartbeats 4000000 in
set_option maxRecDepth 100000 in
theorem ch_Weaver_beginExpr (l : Launch) {dA : FieldType → ClassId} {D : va_G} {al : Nat → Nat} {ext : mv_Sh} {sk sv : Nat → Nat} (hi : mv_inj (mg dA D al ext)) (h : mv_H) (hb : xRT (mv_r h))  (a0 : Int32) {rg : mv_H} (hf : f_Weaver_beginExpr h a0 = some rg) : mv_C l y_Weaver_beginExpr (Cond.code y_Weaver_beginExpr b_Weaver_beginExpr 2 (Option.none : Option Jvm.ClassFile.FieldType) :: ma) ({ frames := 1, cells := 0, slots := 0, locals := 20 }) (mg dA D al ext) (mK sk sv) [.ref (al 2), .int a0] h (mv_Rv (fun σ1 => rg = σ1 ∧ mv_r σ1 = mv_r h)) := by
  refine mv_C.ofV (cc := b_Weaver_beginExpr) (nL := 2) (ret := (Option.none : Option Jvm.ClassFile.FieldType)) (by decide +kernel) rfl hi (Nat.le_of_ble_eq_true rfl) ?_
  intro p e s m below meth c B hNs hr hnm hno
  unfold f_Weaver_beginExpr at hf
  refine mv_aload_n (pc := 0) B d_Weaver_beginExpr_0 rfl 0 rfl ?_
  refine mv_iload_n (pc := 1) B d_Weaver_beginExpr_1 rfl 1 rfl ?_
  refine mv_putI (pc := 2) (ci := 1) (C := R_Weaver) (T := F_Weaver) (N := 16) B 7 rfl rfl (by decide) i_Weaver t_Weaver_ok n_Weaver (B.2.2.2.1 _ k_237) rfl rfl rfl rfl d_Weaver_beginExpr_2 ?_
  refine mvh_hp (R9 := mv_r h) hf rfl (fun g1 hf r_g1 => ?_)
  refine mv_aload_n (pc := 5) B d_Weaver_beginExpr_5 rfl 0 rfl ?_
  refine mv_getR (pc := 6) (ci := 1) (C := R_Weaver) (T := F_Weaver) (N := 16) B 3 rfl rfl (by decide) i_Weaver (B.2.2.2.1 _ k_232) rfl ((congrFun (congrFun r_g1 2) 3).trans (hb.1 2 3 _ rfl)) d_Weaver_beginExpr_6 ?_
  obtain ⟨g2, eg2, hf⟩ := xhv_e hf
  refine mv_callVv (pc := 9) (n := 0) (ci := 6) (C := R_Exprs) B (mK_ok sk sv) hNs rfl rfl (ch_Exprs_begin l hi _ eg2) rfl (ma_goodc kc_Exprs_begin) (B.2.2.2.1 _ k_1375) (B.2.2.2.1 _ k_1376) (B.2.2.2.1 _ k_1377) (B.2.2.2.1 _ k_7) ⟨by decide +kernel, by decide +kernel, by decide +kernel⟩ rfl d_Weaver_beginExpr_9 rfl (Nat.le_of_ble_eq_true rfl) ⟨by decide, by decide⟩ ⟨by decide, by decide⟩ ⟨by decide, by decide⟩ (mv_noH hno _) (fun σ9 h9 => ?_)
  obtain ⟨rfl, s_g2⟩ := h9
  have r_g2 : mv_r g2 = mv_r h := s_g2.trans r_g1
  refine mv_aload_n (pc := 12) B d_Weaver_beginExpr_12 rfl 0 rfl ?_
  refine mv_iconst (pc := 13) (v := 2) B d_Weaver_beginExpr_13 (by decide) ?_
  refine mv_putI (pc := 14) (ci := 1) (C := R_Weaver) (T := F_Weaver) (N := 16) B 6 rfl rfl (by decide) i_Weaver t_Weaver_ok n_Weaver (B.2.2.2.1 _ k_236) rfl rfl rfl rfl d_Weaver_beginExpr_14 ?_
  refine mvh_hp (R9 := mv_r h) hf r_g2 (fun g3 hf r_g3 => ?_)
  exact mv_vret (pc := 17) B hr d_Weaver_beginExpr_17 (Nat.le_refl _) (Nat.le_refl _) ⟨rfl, xrh_v hf r_g3⟩
def f_Weaver_beginIf (h : mv_H) (a0 : Int32) : Option mv_H := xhb (f_Tokens_take h (209 : Int32)) fun v2 g1 => xk (mv_si g1 2 8 v2) fun g3 => xk (mv_si g3 2 10 a0) fun g4 => xhv (f_Weaver_beginExpr g4 (4 : Int32)) fun g5 => some g5
set_option maxHeartbeats 4000000 in
set_option maxRecDepth 100000 in
theorem ch_Weaver_beginIf (l : Launch) {dA : FieldType → ClassId} {D : va_G} {al : Nat → Nat} {ext : mv_Sh} {sk sv : Nat → Nat} (hi : mv_inj (mg dA D al ext)) (h : mv_H) (hb : xRT (mv_r h))  (a0 : Int32) {rg : mv_H} (hf : f_Weaver_beginIf h a0 = some rg) : mv_C l y_Weaver_beginIf (Cond.code y_Weaver_beginIf b_Weaver_beginIf 2 (Option.none : Option Jvm.ClassFile.FieldType) :: ma) ({ frames := 2, cells := 0, slots := 0, locals := 42 }) (mg dA D al ext) (mK sk sv) [.ref (al 2), .int a0] h (mv_Rv (fun σ1 => rg = σ1 ∧ mv_r σ1 = mv_r h)) := by
  refine mv_C.ofV (cc := b_Weaver_beginIf) (nL := 2) (ret := (Option.none : Option Jvm.ClassFile.FieldType)) (by decide +kernel) rfl hi (Nat.le_of_ble_eq_true rfl) ?_
  intro p e s m below meth c B hNs hr hnm hno
  unfold f_Weaver_beginIf at hf
  refine mv_aload_n (pc := 0) B d_Weaver_beginIf_0 rfl 0 rfl ?_
  refine mv_aload_n (pc := 1) B d_Weaver_beginIf_1 rfl 0 rfl ?_
  refine mv_getR (pc := 2) (ci := 1) (C := R_Weaver) (T := F_Weaver) (N := 16) B 0 rfl rfl (by decide) i_Weaver (B.2.2.2.1 _ k_228) rfl (hb.1 2 0 _ rfl) d_Weaver_beginIf_2 ?_
  refine mv_sipush (pc := 5) (v := 209) B d_Weaver_beginIf_5 (by decide) ?_
  obtain ⟨v2, g1, eg1, hf⟩ := xhb_e hf
  refine mv_callVi (pc := 8) (n := 1) (ci := 2) (C := R_Tokens) B (mK_ok sk sv) hNs rfl rfl (ch_Tokens_take l hi _ (hb) _ eg1) rfl (ma_goodc kc_Tokens_take) (B.2.2.2.1 _ k_1266) (B.2.2.2.1 _ k_1267) (B.2.2.2.1 _ k_1268) (B.2.2.2.1 _ k_3) ⟨by decide +kernel, by decide +kernel, by decide +kernel⟩ rfl d_Weaver_beginIf_8 rfl (Nat.le_of_ble_eq_true rfl) ⟨by decide, by decide⟩ ⟨by decide, by decide⟩ ⟨by decide, by decide⟩ (mv_noH hno _) (fun w8 σ8 h8 => ?_)
  obtain ⟨rfl, rfl, s_g1⟩ := h8
  have r_g1 : mv_r g1 = mv_r h := s_g1.trans rfl
  refine mv_putI (pc := 11) (ci := 1) (C := R_Weaver) (T := F_Weaver) (N := 16) B 8 rfl rfl (by decide) i_Weaver t_Weaver_ok n_Weaver (B.2.2.2.1 _ k_238) rfl rfl rfl rfl d_Weaver_beginIf_11 ?_
  refine mvh_hp (R9 := mv_r h) hf r_g1 (fun g3 hf r_g3 => ?_)
  refine mv_aload_n (pc := 14) B d_Weaver_beginIf_14 rfl 0 rfl ?_
  refine mv_iload_n (pc := 15) B d_Weaver_beginIf_15 rfl 1 rfl ?_
  refine mv_putI (pc := 16) (ci := 1) (C := R_Weaver) (T := F_Weaver) (N := 16) B 10 rfl rfl (by decide) i_Weaver t_Weaver_ok n_Weaver (B.2.2.2.1 _ k_240) rfl rfl rfl rfl d_Weaver_beginIf_16 ?_
  refine mvh_hp (R9 := mv_r h) hf r_g3 (fun g4 hf r_g4 => ?_)
  refine mv_aload_n (pc := 19) B d_Weaver_beginIf_19 rfl 0 rfl ?_
  refine mv_iconst (pc := 20) (v := 4) B d_Weaver_beginIf_20 (by decide) ?_
  obtain ⟨g5, eg5, hf⟩ := xhv_e hf
  refine mv_callVv (pc := 21) (n := 1) (ci := 1) (C := R_Weaver) B (mK_ok sk sv) hNs rfl rfl (ch_Weaver_beginExpr l hi _ (xrw r_g4 hb) _ eg5) rfl (ma_goodc kc_Weaver_beginExpr) (B.2.2.2.1 _ k_1371) (B.2.2.2.1 _ k_1373) (B.2.2.2.1 _ ks_44) (B.2.2.2.1 _ k_2) ⟨by decide +kernel, by decide +kernel, by decide +kernel⟩ rfl d_Weaver_beginIf_21 rfl (Nat.le_of_ble_eq_true rfl) ⟨by decide, by decide⟩ ⟨by decide, by decide⟩ ⟨by decide, by decide⟩ (mv_noH hno _) (fun σ21 h21 => ?_)
  obtain ⟨rfl, s_g5⟩ := h21
  have r_g5 : mv_r g5 = mv_r h := s_g5.trans r_g4
  exact mv_vret (pc := 24) B hr d_Weaver_beginIf_24 (Nat.le_refl _) (Nat.le_refl _) ⟨rfl, xrh_v hf r_g5⟩
def f_Weaver_beginLet_94 (hz : mv_H) : Option mv_H := xhv (f_Weaver_beginExpr hz (0 : Int32)) fun g1 => some g1
def f_Weaver_beginLet (h : mv_H) : Option mv_H := xhb (f_Tokens_take h (207 : Int32)) fun v3 g2 => xhb (f_Tokens_take g2 (3 : Int32)) fun v5 g4 => xhb (f_Tokens_take g4 (61 : Int32)) fun v7 g6 => xk (mv_si g6 2 8 v7) fun g8 => xhb (f_Weaver_symbolOf g8 v5) fun v10 g9 => xk (mv_si g9 2 9 v10) fun g11 => xhb (f_Names_kindOf g11 (mv_i g11 2 9)) fun v13 g12 => if v13 = (0 : Int32) then (if (mv_i g12 13 9) = (64 : Int32) then (xhv (f_Weaver_tell g12 v5 (6 : Int32)) fun g14 => xk (mv_si g14 2 9 (-1 : Int32)) fun g15 => f_Weaver_beginLet_94  g15) else (f_Weaver_beginLet_94  g12)) else (xhv (f_Weaver_tell g12 v5 (2 : Int32)) fun g16 => xk (mv_si g16 2 9 (-1 : Int32)) fun g17 => f_Weaver_beginLet_94  g17)
set_option maxHeartbeats 4000000 in
set_option maxRecDepth 100000 in
theorem ch_Weaver_beginLet (l : Launch) {dA : FieldType → ClassId} {D : va_G} {al : Nat → Nat} {ext : mv_Sh} {sk sv : Nat → Nat} (hi : mv_inj (mg dA D al ext)) (h : mv_H) (hb : xRT (mv_r h))  {rg : mv_H} (hf : f_Weaver_beginLet h = some rg) : mv_C l y_Weaver_beginLet (Cond.code y_Weaver_beginLet b_Weaver_beginLet 2 (Option.none : Option Jvm.ClassFile.FieldType) :: ma) ({ frames := 2, cells := 0, slots := 0, locals := 44 }) (mg dA D al ext) (mK sk sv) [.ref (al 2)] h (mv_Rv (fun σ1 => rg = σ1 ∧ mv_r σ1 = mv_r h)) := by
  refine mv_C.ofV (cc := b_Weaver_beginLet) (nL := 2) (ret := (Option.none : Option Jvm.ClassFile.FieldType)) (by decide +kernel) rfl hi (Nat.le_of_ble_eq_true rfl) ?_
  intro p e s m below meth c B hNs hr hnm hno
  have jn94 : ∀ (hz : mv_H), mv_r hz = mv_r h → f_Weaver_beginLet_94  hz = some rg → mv_V p l e ({ frames := 2, cells := 0, slots := 0, locals := 44 }) s m ([.ref (al 2)] : List Value).toArray below meth c (mg dA D al ext) 2 0 0 (mv_Q (mg dA D al ext) below s 0 0 (mv_Rv (fun σ1 => rg = σ1 ∧ mv_r σ1 = mv_r h))) hz 94 [(0, .ref (al 2))] [] := by
    intro  hz r_hz hf
    unfold f_Weaver_beginLet_94 at hf
    refine mv_aload_n (pc := 94) B d_Weaver_beginLet_94 rfl 0 rfl ?_
    refine mv_iconst (pc := 95) (v := 0) B d_Weaver_beginLet_95 (by decide) ?_
    obtain ⟨g1, eg1, hf⟩ := xhv_e hf
    refine mv_callVv (pc := 96) (n := 1) (ci := 1) (C := R_Weaver) B (mK_ok sk sv) hNs rfl rfl (ch_Weaver_beginExpr l hi _ (xrw r_hz hb) _ eg1) rfl (ma_goodc kc_Weaver_beginExpr) (B.2.2.2.1 _ k_1371) (B.2.2.2.1 _ k_1373) (B.2.2.2.1 _ ks_44) (B.2.2.2.1 _ k_2) ⟨by decide +kernel, by decide +kernel, by decide +kernel⟩ rfl d_Weaver_beginLet_96 rfl (Nat.le_of_ble_eq_true rfl) ⟨by decide, by decide⟩ ⟨by decide, by decide⟩ ⟨by decide, by decide⟩ (mv_noH hno _) (fun σ96 h96 => ?_)
    obtain ⟨rfl, s_g1⟩ := h96
    have r_g1 : mv_r g1 = mv_r h := s_g1.trans r_hz
    exact mv_vret (pc := 99) B hr d_Weaver_beginLet_99 (Nat.le_refl _) (Nat.le_refl _) ⟨rfl, xrh_v hf r_g1⟩
  unfold f_Weaver_beginLet at hf
  refine mv_aload_n (pc := 0) B d_Weaver_beginLet_0 rfl 0 rfl ?_
  refine mv_getR (pc := 1) (ci := 1) (C := R_Weaver) (T := F_Weaver) (N := 16) B 0 rfl rfl (by decide) i_Weaver (B.2.2.2.1 _ k_228) rfl (hb.1 2 0 _ rfl) d_Weaver_beginLet_1 ?_
  refine mv_sipush (pc := 4) (v := 207) B d_Weaver_beginLet_4 (by decide) ?_
  obtain ⟨v3, g2, eg2, hf⟩ := xhb_e hf
  refine mv_callVi (pc := 7) (n := 1) (ci := 2) (C := R_Tokens) B (mK_ok sk sv) hNs rfl rfl (ch_Tokens_take l hi _ (hb) _ eg2) rfl (ma_goodc kc_Tokens_take) (B.2.2.2.1 _ k_1266) (B.2.2.2.1 _ k_1267) (B.2.2.2.1 _ k_1268) (B.2.2.2.1 _ k_3) ⟨by decide +kernel, by decide +kernel, by decide +kernel⟩ rfl d_Weaver_beginLet_7 rfl (Nat.le_of_ble_eq_true rfl) ⟨by decide, by decide⟩ ⟨by decide, by decide⟩ ⟨by decide, by decide⟩ (mv_noH hno _) (fun w7 σ7 h7 => ?_)
  obtain ⟨rfl, rfl, s_g2⟩ := h7
  have r_g2 : mv_r g2 = mv_r h := s_g2.trans rfl
  refine mv_pop (pc := 10) B d_Weaver_beginLet_10 rfl ?_
  refine mv_aload_n (pc := 11) B d_Weaver_beginLet_11 rfl 0 rfl ?_
  refine mv_getR (pc := 12) (ci := 1) (C := R_Weaver) (T := F_Weaver) (N := 16) B 0 rfl rfl (by decide) i_Weaver (B.2.2.2.1 _ k_228) rfl ((congrFun (congrFun r_g2 2) 0).trans (hb.1 2 0 _ rfl)) d_Weaver_beginLet_12 ?_
  refine mv_iconst (pc := 15) (v := 3) B d_Weaver_beginLet_15 (by decide) ?_
  obtain ⟨v5, g4, eg4, hf⟩ := xhb_e hf
  refine mv_callVi (pc := 16) (n := 1) (ci := 2) (C := R_Tokens) B (mK_ok sk sv) hNs rfl rfl (ch_Tokens_take l hi _ (xrw r_g2 hb) _ eg4) rfl (ma_goodc kc_Tokens_take) (B.2.2.2.1 _ k_1266) (B.2.2.2.1 _ k_1267) (B.2.2.2.1 _ k_1268) (B.2.2.2.1 _ k_3) ⟨by decide +kernel, by decide +kernel, by decide +kernel⟩ rfl d_Weaver_beginLet_16 rfl (Nat.le_of_ble_eq_true rfl) ⟨by decide, by decide⟩ ⟨by decide, by decide⟩ ⟨by decide, by decide⟩ (mv_noH hno _) (fun w16 σ16 h16 => ?_)
  obtain ⟨rfl, rfl, s_g4⟩ := h16
  have r_g4 : mv_r g4 = mv_r h := s_g4.trans r_g2
  refine mv_istore_n (pc := 19) B d_Weaver_beginLet_19 rfl (by decide) rfl ?_
  refine mv_aload_n (pc := 20) B d_Weaver_beginLet_20 rfl 1 rfl ?_
  refine mv_aload_n (pc := 21) B d_Weaver_beginLet_21 rfl 1 rfl ?_
  refine mv_getR (pc := 22) (ci := 1) (C := R_Weaver) (T := F_Weaver) (N := 16) B 0 rfl rfl (by decide) i_Weaver (B.2.2.2.1 _ k_228) rfl ((congrFun (congrFun r_g4 2) 0).trans (hb.1 2 0 _ rfl)) d_Weaver_beginLet_22 ?_
  refine mv_bipush (pc := 25) (v := 61) B d_Weaver_beginLet_25 (by decide) ?_
  obtain ⟨v7, g6, eg6, hf⟩ := xhb_e hf
  refine mv_callVi (pc := 27) (n := 1) (ci := 2) (C := R_Tokens) B (mK_ok sk sv) hNs rfl rfl (ch_Tokens_take l hi _ (xrw r_g4 hb) _ eg6) rfl (ma_goodc kc_Tokens_take) (B.2.2.2.1 _ k_1266) (B.2.2.2.1 _ k_1267) (B.2.2.2.1 _ k_1268) (B.2.2.2.1 _ k_3) ⟨by decide +kernel, by decide +kernel, by decide +kernel⟩ rfl d_Weaver_beginLet_27 rfl (Nat.le_of_ble_eq_true rfl) ⟨by decide, by decide⟩ ⟨by decide, by decide⟩ ⟨by decide, by decide⟩ (mv_noH hno _) (fun w27 σ27 h27 => ?_)
  obtain ⟨rfl, rfl, s_g6⟩ := h27
  have r_g6 : mv_r g6 = mv_r h := s_g6.trans r_g4
  refine mv_putI (pc := 30) (ci := 1) (C := R_Weaver) (T := F_Weaver) (N := 16) B 8 rfl rfl (by decide) i_Weaver t_Weaver_ok n_Weaver (B.2.2.2.1 _ k_238) rfl rfl rfl rfl d_Weaver_beginLet_30 ?_
  refine mvh_hp (R9 := mv_r h) hf r_g6 (fun g8 hf r_g8 => ?_)
  refine mv_aload_n (pc := 33) B d_Weaver_beginLet_33 rfl 1 rfl ?_
  refine mv_aload_n (pc := 34) B d_Weaver_beginLet_34 rfl 1 rfl ?_
  refine mv_iload_n (pc := 35) B d_Weaver_beginLet_35 rfl 0 rfl ?_
  obtain ⟨v10, g9, eg9, hf⟩ := xhb_e hf
  refine mv_callVi (pc := 36) (n := 1) (ci := 1) (C := R_Weaver) B (mK_ok sk sv) hNs rfl rfl (ch_Weaver_symbolOf l hi _ (xrw r_g8 hb) _ eg9) rfl (ma_goodc kc_Weaver_symbolOf) (B.2.2.2.1 _ k_1312) (B.2.2.2.1 _ k_1314) (B.2.2.2.1 _ ks_37) (B.2.2.2.1 _ k_2) ⟨by decide +kernel, by decide +kernel, by decide +kernel⟩ rfl d_Weaver_beginLet_36 rfl (Nat.le_of_ble_eq_true rfl) ⟨by decide, by decide⟩ ⟨by decide, by decide⟩ ⟨by decide, by decide⟩ (mv_noH hno _) (fun w36 σ36 h36 => ?_)
  obtain ⟨rfl, rfl, s_g9⟩ := h36
  have r_g9 : mv_r g9 = mv_r h := s_g9.trans r_g8
  refine mv_putI (pc := 39) (ci := 1) (C := R_Weaver) (T := F_Weaver) (N := 16) B 9 rfl rfl (by decide) i_Weaver t_Weaver_ok n_Weaver (B.2.2.2.1 _ k_239) rfl rfl rfl rfl d_Weaver_beginLet_39 ?_
  refine mvh_hp (R9 := mv_r h) hf r_g9 (fun g11 hf r_g11 => ?_)
  refine mv_aload_n (pc := 42) B d_Weaver_beginLet_42 rfl 1 rfl ?_
  refine mv_getR (pc := 43) (ci := 1) (C := R_Weaver) (T := F_Weaver) (N := 16) B 1 rfl rfl (by decide) i_Weaver (B.2.2.2.1 _ k_229) rfl ((congrFun (congrFun r_g11 2) 1).trans (hb.1 2 1 _ rfl)) d_Weaver_beginLet_43 ?_
  refine mv_aload_n (pc := 46) B d_Weaver_beginLet_46 rfl 1 rfl ?_
  refine mv_getI (pc := 47) (ci := 1) (C := R_Weaver) (T := F_Weaver) (N := 16) B 9 rfl rfl (by decide) i_Weaver (B.2.2.2.1 _ k_239) rfl d_Weaver_beginLet_47 ?_
  obtain ⟨v13, g12, eg12, hf⟩ := xhb_e hf
  refine mv_callVi (pc := 50) (n := 1) (ci := 4) (C := R_Names) B (mK_ok sk sv) hNs rfl rfl (ch_Names_kindOf l hi _ (xrw r_g11 hb) _ eg12) rfl (ma_goodc kc_Names_kindOf) (B.2.2.2.1 _ k_1316) (B.2.2.2.1 _ k_1317) (B.2.2.2.1 _ k_1318) (B.2.2.2.1 _ k_5) ⟨by decide +kernel, by decide +kernel, by decide +kernel⟩ rfl d_Weaver_beginLet_50 rfl (Nat.le_of_ble_eq_true rfl) ⟨by decide, by decide⟩ ⟨by decide, by decide⟩ ⟨by decide, by decide⟩ (mv_noH hno _) (fun w50 σ50 h50 => ?_)
  obtain ⟨rfl, rfl, s_g12⟩ := h50
  have r_g12 : mv_r g12 = mv_r h := s_g12.trans r_g11
  refine mv_if_eq (pc := 53) (tgt := 70) B d_Weaver_beginLet_53 rfl (fun h53 => ?_) (fun h53 => ?_)
  · skip
    have hf := xif_t h53 hf
    refine mv_aload_n (pc := 70) B d_Weaver_beginLet_70 rfl 1 rfl ?_
    refine mv_getR (pc := 71) (ci := 1) (C := R_Weaver) (T := F_Weaver) (N := 16) B 1 rfl rfl (by decide) i_Weaver (B.2.2.2.1 _ k_229) rfl ((congrFun (congrFun r_g12 2) 1).trans (hb.1 2 1 _ rfl)) d_Weaver_beginLet_71 ?_
    refine mv_getI (pc := 74) (ci := 4) (C := R_Names) (T := F_Names) (N := 10) B 9 rfl rfl (by decide) i_Names (B.2.2.2.1 _ k_149) rfl d_Weaver_beginLet_74 ?_
    refine mv_bipush (pc := 77) (v := 64) B d_Weaver_beginLet_77 (by decide) ?_
    refine mv_icmp_ne (pc := 79) (tgt := 94) B d_Weaver_beginLet_79 rfl (fun h79 => ?_) (fun h79 => ?_)
    · skip
      have hf := xif_f h79 hf
      refine mv_lpick [1] rfl ?_
      exact jn94  _ r_g12 hf
    · skip
      have hf := xif_t h79 hf
      refine mv_aload_n (pc := 82) B d_Weaver_beginLet_82 rfl 1 rfl ?_
      refine mv_iload_n (pc := 83) B d_Weaver_beginLet_83 rfl 0 rfl ?_
      refine mv_bipush (pc := 84) (v := 6) B d_Weaver_beginLet_84 (by decide) ?_
      obtain ⟨g14, eg14, hf⟩ := xhv_e hf
      refine mv_callVv (pc := 86) (n := 2) (ci := 1) (C := R_Weaver) B (mK_ok sk sv) hNs rfl rfl (ch_Weaver_tell l hi _ (xrw r_g12 hb) _ _ eg14) rfl (ma_goodc kc_Weaver_tell) (B.2.2.2.1 _ k_1282) (B.2.2.2.1 _ k_1284) (B.2.2.2.1 _ ks_32) (B.2.2.2.1 _ k_2) ⟨by decide +kernel, by decide +kernel, by decide +kernel⟩ rfl d_Weaver_beginLet_86 rfl (Nat.le_of_ble_eq_true rfl) ⟨by decide, by decide⟩ ⟨by decide, by decide⟩ ⟨by decide, by decide⟩ (mv_noH hno _) (fun σ86 h86 => ?_)
      obtain ⟨rfl, s_g14⟩ := h86
      have r_g14 : mv_r g14 = mv_r h := s_g14.trans r_g12
      refine mv_aload_n (pc := 89) B d_Weaver_beginLet_89 rfl 1 rfl ?_
      refine mv_iconst (pc := 90) (v := -1) B d_Weaver_beginLet_90 (by decide) ?_
      refine mv_putI (pc := 91) (ci := 1) (C := R_Weaver) (T := F_Weaver) (N := 16) B 9 rfl rfl (by decide) i_Weaver t_Weaver_ok n_Weaver (B.2.2.2.1 _ k_239) rfl rfl rfl rfl d_Weaver_beginLet_91 ?_
      refine mvh_hp (R9 := mv_r h) hf r_g14 (fun g15 hf r_g15 => ?_)
      refine mv_lpick [1] rfl ?_
      exact jn94  _ r_g15 hf
  · skip
    have hf := xif_f h53 hf
    refine mv_aload_n (pc := 56) B d_Weaver_beginLet_56 rfl 1 rfl ?_
    refine mv_iload_n (pc := 57) B d_Weaver_beginLet_57 rfl 0 rfl ?_
    refine mv_iconst (pc := 58) (v := 2) B d_Weaver_beginLet_58 (by decide) ?_
    obtain ⟨g16, eg16, hf⟩ := xhv_e hf
    refine mv_callVv (pc := 59) (n := 2) (ci := 1) (C := R_Weaver) B (mK_ok sk sv) hNs rfl rfl (ch_Weaver_tell l hi _ (xrw r_g12 hb) _ _ eg16) rfl (ma_goodc kc_Weaver_tell) (B.2.2.2.1 _ k_1282) (B.2.2.2.1 _ k_1284) (B.2.2.2.1 _ ks_32) (B.2.2.2.1 _ k_2) ⟨by decide +kernel, by decide +kernel, by decide +kernel⟩ rfl d_Weaver_beginLet_59 rfl (Nat.le_of_ble_eq_true rfl) ⟨by decide, by decide⟩ ⟨by decide, by decide⟩ ⟨by decide, by decide⟩ (mv_noH hno _) (fun σ59 h59 => ?_)
    obtain ⟨rfl, s_g16⟩ := h59
    have r_g16 : mv_r g16 = mv_r h := s_g16.trans r_g12
    refine mv_aload_n (pc := 62) B d_Weaver_beginLet_62 rfl 1 rfl ?_
    refine mv_iconst (pc := 63) (v := -1) B d_Weaver_beginLet_63 (by decide) ?_
    refine mv_putI (pc := 64) (ci := 1) (C := R_Weaver) (T := F_Weaver) (N := 16) B 9 rfl rfl (by decide) i_Weaver t_Weaver_ok n_Weaver (B.2.2.2.1 _ k_239) rfl rfl rfl rfl d_Weaver_beginLet_64 ?_
    refine mvh_hp (R9 := mv_r h) hf r_g16 (fun g17 hf r_g17 => ?_)
    refine mv_goto (pc := 67) (tgt := 94) B d_Weaver_beginLet_67 rfl ?_
    refine mv_lpick [1] rfl ?_
    exact jn94  _ r_g17 hf
def f_Weaver_beginAssignment_77 (x3 : Int32) (hz : mv_H) : Option mv_H := if x3 = (0 : Int32) then (xhb (f_Tokens_take hz (61 : Int32)) fun v2 g1 => xk (mv_si g1 2 8 v2) fun g3 => xhv (f_Weaver_beginExpr g3 (2 : Int32)) fun g4 => some g4) else (xhb (f_Tokens_open hz (91 : Int32)) fun v6 g5 => xhv (f_Weaver_beginExpr g5 (1 : Int32)) fun g7 => some g7)
def f_Weaver_beginAssignment_63 (x1 : Int32) (x3 : Int32) (y0 : Int32) (y1 : Int32) (hz : mv_H) : Option mv_H := if y1 = y0 then (f_Weaver_beginAssignment_77 x3 hz) else (xhv (f_Weaver_tell hz x1 (2 : Int32)) fun g8 => xk (mv_si g8 2 9 (-1 : Int32)) fun g9 => f_Weaver_beginAssignment_77 x3 g9)
def f_Weaver_beginAssignment_32 (x1 : Int32) (x2 : Int32) (y0 : Int32) (hz : mv_H) : Option mv_H := bif xvi x2 16448 then xk (mv_si hz 2 9 (mv_a hz 15 (x2).toNatClampNeg)) fun g11 => xhb (f_Names_kindOf g11 x2) fun v13 g12 => if y0 = (0 : Int32) then (f_Weaver_beginAssignment_63 x1 y0 (1 : Int32) v13 g12) else (f_Weaver_beginAssignment_63 x1 y0 (2 : Int32) v13 g12) else none
def f_Weaver_beginAssignment (h : mv_H) : Option mv_H := xhb (f_Tokens_take h (3 : Int32)) fun v15 g14 => xhb (f_Weaver_symbolOf g14 v15) fun v17 g16 => xhb (f_Tokens_kind g16) fun v19 g18 => if v19 = (91 : Int32) then (f_Weaver_beginAssignment_32 v15 v17 (1 : Int32) g18) else (f_Weaver_beginAssignment_32 v15 v17 (0 : Int32) g18)
set_option maxHeartbeats 4000000 in
set_option maxRecDepth 100000 in
theorem ch_Weaver_beginAssignment (l : Launch) {dA : FieldType → ClassId} {D : va_G} {al : Nat → Nat} {ext : mv_Sh} {sk sv : Nat → Nat} (hi : mv_inj (mg dA D al ext)) (h : mv_H) (hb : xRT (mv_r h))  {rg : mv_H} (hf : f_Weaver_beginAssignment h = some rg) : mv_C l y_Weaver_beginAssignment (Cond.code y_Weaver_beginAssignment b_Weaver_beginAssignment 4 (Option.none : Option Jvm.ClassFile.FieldType) :: ma) ({ frames := 3, cells := 0, slots := 0, locals := 63 }) (mg dA D al ext) (mK sk sv) [.ref (al 2)] h (mv_Rv (fun σ1 => rg = σ1 ∧ mv_r σ1 = mv_r h)) := by
  refine mv_C.ofV (cc := b_Weaver_beginAssignment) (nL := 4) (ret := (Option.none : Option Jvm.ClassFile.FieldType)) (by decide +kernel) rfl hi (Nat.le_of_ble_eq_true rfl) ?_
  intro p e s m below meth c B hNs hr hnm hno
  have jn77 : ∀ (x3 : Int32) (hz : mv_H), mv_r hz = mv_r h → f_Weaver_beginAssignment_77 x3 hz = some rg → mv_V p l e ({ frames := 3, cells := 0, slots := 0, locals := 63 }) s m ([.ref (al 2)] : List Value).toArray below meth c (mg dA D al ext) 4 0 0 (mv_Q (mg dA D al ext) below s 0 0 (mv_Rv (fun σ1 => rg = σ1 ∧ mv_r σ1 = mv_r h))) hz 77 [(0, .ref (al 2)), (3, .int x3)] [] := by
    intro x3 hz r_hz hf
    unfold f_Weaver_beginAssignment_77 at hf
    refine mv_iload_n (pc := 77) B d_Weaver_beginAssignment_77 rfl 1 rfl ?_
    refine mv_if_eq (pc := 78) (tgt := 99) B d_Weaver_beginAssignment_78 rfl (fun h78 => ?_) (fun h78 => ?_)
    · skip
      have hf := xif_t h78 hf
      refine mv_aload_n (pc := 99) B d_Weaver_beginAssignment_99 rfl 0 rfl ?_
      refine mv_aload_n (pc := 100) B d_Weaver_beginAssignment_100 rfl 0 rfl ?_
      refine mv_getR (pc := 101) (ci := 1) (C := R_Weaver) (T := F_Weaver) (N := 16) B 0 rfl rfl (by decide) i_Weaver (B.2.2.2.1 _ k_228) rfl ((congrFun (congrFun r_hz 2) 0).trans (hb.1 2 0 _ rfl)) d_Weaver_beginAssignment_101 ?_
      refine mv_bipush (pc := 104) (v := 61) B d_Weaver_beginAssignment_104 (by decide) ?_
      obtain ⟨v2, g1, eg1, hf⟩ := xhb_e hf
      refine mv_callVi (pc := 106) (n := 1) (ci := 2) (C := R_Tokens) B (mK_ok sk sv) hNs rfl rfl (ch_Tokens_take l hi _ (xrw r_hz hb) _ eg1) rfl (ma_goodc kc_Tokens_take) (B.2.2.2.1 _ k_1266) (B.2.2.2.1 _ k_1267) (B.2.2.2.1 _ k_1268) (B.2.2.2.1 _ k_3) ⟨by decide +kernel, by decide +kernel, by decide +kernel⟩ rfl d_Weaver_beginAssignment_106 rfl (Nat.le_of_ble_eq_true rfl) ⟨by decide, by decide⟩ ⟨by decide, by decide⟩ ⟨by decide, by decide⟩ (mv_noH hno _) (fun w106 σ106 h106 => ?_)
      obtain ⟨rfl, rfl, s_g1⟩ := h106
      have r_g1 : mv_r g1 = mv_r h := s_g1.trans r_hz
      refine mv_putI (pc := 109) (ci := 1) (C := R_Weaver) (T := F_Weaver) (N := 16) B 8 rfl rfl (by decide) i_Weaver t_Weaver_ok n_Weaver (B.2.2.2.1 _ k_238) rfl rfl rfl rfl d_Weaver_beginAssignment_109 ?_
      refine mvh_hp (R9 := mv_r h) hf r_g1 (fun g3 hf r_g3 => ?_)
      refine mv_aload_n (pc := 112) B d_Weaver_beginAssignment_112 rfl 0 rfl ?_
      refine mv_iconst (pc := 113) (v := 2) B d_Weaver_beginAssignment_113 (by decide) ?_
      obtain ⟨g4, eg4, hf⟩ := xhv_e hf
      refine mv_callVv (pc := 114) (n := 1) (ci := 1) (C := R_Weaver) B (mK_ok sk sv) hNs rfl rfl (ch_Weaver_beginExpr l hi _ (xrw r_g3 hb) _ eg4) rfl (ma_goodc kc_Weaver_beginExpr) (B.2.2.2.1 _ k_1371) (B.2.2.2.1 _ k_1373) (B.2.2.2.1 _ ks_44) (B.2.2.2.1 _ k_2) ⟨by decide +kernel, by decide +kernel, by decide +kernel⟩ rfl d_Weaver_beginAssignment_114 rfl (Nat.le_of_ble_eq_true rfl) ⟨by decide, by decide⟩ ⟨by decide, by decide⟩ ⟨by decide, by decide⟩ (mv_noH hno _) (fun σ114 h114 => ?_)
      obtain ⟨rfl, s_g4⟩ := h114
      have r_g4 : mv_r g4 = mv_r h := s_g4.trans r_g3
      exact mv_vret (pc := 117) B hr d_Weaver_beginAssignment_117 (Nat.le_refl _) (Nat.le_refl _) ⟨rfl, xrh_v hf r_g4⟩
    · skip
      have hf := xif_f h78 hf
      refine mv_aload_n (pc := 81) B d_Weaver_beginAssignment_81 rfl 0 rfl ?_
      refine mv_getR (pc := 82) (ci := 1) (C := R_Weaver) (T := F_Weaver) (N := 16) B 0 rfl rfl (by decide) i_Weaver (B.2.2.2.1 _ k_228) rfl ((congrFun (congrFun r_hz 2) 0).trans (hb.1 2 0 _ rfl)) d_Weaver_beginAssignment_82 ?_
      refine mv_bipush (pc := 85) (v := 91) B d_Weaver_beginAssignment_85 (by decide) ?_
      obtain ⟨v6, g5, eg5, hf⟩ := xhb_e hf
      refine mv_callVi (pc := 87) (n := 1) (ci := 2) (C := R_Tokens) B (mK_ok sk sv) hNs rfl rfl (ch_Tokens_open l hi _ (xrw r_hz hb) _ eg5) rfl (ma_goodc kc_Tokens_open) (B.2.2.2.1 _ k_1349) (B.2.2.2.1 _ k_1350) (B.2.2.2.1 _ k_1351) (B.2.2.2.1 _ k_3) ⟨by decide +kernel, by decide +kernel, by decide +kernel⟩ rfl d_Weaver_beginAssignment_87 rfl (Nat.le_of_ble_eq_true rfl) ⟨by decide, by decide⟩ ⟨by decide, by decide⟩ ⟨by decide, by decide⟩ (mv_noH hno _) (fun w87 σ87 h87 => ?_)
      obtain ⟨rfl, rfl, s_g5⟩ := h87
      have r_g5 : mv_r g5 = mv_r h := s_g5.trans r_hz
      refine mv_pop (pc := 90) B d_Weaver_beginAssignment_90 rfl ?_
      refine mv_aload_n (pc := 91) B d_Weaver_beginAssignment_91 rfl 0 rfl ?_
      refine mv_iconst (pc := 92) (v := 1) B d_Weaver_beginAssignment_92 (by decide) ?_
      obtain ⟨g7, eg7, hf⟩ := xhv_e hf
      refine mv_callVv (pc := 93) (n := 1) (ci := 1) (C := R_Weaver) B (mK_ok sk sv) hNs rfl rfl (ch_Weaver_beginExpr l hi _ (xrw r_g5 hb) _ eg7) rfl (ma_goodc kc_Weaver_beginExpr) (B.2.2.2.1 _ k_1371) (B.2.2.2.1 _ k_1373) (B.2.2.2.1 _ ks_44) (B.2.2.2.1 _ k_2) ⟨by decide +kernel, by decide +kernel, by decide +kernel⟩ rfl d_Weaver_beginAssignment_93 rfl (Nat.le_of_ble_eq_true rfl) ⟨by decide, by decide⟩ ⟨by decide, by decide⟩ ⟨by decide, by decide⟩ (mv_noH hno _) (fun σ93 h93 => ?_)
      obtain ⟨rfl, s_g7⟩ := h93
      have r_g7 : mv_r g7 = mv_r h := s_g7.trans r_g5
      refine mv_goto (pc := 96) (tgt := 117) B d_Weaver_beginAssignment_96 rfl ?_
      exact mv_vret (pc := 117) B hr d_Weaver_beginAssignment_117 (Nat.le_refl _) (Nat.le_refl _) ⟨rfl, xrh_v hf r_g7⟩
  have jn63 : ∀ (x1 : Int32) (x3 : Int32) (y0 : Int32) (y1 : Int32) (hz : mv_H), mv_r hz = mv_r h → f_Weaver_beginAssignment_63 x1 x3 y0 y1 hz = some rg → mv_V p l e ({ frames := 3, cells := 0, slots := 0, locals := 63 }) s m ([.ref (al 2)] : List Value).toArray below meth c (mg dA D al ext) 4 0 0 (mv_Q (mg dA D al ext) below s 0 0 (mv_Rv (fun σ1 => rg = σ1 ∧ mv_r σ1 = mv_r h))) hz 63 [(0, .ref (al 2)), (1, .int x1), (3, .int x3)] [.int y0, .int y1] := by
    intro x1 x3 y0 y1 hz r_hz hf
    unfold f_Weaver_beginAssignment_63 at hf
    refine mv_icmp_eq (pc := 63) (tgt := 77) B d_Weaver_beginAssignment_63 rfl (fun h63 => ?_) (fun h63 => ?_)
    · skip
      have hf := xif_t h63 hf
      refine mv_lpick [0, 2] rfl ?_
      exact jn77 _ _ r_hz hf
    · skip
      have hf := xif_f h63 hf
      refine mv_aload_n (pc := 66) B d_Weaver_beginAssignment_66 rfl 0 rfl ?_
      refine mv_iload_n (pc := 67) B d_Weaver_beginAssignment_67 rfl 1 rfl ?_
      refine mv_iconst (pc := 68) (v := 2) B d_Weaver_beginAssignment_68 (by decide) ?_
      obtain ⟨g8, eg8, hf⟩ := xhv_e hf
      refine mv_callVv (pc := 69) (n := 2) (ci := 1) (C := R_Weaver) B (mK_ok sk sv) hNs rfl rfl (ch_Weaver_tell l hi _ (xrw r_hz hb) _ _ eg8) rfl (ma_goodc kc_Weaver_tell) (B.2.2.2.1 _ k_1282) (B.2.2.2.1 _ k_1284) (B.2.2.2.1 _ ks_32) (B.2.2.2.1 _ k_2) ⟨by decide +kernel, by decide +kernel, by decide +kernel⟩ rfl d_Weaver_beginAssignment_69 rfl (Nat.le_of_ble_eq_true rfl) ⟨by decide, by decide⟩ ⟨by decide, by decide⟩ ⟨by decide, by decide⟩ (mv_noH hno _) (fun σ69 h69 => ?_)
      obtain ⟨rfl, s_g8⟩ := h69
      have r_g8 : mv_r g8 = mv_r h := s_g8.trans r_hz
      refine mv_aload_n (pc := 72) B d_Weaver_beginAssignment_72 rfl 0 rfl ?_
      refine mv_iconst (pc := 73) (v := -1) B d_Weaver_beginAssignment_73 (by decide) ?_
      refine mv_putI (pc := 74) (ci := 1) (C := R_Weaver) (T := F_Weaver) (N := 16) B 9 rfl rfl (by decide) i_Weaver t_Weaver_ok n_Weaver (B.2.2.2.1 _ k_239) rfl rfl rfl rfl d_Weaver_beginAssignment_74 ?_
      refine mvh_hp (R9 := mv_r h) hf r_g8 (fun g9 hf r_g9 => ?_)
      refine mv_lpick [0, 2] rfl ?_
      exact jn77 _ _ r_g9 hf
  have jn32 : ∀ (x1 : Int32) (x2 : Int32) (y0 : Int32) (hz : mv_H), mv_r hz = mv_r h → f_Weaver_beginAssignment_32 x1 x2 y0 hz = some rg → mv_V p l e ({ frames := 3, cells := 0, slots := 0, locals := 63 }) s m ([.ref (al 2)] : List Value).toArray below meth c (mg dA D al ext) 4 0 0 (mv_Q (mg dA D al ext) below s 0 0 (mv_Rv (fun σ1 => rg = σ1 ∧ mv_r σ1 = mv_r h))) hz 32 [(0, .ref (al 2)), (1, .int x1), (2, .int x2)] [.int y0] := by
    intro x1 x2 y0 hz r_hz hf
    unfold f_Weaver_beginAssignment_32 at hf
    refine mv_istore_n (pc := 32) B d_Weaver_beginAssignment_32 rfl (by decide) rfl ?_
    refine mv_aload_n (pc := 33) B d_Weaver_beginAssignment_33 rfl 1 rfl ?_
    refine mv_aload_n (pc := 34) B d_Weaver_beginAssignment_34 rfl 1 rfl ?_
    refine mv_getR (pc := 35) (ci := 1) (C := R_Weaver) (T := F_Weaver) (N := 16) B 1 rfl rfl (by decide) i_Weaver (B.2.2.2.1 _ k_229) rfl ((congrFun (congrFun r_hz 2) 1).trans (hb.1 2 1 _ rfl)) d_Weaver_beginAssignment_35 ?_
    refine mv_getR (pc := 38) (ci := 4) (C := R_Names) (T := F_Names) (N := 10) B 2 rfl rfl (by decide) i_Names (B.2.2.2.1 _ k_138) rfl ((congrFun (congrFun r_hz 13) 2).trans (hb.1 13 2 _ rfl)) d_Weaver_beginAssignment_38 ?_
    refine mv_iload_n (pc := 41) B d_Weaver_beginAssignment_41 rfl 3 rfl ?_
    obtain ⟨q10, hf⟩ := xvi_e hf
    refine mv_iald (pc := 42) B rfl q10 d_Weaver_beginAssignment_42 ?_
    refine mv_putI (pc := 43) (ci := 1) (C := R_Weaver) (T := F_Weaver) (N := 16) B 9 rfl rfl (by decide) i_Weaver t_Weaver_ok n_Weaver (B.2.2.2.1 _ k_239) rfl rfl rfl rfl d_Weaver_beginAssignment_43 ?_
    refine mvh_hp (R9 := mv_r h) hf r_hz (fun g11 hf r_g11 => ?_)
    refine mv_aload_n (pc := 46) B d_Weaver_beginAssignment_46 rfl 1 rfl ?_
    refine mv_getR (pc := 47) (ci := 1) (C := R_Weaver) (T := F_Weaver) (N := 16) B 1 rfl rfl (by decide) i_Weaver (B.2.2.2.1 _ k_229) rfl ((congrFun (congrFun r_g11 2) 1).trans (hb.1 2 1 _ rfl)) d_Weaver_beginAssignment_47 ?_
    refine mv_iload_n (pc := 50) B d_Weaver_beginAssignment_50 rfl 3 rfl ?_
    obtain ⟨v13, g12, eg12, hf⟩ := xhb_e hf
    refine mv_callVi (pc := 51) (n := 1) (ci := 4) (C := R_Names) B (mK_ok sk sv) hNs rfl rfl (ch_Names_kindOf l hi _ (xrw r_g11 hb) _ eg12) rfl (ma_goodc kc_Names_kindOf) (B.2.2.2.1 _ k_1316) (B.2.2.2.1 _ k_1317) (B.2.2.2.1 _ k_1318) (B.2.2.2.1 _ k_5) ⟨by decide +kernel, by decide +kernel, by decide +kernel⟩ rfl d_Weaver_beginAssignment_51 rfl (Nat.le_of_ble_eq_true rfl) ⟨by decide, by decide⟩ ⟨by decide, by decide⟩ ⟨by decide, by decide⟩ (mv_noH hno _) (fun w51 σ51 h51 => ?_)
    obtain ⟨rfl, rfl, s_g12⟩ := h51
    have r_g12 : mv_r g12 = mv_r h := s_g12.trans r_g11
    refine mv_iload_n (pc := 54) B d_Weaver_beginAssignment_54 rfl 0 rfl ?_
    refine mv_if_eq (pc := 55) (tgt := 62) B d_Weaver_beginAssignment_55 rfl (fun h55 => ?_) (fun h55 => ?_)
    · skip
      have hf := xif_t h55 hf
      refine mv_iconst (pc := 62) (v := 1) B d_Weaver_beginAssignment_62 (by decide) ?_
      refine mv_lpick [1, 2, 0] rfl ?_
      exact jn63 _ _ _ _ _ r_g12 hf
    · skip
      have hf := xif_f h55 hf
      refine mv_iconst (pc := 58) (v := 2) B d_Weaver_beginAssignment_58 (by decide) ?_
      refine mv_goto (pc := 59) (tgt := 63) B d_Weaver_beginAssignment_59 rfl ?_
      refine mv_lpick [1, 2, 0] rfl ?_
      exact jn63 _ _ _ _ _ r_g12 hf
  unfold f_Weaver_beginAssignment at hf
  refine mv_aload_n (pc := 0) B d_Weaver_beginAssignment_0 rfl 0 rfl ?_
  refine mv_getR (pc := 1) (ci := 1) (C := R_Weaver) (T := F_Weaver) (N := 16) B 0 rfl rfl (by decide) i_Weaver (B.2.2.2.1 _ k_228) rfl (hb.1 2 0 _ rfl) d_Weaver_beginAssignment_1 ?_
  refine mv_iconst (pc := 4) (v := 3) B d_Weaver_beginAssignment_4 (by decide) ?_
  obtain ⟨v15, g14, eg14, hf⟩ := xhb_e hf
  refine mv_callVi (pc := 5) (n := 1) (ci := 2) (C := R_Tokens) B (mK_ok sk sv) hNs rfl rfl (ch_Tokens_take l hi _ (hb) _ eg14) rfl (ma_goodc kc_Tokens_take) (B.2.2.2.1 _ k_1266) (B.2.2.2.1 _ k_1267) (B.2.2.2.1 _ k_1268) (B.2.2.2.1 _ k_3) ⟨by decide +kernel, by decide +kernel, by decide +kernel⟩ rfl d_Weaver_beginAssignment_5 rfl (Nat.le_of_ble_eq_true rfl) ⟨by decide, by decide⟩ ⟨by decide, by decide⟩ ⟨by decide, by decide⟩ (mv_noH hno _) (fun w5 σ5 h5 => ?_)
  obtain ⟨rfl, rfl, s_g14⟩ := h5
  have r_g14 : mv_r g14 = mv_r h := s_g14.trans rfl
  refine mv_istore_n (pc := 8) B d_Weaver_beginAssignment_8 rfl (by decide) rfl ?_
  refine mv_aload_n (pc := 9) B d_Weaver_beginAssignment_9 rfl 1 rfl ?_
  refine mv_iload_n (pc := 10) B d_Weaver_beginAssignment_10 rfl 0 rfl ?_
  obtain ⟨v17, g16, eg16, hf⟩ := xhb_e hf
  refine mv_callVi (pc := 11) (n := 1) (ci := 1) (C := R_Weaver) B (mK_ok sk sv) hNs rfl rfl (ch_Weaver_symbolOf l hi _ (xrw r_g14 hb) _ eg16) rfl (ma_goodc kc_Weaver_symbolOf) (B.2.2.2.1 _ k_1312) (B.2.2.2.1 _ k_1314) (B.2.2.2.1 _ ks_37) (B.2.2.2.1 _ k_2) ⟨by decide +kernel, by decide +kernel, by decide +kernel⟩ rfl d_Weaver_beginAssignment_11 rfl (Nat.le_of_ble_eq_true rfl) ⟨by decide, by decide⟩ ⟨by decide, by decide⟩ ⟨by decide, by decide⟩ (mv_noH hno _) (fun w11 σ11 h11 => ?_)
  obtain ⟨rfl, rfl, s_g16⟩ := h11
  have r_g16 : mv_r g16 = mv_r h := s_g16.trans r_g14
  refine mv_istore_n (pc := 14) B d_Weaver_beginAssignment_14 rfl (by decide) rfl ?_
  refine mv_aload_n (pc := 15) B d_Weaver_beginAssignment_15 rfl 2 rfl ?_
  refine mv_getR (pc := 16) (ci := 1) (C := R_Weaver) (T := F_Weaver) (N := 16) B 0 rfl rfl (by decide) i_Weaver (B.2.2.2.1 _ k_228) rfl ((congrFun (congrFun r_g16 2) 0).trans (hb.1 2 0 _ rfl)) d_Weaver_beginAssignment_16 ?_
  obtain ⟨v19, g18, eg18, hf⟩ := xhb_e hf
  refine mv_callVi (pc := 19) (n := 0) (ci := 2) (C := R_Tokens) B (mK_ok sk sv) hNs rfl rfl (ch_Tokens_kind l hi _ (xrw r_g16 hb) eg18) rfl (ma_goodc kc_Tokens_kind) (B.2.2.2.1 _ k_1299) (B.2.2.2.1 _ k_1271) (B.2.2.2.1 _ k_1272) (B.2.2.2.1 _ k_3) ⟨by decide +kernel, by decide +kernel, by decide +kernel⟩ rfl d_Weaver_beginAssignment_19 rfl (Nat.le_of_ble_eq_true rfl) ⟨by decide, by decide⟩ ⟨by decide, by decide⟩ ⟨by decide, by decide⟩ (mv_noH hno _) (fun w19 σ19 h19 => ?_)
  obtain ⟨rfl, rfl, s_g18⟩ := h19
  have r_g18 : mv_r g18 = mv_r h := s_g18.trans r_g16
  refine mv_bipush (pc := 22) (v := 91) B d_Weaver_beginAssignment_22 (by decide) ?_
  refine mv_icmp_ne (pc := 24) (tgt := 31) B d_Weaver_beginAssignment_24 rfl (fun h24 => ?_) (fun h24 => ?_)
  · skip
    have hf := xif_f h24 hf
    refine mv_iconst (pc := 31) (v := 0) B d_Weaver_beginAssignment_31 (by decide) ?_
    refine mv_lpick [2, 1, 0] rfl ?_
    exact jn32 _ _ _ _ r_g18 hf
  · skip
    have hf := xif_t h24 hf
    refine mv_iconst (pc := 27) (v := 1) B d_Weaver_beginAssignment_27 (by decide) ?_
    refine mv_goto (pc := 28) (tgt := 32) B d_Weaver_beginAssignment_28 rfl ?_
    refine mv_lpick [2, 1, 0] rfl ?_
    exact jn32 _ _ _ _ r_g18 hf
def f_Weaver_closeBlock_181 (P : Nat) (hz : mv_H) : Option mv_H := bif xvi (mv_i hz 2 15) 61 then xhv (f_Program_aim P hz (mv_a hz 29 ((mv_i hz 2 15)).toNatClampNeg)) fun g2 => bif xvi (mv_i g2 2 15) 61 then xhv (f_Program_aimAll P g2 (mv_a g2 30 ((mv_i g2 2 15)).toNatClampNeg)) fun g4 => some g4 else none else none
def f_Weaver_closeBlock (P : Nat) (h : mv_H) : Option mv_H := xhb (f_Tokens_close h (125 : Int32)) fun v6 g5 => xk (mv_si g5 2 15 ((mv_i g5 2 15) - (1 : Int32))) fun g7 => bif xvi (mv_i g7 2 15) 61 then xhv (f_Names_forget g7 (mv_a g7 31 ((mv_i g7 2 15)).toNatClampNeg)) fun g9 => bif xvi (mv_i g9 2 15) 61 then if (mv_a g9 28 ((mv_i g9 2 15)).toNatClampNeg) = (206 : Int32) then (xhb (f_Program_emit P g9 (317 : Int32) (0 : Int64)) fun v25 g24 => xhv (f_Names_leaveOp g24) fun g26 => xk (mv_si g26 2 6 (0 : Int32)) fun g27 => some g27) else (if (mv_a g9 28 ((mv_i g9 2 15)).toNatClampNeg) = (209 : Int32) then (xhb (f_Tokens_kind g9) fun v12 g11 => if v12 = (210 : Int32) then (xhb (f_Tokens_take g11 (210 : Int32)) fun v14 g13 => bif xvi (mv_i g13 2 15) 61 then xhb (f_Program_emit P g13 (311 : Int32) (((mv_a g13 30 ((mv_i g13 2 15)).toNatClampNeg)).toInt64)) fun v17 g16 => bif xvi (mv_i g16 2 15) 61 then xhv (f_Program_aim P g16 (mv_a g16 29 ((mv_i g16 2 15)).toNatClampNeg)) fun g19 => xhb (f_Tokens_kind g19) fun v21 g20 => if v21 = (209 : Int32) then (xhv (f_Weaver_beginIf g20 v17) fun g23 => some g23) else (xhv (f_Weaver_openBlock g20 (210 : Int32) (-1 : Int32) v17) fun g22 => some g22) else none else none) else (f_Weaver_closeBlock_181 P  g11)) else (f_Weaver_closeBlock_181 P  g9)) else none else none
set_option maxHeartbeats 4000000 in
set_option maxRecDepth 100000 in
theorem ch_Weaver_closeBlock_a (l : Launch) {dA : FieldType → ClassId} {D : va_G} {al : Nat → Nat} {ext : mv_Sh} {sk sv : Nat → Nat} (hi : mv_inj (mg dA D al ext)) (h : mv_H) (hb : xRP 32 (mv_r h))  {rg : mv_H} (hf : f_Weaver_closeBlock 32 h = some rg) : mv_C l y_Weaver_closeBlock (Cond.code y_Weaver_closeBlock b_Weaver_closeBlock 3 (Option.none : Option Jvm.ClassFile.FieldType) :: ma) ({ frames := 4, cells := 0, slots := 0, locals := 86 }) (mg dA D al ext) (mK sk sv) [.ref (al 2)] h (mv_Rv (fun σ1 => rg = σ1 ∧ mv_r σ1 = mv_r h)) := by
  refine mv_C.ofV (cc := b_Weaver_closeBlock) (nL := 3) (ret := (Option.none : Option Jvm.ClassFile.FieldType)) (by decide +kernel) rfl hi (Nat.le_of_ble_eq_true rfl) ?_
  intro p e s m below meth c B hNs hr hnm hno
  have jn181 : ∀ (hz : mv_H), mv_r hz = mv_r h → f_Weaver_closeBlock_181 32  hz = some rg → mv_V p l e ({ frames := 4, cells := 0, slots := 0, locals := 86 }) s m ([.ref (al 2)] : List Value).toArray below meth c (mg dA D al ext) 3 0 0 (mv_Q (mg dA D al ext) below s 0 0 (mv_Rv (fun σ1 => rg = σ1 ∧ mv_r σ1 = mv_r h))) hz 181 [(0, .ref (al 2))] [] := by
    intro  hz r_hz hf
    unfold f_Weaver_closeBlock_181 at hf
    refine mv_aload_n (pc := 181) B d_Weaver_closeBlock_181 rfl 0 rfl ?_
    refine mv_getR (pc := 182) (ci := 1) (C := R_Weaver) (T := F_Weaver) (N := 16) B 5 rfl rfl (by decide) i_Weaver (B.2.2.2.1 _ k_235) rfl ((congrFun (congrFun r_hz 2) 5).trans hb.1.2.2.1) d_Weaver_closeBlock_182 ?_
    refine mv_aload_n (pc := 185) B d_Weaver_closeBlock_185 rfl 0 rfl ?_
    refine mv_getR (pc := 186) (ci := 1) (C := R_Weaver) (T := F_Weaver) (N := 16) B 12 rfl rfl (by decide) i_Weaver (B.2.2.2.1 _ k_242) rfl ((congrFun (congrFun r_hz 2) 12).trans (hb.1.1 2 12 _ rfl)) d_Weaver_closeBlock_186 ?_
    refine mv_aload_n (pc := 189) B d_Weaver_closeBlock_189 rfl 0 rfl ?_
    refine mv_getI (pc := 190) (ci := 1) (C := R_Weaver) (T := F_Weaver) (N := 16) B 15 rfl rfl (by decide) i_Weaver (B.2.2.2.1 _ k_245) rfl d_Weaver_closeBlock_190 ?_
    obtain ⟨q1, hf⟩ := xvi_e hf
    refine mv_iald (pc := 193) B rfl q1 d_Weaver_closeBlock_193 ?_
    obtain ⟨g2, eg2, hf⟩ := xhv_e hf
    refine mv_callVv (pc := 194) (n := 1) (ci := 7) (C := R_Program) B (mK_ok sk sv) hNs rfl rfl (ch_Program_aim_a l hi _ (xrw r_hz hb) _ eg2) rfl (ma_goodc kc_Program_aim) (B.2.2.2.1 _ k_1402) (B.2.2.2.1 _ k_1403) (B.2.2.2.1 _ k_1404) (B.2.2.2.1 _ k_8) ⟨by decide +kernel, by decide +kernel, by decide +kernel⟩ rfl d_Weaver_closeBlock_194 rfl (Nat.le_of_ble_eq_true rfl) ⟨by decide, by decide⟩ ⟨by decide, by decide⟩ ⟨by decide, by decide⟩ (mv_noH hno _) (fun σ194 h194 => ?_)
    obtain ⟨rfl, s_g2⟩ := h194
    have r_g2 : mv_r g2 = mv_r h := s_g2.trans r_hz
    refine mv_aload_n (pc := 197) B d_Weaver_closeBlock_197 rfl 0 rfl ?_
    refine mv_getR (pc := 198) (ci := 1) (C := R_Weaver) (T := F_Weaver) (N := 16) B 5 rfl rfl (by decide) i_Weaver (B.2.2.2.1 _ k_235) rfl ((congrFun (congrFun r_g2 2) 5).trans hb.1.2.2.1) d_Weaver_closeBlock_198 ?_
    refine mv_aload_n (pc := 201) B d_Weaver_closeBlock_201 rfl 0 rfl ?_
    refine mv_getR (pc := 202) (ci := 1) (C := R_Weaver) (T := F_Weaver) (N := 16) B 13 rfl rfl (by decide) i_Weaver (B.2.2.2.1 _ k_243) rfl ((congrFun (congrFun r_g2 2) 13).trans (hb.1.1 2 13 _ rfl)) d_Weaver_closeBlock_202 ?_
    refine mv_aload_n (pc := 205) B d_Weaver_closeBlock_205 rfl 0 rfl ?_
    refine mv_getI (pc := 206) (ci := 1) (C := R_Weaver) (T := F_Weaver) (N := 16) B 15 rfl rfl (by decide) i_Weaver (B.2.2.2.1 _ k_245) rfl d_Weaver_closeBlock_206 ?_
    obtain ⟨q3, hf⟩ := xvi_e hf
    refine mv_iald (pc := 209) B rfl q3 d_Weaver_closeBlock_209 ?_
    obtain ⟨g4, eg4, hf⟩ := xhv_e hf
    refine mv_callVv (pc := 210) (n := 1) (ci := 7) (C := R_Program) B (mK_ok sk sv) hNs rfl rfl (ch_Program_aimAll_a l hi _ (xrw r_g2 hb) _ eg4) rfl (ma_goodc kc_Program_aimAll) (B.2.2.2.1 _ k_1406) (B.2.2.2.1 _ k_1407) (B.2.2.2.1 _ k_1408) (B.2.2.2.1 _ k_8) ⟨by decide +kernel, by decide +kernel, by decide +kernel⟩ rfl d_Weaver_closeBlock_210 rfl (Nat.le_of_ble_eq_true rfl) ⟨by decide, by decide⟩ ⟨by decide, by decide⟩ ⟨by decide, by decide⟩ (mv_noH hno _) (fun σ210 h210 => ?_)
    obtain ⟨rfl, s_g4⟩ := h210
    have r_g4 : mv_r g4 = mv_r h := s_g4.trans r_g2
    exact mv_vret (pc := 213) B hr d_Weaver_closeBlock_213 (Nat.le_refl _) (Nat.le_refl _) ⟨rfl, xrh_v hf r_g4⟩
  unfold f_Weaver_closeBlock at hf
  refine mv_aload_n (pc := 0) B d_Weaver_closeBlock_0 rfl 0 rfl ?_
  refine mv_getR (pc := 1) (ci := 1) (C := R_Weaver) (T := F_Weaver) (N := 16) B 0 rfl rfl (by decide) i_Weaver (B.2.2.2.1 _ k_228) rfl (hb.1.1 2 0 _ rfl) d_Weaver_closeBlock_1 ?_
  refine mv_bipush (pc := 4) (v := 125) B d_Weaver_closeBlock_4 (by decide) ?_
  obtain ⟨v6, g5, eg5, hf⟩ := xhb_e hf
  refine mv_callVi (pc := 6) (n := 1) (ci := 2) (C := R_Tokens) B (mK_ok sk sv) hNs rfl rfl (ch_Tokens_close l hi _ (hb.t) _ eg5) rfl (ma_goodc kc_Tokens_close) (B.2.2.2.1 _ k_1396) (B.2.2.2.1 _ k_1397) (B.2.2.2.1 _ k_1398) (B.2.2.2.1 _ k_3) ⟨by decide +kernel, by decide +kernel, by decide +kernel⟩ rfl d_Weaver_closeBlock_6 rfl (Nat.le_of_ble_eq_true rfl) ⟨by decide, by decide⟩ ⟨by decide, by decide⟩ ⟨by decide, by decide⟩ (mv_noH hno _) (fun w6 σ6 h6 => ?_)
  obtain ⟨rfl, rfl, s_g5⟩ := h6
  have r_g5 : mv_r g5 = mv_r h := s_g5.trans rfl
  refine mv_pop (pc := 9) B d_Weaver_closeBlock_9 rfl ?_
  refine mv_aload_n (pc := 10) B d_Weaver_closeBlock_10 rfl 0 rfl ?_
  refine mv_dup (pc := 11) B d_Weaver_closeBlock_11 rfl ?_
  refine mv_getI (pc := 12) (ci := 1) (C := R_Weaver) (T := F_Weaver) (N := 16) B 15 rfl rfl (by decide) i_Weaver (B.2.2.2.1 _ k_245) rfl d_Weaver_closeBlock_12 ?_
  refine mv_iconst (pc := 15) (v := 1) B d_Weaver_closeBlock_15 (by decide) ?_
  refine mv_isub (pc := 16) B d_Weaver_closeBlock_16 ?_
  refine mv_putI (pc := 17) (ci := 1) (C := R_Weaver) (T := F_Weaver) (N := 16) B 15 rfl rfl (by decide) i_Weaver t_Weaver_ok n_Weaver (B.2.2.2.1 _ k_245) rfl rfl rfl rfl d_Weaver_closeBlock_17 ?_
  refine mvh_hp (R9 := mv_r h) hf r_g5 (fun g7 hf r_g7 => ?_)
  refine mv_aload_n (pc := 20) B d_Weaver_closeBlock_20 rfl 0 rfl ?_
  refine mv_getR (pc := 21) (ci := 1) (C := R_Weaver) (T := F_Weaver) (N := 16) B 1 rfl rfl (by decide) i_Weaver (B.2.2.2.1 _ k_229) rfl ((congrFun (congrFun r_g7 2) 1).trans (hb.1.1 2 1 _ rfl)) d_Weaver_closeBlock_21 ?_
  refine mv_aload_n (pc := 24) B d_Weaver_closeBlock_24 rfl 0 rfl ?_
  refine mv_getR (pc := 25) (ci := 1) (C := R_Weaver) (T := F_Weaver) (N := 16) B 14 rfl rfl (by decide) i_Weaver (B.2.2.2.1 _ k_244) rfl ((congrFun (congrFun r_g7 2) 14).trans (hb.1.1 2 14 _ rfl)) d_Weaver_closeBlock_25 ?_
  refine mv_aload_n (pc := 28) B d_Weaver_closeBlock_28 rfl 0 rfl ?_
  refine mv_getI (pc := 29) (ci := 1) (C := R_Weaver) (T := F_Weaver) (N := 16) B 15 rfl rfl (by decide) i_Weaver (B.2.2.2.1 _ k_245) rfl d_Weaver_closeBlock_29 ?_
  obtain ⟨q8, hf⟩ := xvi_e hf
  refine mv_iald (pc := 32) B rfl q8 d_Weaver_closeBlock_32 ?_
  obtain ⟨g9, eg9, hf⟩ := xhv_e hf
  refine mv_callVv (pc := 33) (n := 1) (ci := 4) (C := R_Names) B (mK_ok sk sv) hNs rfl rfl (ch_Names_forget l hi _ (xrw r_g7 hb.t) _ eg9) rfl (ma_goodc kc_Names_forget) (B.2.2.2.1 _ k_1400) (B.2.2.2.1 _ k_1259) (B.2.2.2.1 _ k_1260) (B.2.2.2.1 _ k_5) ⟨by decide +kernel, by decide +kernel, by decide +kernel⟩ rfl d_Weaver_closeBlock_33 rfl (Nat.le_of_ble_eq_true rfl) ⟨by decide, by decide⟩ ⟨by decide, by decide⟩ ⟨by decide, by decide⟩ (mv_noH hno _) (fun σ33 h33 => ?_)
  obtain ⟨rfl, s_g9⟩ := h33
  have r_g9 : mv_r g9 = mv_r h := s_g9.trans r_g7
  refine mv_aload_n (pc := 36) B d_Weaver_closeBlock_36 rfl 0 rfl ?_
  refine mv_getR (pc := 37) (ci := 1) (C := R_Weaver) (T := F_Weaver) (N := 16) B 11 rfl rfl (by decide) i_Weaver (B.2.2.2.1 _ k_241) rfl ((congrFun (congrFun r_g9 2) 11).trans (hb.1.1 2 11 _ rfl)) d_Weaver_closeBlock_37 ?_
  refine mv_aload_n (pc := 40) B d_Weaver_closeBlock_40 rfl 0 rfl ?_
  refine mv_getI (pc := 41) (ci := 1) (C := R_Weaver) (T := F_Weaver) (N := 16) B 15 rfl rfl (by decide) i_Weaver (B.2.2.2.1 _ k_245) rfl d_Weaver_closeBlock_41 ?_
  obtain ⟨q10, hf⟩ := xvi_e hf
  refine mv_iald (pc := 44) B rfl q10 d_Weaver_closeBlock_44 ?_
  refine mv_istore_n (pc := 45) B d_Weaver_closeBlock_45 rfl (by decide) rfl ?_
  refine mv_iload_n (pc := 46) B d_Weaver_closeBlock_46 rfl 0 rfl ?_
  refine mv_sipush (pc := 47) (v := 206) B d_Weaver_closeBlock_47 (by decide) ?_
  refine mv_icmp_ne (pc := 50) (tgt := 80) B d_Weaver_closeBlock_50 rfl (fun h50 => ?_) (fun h50 => ?_)
  · skip
    have hf := xif_f h50 hf
    refine mv_iload_n (pc := 80) B d_Weaver_closeBlock_80 rfl 0 rfl ?_
    refine mv_sipush (pc := 81) (v := 209) B d_Weaver_closeBlock_81 (by decide) ?_
    refine mv_icmp_ne (pc := 84) (tgt := 181) B d_Weaver_closeBlock_84 rfl (fun h84 => ?_) (fun h84 => ?_)
    · skip
      have hf := xif_f h84 hf
      refine mv_lpick [1] rfl ?_
      exact jn181  _ r_g9 hf
    · skip
      have hf := xif_t h84 hf
      refine mv_aload_n (pc := 87) B d_Weaver_closeBlock_87 rfl 1 rfl ?_
      refine mv_getR (pc := 88) (ci := 1) (C := R_Weaver) (T := F_Weaver) (N := 16) B 0 rfl rfl (by decide) i_Weaver (B.2.2.2.1 _ k_228) rfl ((congrFun (congrFun r_g9 2) 0).trans (hb.1.1 2 0 _ rfl)) d_Weaver_closeBlock_88 ?_
      obtain ⟨v12, g11, eg11, hf⟩ := xhb_e hf
      refine mv_callVi (pc := 91) (n := 0) (ci := 2) (C := R_Tokens) B (mK_ok sk sv) hNs rfl rfl (ch_Tokens_kind l hi _ (xrw r_g9 hb.t) eg11) rfl (ma_goodc kc_Tokens_kind) (B.2.2.2.1 _ k_1299) (B.2.2.2.1 _ k_1271) (B.2.2.2.1 _ k_1272) (B.2.2.2.1 _ k_3) ⟨by decide +kernel, by decide +kernel, by decide +kernel⟩ rfl d_Weaver_closeBlock_91 rfl (Nat.le_of_ble_eq_true rfl) ⟨by decide, by decide⟩ ⟨by decide, by decide⟩ ⟨by decide, by decide⟩ (mv_noH hno _) (fun w91 σ91 h91 => ?_)
      obtain ⟨rfl, rfl, s_g11⟩ := h91
      have r_g11 : mv_r g11 = mv_r h := s_g11.trans r_g9
      refine mv_sipush (pc := 94) (v := 210) B d_Weaver_closeBlock_94 (by decide) ?_
      refine mv_icmp_ne (pc := 97) (tgt := 181) B d_Weaver_closeBlock_97 rfl (fun h97 => ?_) (fun h97 => ?_)
      · skip
        have hf := xif_f h97 hf
        refine mv_lpick [1] rfl ?_
        exact jn181  _ r_g11 hf
      · skip
        have hf := xif_t h97 hf
        refine mv_aload_n (pc := 100) B d_Weaver_closeBlock_100 rfl 1 rfl ?_
        refine mv_getR (pc := 101) (ci := 1) (C := R_Weaver) (T := F_Weaver) (N := 16) B 0 rfl rfl (by decide) i_Weaver (B.2.2.2.1 _ k_228) rfl ((congrFun (congrFun r_g11 2) 0).trans (hb.1.1 2 0 _ rfl)) d_Weaver_closeBlock_101 ?_
        refine mv_sipush (pc := 104) (v := 210) B d_Weaver_closeBlock_104 (by decide) ?_
        obtain ⟨v14, g13, eg13, hf⟩ := xhb_e hf
        refine mv_callVi (pc := 107) (n := 1) (ci := 2) (C := R_Tokens) B (mK_ok sk sv) hNs rfl rfl (ch_Tokens_take l hi _ (xrw r_g11 hb.t) _ eg13) rfl (ma_goodc kc_Tokens_take) (B.2.2.2.1 _ k_1266) (B.2.2.2.1 _ k_1267) (B.2.2.2.1 _ k_1268) (B.2.2.2.1 _ k_3) ⟨by decide +kernel, by decide +kernel, by decide +kernel⟩ rfl d_Weaver_closeBlock_107 rfl (Nat.le_of_ble_eq_true rfl) ⟨by decide, by decide⟩ ⟨by decide, by decide⟩ ⟨by decide, by decide⟩ (mv_noH hno _) (fun w107 σ107 h107 => ?_)
        obtain ⟨rfl, rfl, s_g13⟩ := h107
        have r_g13 : mv_r g13 = mv_r h := s_g13.trans r_g11
        refine mv_pop (pc := 110) B d_Weaver_closeBlock_110 rfl ?_
        refine mv_aload_n (pc := 111) B d_Weaver_closeBlock_111 rfl 1 rfl ?_
        refine mv_getR (pc := 112) (ci := 1) (C := R_Weaver) (T := F_Weaver) (N := 16) B 5 rfl rfl (by decide) i_Weaver (B.2.2.2.1 _ k_235) rfl ((congrFun (congrFun r_g13 2) 5).trans hb.1.2.2.1) d_Weaver_closeBlock_112 ?_
        refine mv_sipush (pc := 115) (v := 311) B d_Weaver_closeBlock_115 (by decide) ?_
        refine mv_aload_n (pc := 118) B d_Weaver_closeBlock_118 rfl 1 rfl ?_
        refine mv_getR (pc := 119) (ci := 1) (C := R_Weaver) (T := F_Weaver) (N := 16) B 13 rfl rfl (by decide) i_Weaver (B.2.2.2.1 _ k_243) rfl ((congrFun (congrFun r_g13 2) 13).trans (hb.1.1 2 13 _ rfl)) d_Weaver_closeBlock_119 ?_
        refine mv_aload_n (pc := 122) B d_Weaver_closeBlock_122 rfl 1 rfl ?_
        refine mv_getI (pc := 123) (ci := 1) (C := R_Weaver) (T := F_Weaver) (N := 16) B 15 rfl rfl (by decide) i_Weaver (B.2.2.2.1 _ k_245) rfl d_Weaver_closeBlock_123 ?_
        obtain ⟨q15, hf⟩ := xvi_e hf
        refine mv_iald (pc := 126) B rfl q15 d_Weaver_closeBlock_126 ?_
        refine mv_i2l (pc := 127) B d_Weaver_closeBlock_127 ?_
        obtain ⟨v17, g16, eg16, hf⟩ := xhb_e hf
        refine mv_callVi (pc := 128) (n := 2) (ci := 7) (C := R_Program) B (mK_ok sk sv) hNs rfl rfl (ch_Program_emit_a l hi _ (xrw r_g13 hb) _ _ eg16) rfl (ma_goodc kc_Program_emit) (B.2.2.2.1 _ k_1384) (B.2.2.2.1 _ k_1385) (B.2.2.2.1 _ k_1386) (B.2.2.2.1 _ k_8) ⟨by decide +kernel, by decide +kernel, by decide +kernel⟩ rfl d_Weaver_closeBlock_128 rfl (Nat.le_of_ble_eq_true rfl) ⟨by decide, by decide⟩ ⟨by decide, by decide⟩ ⟨by decide, by decide⟩ (mv_noH hno _) (fun w128 σ128 h128 => ?_)
        obtain ⟨rfl, rfl, s_g16⟩ := h128
        have r_g16 : mv_r g16 = mv_r h := s_g16.trans r_g13
        refine mv_istore_n (pc := 131) B d_Weaver_closeBlock_131 rfl (by decide) rfl ?_
        refine mv_aload_n (pc := 132) B d_Weaver_closeBlock_132 rfl 2 rfl ?_
        refine mv_getR (pc := 133) (ci := 1) (C := R_Weaver) (T := F_Weaver) (N := 16) B 5 rfl rfl (by decide) i_Weaver (B.2.2.2.1 _ k_235) rfl ((congrFun (congrFun r_g16 2) 5).trans hb.1.2.2.1) d_Weaver_closeBlock_133 ?_
        refine mv_aload_n (pc := 136) B d_Weaver_closeBlock_136 rfl 2 rfl ?_
        refine mv_getR (pc := 137) (ci := 1) (C := R_Weaver) (T := F_Weaver) (N := 16) B 12 rfl rfl (by decide) i_Weaver (B.2.2.2.1 _ k_242) rfl ((congrFun (congrFun r_g16 2) 12).trans (hb.1.1 2 12 _ rfl)) d_Weaver_closeBlock_137 ?_
        refine mv_aload_n (pc := 140) B d_Weaver_closeBlock_140 rfl 2 rfl ?_
        refine mv_getI (pc := 141) (ci := 1) (C := R_Weaver) (T := F_Weaver) (N := 16) B 15 rfl rfl (by decide) i_Weaver (B.2.2.2.1 _ k_245) rfl d_Weaver_closeBlock_141 ?_
        obtain ⟨q18, hf⟩ := xvi_e hf
        refine mv_iald (pc := 144) B rfl q18 d_Weaver_closeBlock_144 ?_
        obtain ⟨g19, eg19, hf⟩ := xhv_e hf
        refine mv_callVv (pc := 145) (n := 1) (ci := 7) (C := R_Program) B (mK_ok sk sv) hNs rfl rfl (ch_Program_aim_a l hi _ (xrw r_g16 hb) _ eg19) rfl (ma_goodc kc_Program_aim) (B.2.2.2.1 _ k_1402) (B.2.2.2.1 _ k_1403) (B.2.2.2.1 _ k_1404) (B.2.2.2.1 _ k_8) ⟨by decide +kernel, by decide +kernel, by decide +kernel⟩ rfl d_Weaver_closeBlock_145 rfl (Nat.le_of_ble_eq_true rfl) ⟨by decide, by decide⟩ ⟨by decide, by decide⟩ ⟨by decide, by decide⟩ (mv_noH hno _) (fun σ145 h145 => ?_)
        obtain ⟨rfl, s_g19⟩ := h145
        have r_g19 : mv_r g19 = mv_r h := s_g19.trans r_g16
        refine mv_aload_n (pc := 148) B d_Weaver_closeBlock_148 rfl 2 rfl ?_
        refine mv_getR (pc := 149) (ci := 1) (C := R_Weaver) (T := F_Weaver) (N := 16) B 0 rfl rfl (by decide) i_Weaver (B.2.2.2.1 _ k_228) rfl ((congrFun (congrFun r_g19 2) 0).trans (hb.1.1 2 0 _ rfl)) d_Weaver_closeBlock_149 ?_
        obtain ⟨v21, g20, eg20, hf⟩ := xhb_e hf
        refine mv_callVi (pc := 152) (n := 0) (ci := 2) (C := R_Tokens) B (mK_ok sk sv) hNs rfl rfl (ch_Tokens_kind l hi _ (xrw r_g19 hb.t) eg20) rfl (ma_goodc kc_Tokens_kind) (B.2.2.2.1 _ k_1299) (B.2.2.2.1 _ k_1271) (B.2.2.2.1 _ k_1272) (B.2.2.2.1 _ k_3) ⟨by decide +kernel, by decide +kernel, by decide +kernel⟩ rfl d_Weaver_closeBlock_152 rfl (Nat.le_of_ble_eq_true rfl) ⟨by decide, by decide⟩ ⟨by decide, by decide⟩ ⟨by decide, by decide⟩ (mv_noH hno _) (fun w152 σ152 h152 => ?_)
        obtain ⟨rfl, rfl, s_g20⟩ := h152
        have r_g20 : mv_r g20 = mv_r h := s_g20.trans r_g19
        refine mv_sipush (pc := 155) (v := 209) B d_Weaver_closeBlock_155 (by decide) ?_
        refine mv_icmp_ne (pc := 158) (tgt := 169) B d_Weaver_closeBlock_158 rfl (fun h158 => ?_) (fun h158 => ?_)
        · skip
          have hf := xif_f h158 hf
          refine mv_aload_n (pc := 169) B d_Weaver_closeBlock_169 rfl 2 rfl ?_
          refine mv_sipush (pc := 170) (v := 210) B d_Weaver_closeBlock_170 (by decide) ?_
          refine mv_iconst (pc := 173) (v := -1) B d_Weaver_closeBlock_173 (by decide) ?_
          refine mv_iload_n (pc := 174) B d_Weaver_closeBlock_174 rfl 0 rfl ?_
          obtain ⟨g22, eg22, hf⟩ := xhv_e hf
          refine mv_callVv (pc := 175) (n := 3) (ci := 1) (C := R_Weaver) B (mK_ok sk sv) hNs rfl rfl (ch_Weaver_openBlock l hi _ (xrw r_g20 hb.t) _ _ _ eg22) rfl (ma_goodc kc_Weaver_openBlock) (B.2.2.2.1 _ k_1345) (B.2.2.2.1 _ k_1347) (B.2.2.2.1 _ ks_41) (B.2.2.2.1 _ k_2) ⟨by decide +kernel, by decide +kernel, by decide +kernel⟩ rfl d_Weaver_closeBlock_175 rfl (Nat.le_of_ble_eq_true rfl) ⟨by decide, by decide⟩ ⟨by decide, by decide⟩ ⟨by decide, by decide⟩ (mv_noH hno _) (fun σ175 h175 => ?_)
          obtain ⟨rfl, s_g22⟩ := h175
          have r_g22 : mv_r g22 = mv_r h := s_g22.trans r_g20
          refine mv_goto (pc := 178) (tgt := 213) B d_Weaver_closeBlock_178 rfl ?_
          exact mv_vret (pc := 213) B hr d_Weaver_closeBlock_213 (Nat.le_refl _) (Nat.le_refl _) ⟨rfl, xrh_v hf r_g22⟩
        · skip
          have hf := xif_t h158 hf
          refine mv_aload_n (pc := 161) B d_Weaver_closeBlock_161 rfl 2 rfl ?_
          refine mv_iload_n (pc := 162) B d_Weaver_closeBlock_162 rfl 0 rfl ?_
          obtain ⟨g23, eg23, hf⟩ := xhv_e hf
          refine mv_callVv (pc := 163) (n := 1) (ci := 1) (C := R_Weaver) B (mK_ok sk sv) hNs rfl rfl (ch_Weaver_beginIf l hi _ (xrw r_g20 hb.t) _ eg23) rfl (ma_goodc kc_Weaver_beginIf) (B.2.2.2.1 _ k_1388) (B.2.2.2.1 _ k_1390) (B.2.2.2.1 _ ks_46) (B.2.2.2.1 _ k_2) ⟨by decide +kernel, by decide +kernel, by decide +kernel⟩ rfl d_Weaver_closeBlock_163 rfl (Nat.le_of_ble_eq_true rfl) ⟨by decide, by decide⟩ ⟨by decide, by decide⟩ ⟨by decide, by decide⟩ (mv_noH hno _) (fun σ163 h163 => ?_)
          obtain ⟨rfl, s_g23⟩ := h163
          have r_g23 : mv_r g23 = mv_r h := s_g23.trans r_g20
          refine mv_goto (pc := 166) (tgt := 178) B d_Weaver_closeBlock_166 rfl ?_
          refine mv_goto (pc := 178) (tgt := 213) B d_Weaver_closeBlock_178 rfl ?_
          exact mv_vret (pc := 213) B hr d_Weaver_closeBlock_213 (Nat.le_refl _) (Nat.le_refl _) ⟨rfl, xrh_v hf r_g23⟩
  · skip
    have hf := xif_t h50 hf
    refine mv_aload_n (pc := 53) B d_Weaver_closeBlock_53 rfl 1 rfl ?_
    refine mv_getR (pc := 54) (ci := 1) (C := R_Weaver) (T := F_Weaver) (N := 16) B 5 rfl rfl (by decide) i_Weaver (B.2.2.2.1 _ k_235) rfl ((congrFun (congrFun r_g9 2) 5).trans hb.1.2.2.1) d_Weaver_closeBlock_54 ?_
    refine mv_sipush (pc := 57) (v := 317) B d_Weaver_closeBlock_57 (by decide) ?_
    refine mv_lconst (pc := 60) (v := 0) B d_Weaver_closeBlock_60 (by decide) ?_
    obtain ⟨v25, g24, eg24, hf⟩ := xhb_e hf
    refine mv_callVi (pc := 61) (n := 2) (ci := 7) (C := R_Program) B (mK_ok sk sv) hNs rfl rfl (ch_Program_emit_a l hi _ (xrw r_g9 hb) _ _ eg24) rfl (ma_goodc kc_Program_emit) (B.2.2.2.1 _ k_1384) (B.2.2.2.1 _ k_1385) (B.2.2.2.1 _ k_1386) (B.2.2.2.1 _ k_8) ⟨by decide +kernel, by decide +kernel, by decide +kernel⟩ rfl d_Weaver_closeBlock_61 rfl (Nat.le_of_ble_eq_true rfl) ⟨by decide, by decide⟩ ⟨by decide, by decide⟩ ⟨by decide, by decide⟩ (mv_noH hno _) (fun w61 σ61 h61 => ?_)
    obtain ⟨rfl, rfl, s_g24⟩ := h61
    have r_g24 : mv_r g24 = mv_r h := s_g24.trans r_g9
    refine mv_pop (pc := 64) B d_Weaver_closeBlock_64 rfl ?_
    refine mv_aload_n (pc := 65) B d_Weaver_closeBlock_65 rfl 1 rfl ?_
    refine mv_getR (pc := 66) (ci := 1) (C := R_Weaver) (T := F_Weaver) (N := 16) B 1 rfl rfl (by decide) i_Weaver (B.2.2.2.1 _ k_229) rfl ((congrFun (congrFun r_g24 2) 1).trans (hb.1.1 2 1 _ rfl)) d_Weaver_closeBlock_66 ?_
    obtain ⟨g26, eg26, hf⟩ := xhv_e hf
    refine mv_callVv (pc := 69) (n := 0) (ci := 4) (C := R_Names) B (mK_ok sk sv) hNs rfl rfl (ch_Names_leaveOp l hi _ (xrw r_g24 hb.t) eg26) rfl (ma_goodc kc_Names_leaveOp) (B.2.2.2.1 _ k_1401) (B.2.2.2.1 _ k_1251) (B.2.2.2.1 _ k_1252) (B.2.2.2.1 _ k_5) ⟨by decide +kernel, by decide +kernel, by decide +kernel⟩ rfl d_Weaver_closeBlock_69 rfl (Nat.le_of_ble_eq_true rfl) ⟨by decide, by decide⟩ ⟨by decide, by decide⟩ ⟨by decide, by decide⟩ (mv_noH hno _) (fun σ69 h69 => ?_)
    obtain ⟨rfl, s_g26⟩ := h69
    have r_g26 : mv_r g26 = mv_r h := s_g26.trans r_g24
    refine mv_aload_n (pc := 72) B d_Weaver_closeBlock_72 rfl 1 rfl ?_
    refine mv_iconst (pc := 73) (v := 0) B d_Weaver_closeBlock_73 (by decide) ?_
    refine mv_putI (pc := 74) (ci := 1) (C := R_Weaver) (T := F_Weaver) (N := 16) B 6 rfl rfl (by decide) i_Weaver t_Weaver_ok n_Weaver (B.2.2.2.1 _ k_236) rfl rfl rfl rfl d_Weaver_closeBlock_74 ?_
    refine mvh_hp (R9 := mv_r h) hf r_g26 (fun g27 hf r_g27 => ?_)
    refine mv_goto (pc := 77) (tgt := 213) B d_Weaver_closeBlock_77 rfl ?_
    exact mv_vret (pc := 213) B hr d_Weaver_closeBlock_213 (Nat.le_refl _) (Nat.le_refl _) ⟨rfl, xrh_v hf r_g27⟩
set_option maxHeartbeats 4000000 in
set_option maxRecDepth 100000 in
theorem ch_Weaver_closeBlock_b (l : Launch) {dA : FieldType → ClassId} {D : va_G} {al : Nat → Nat} {ext : mv_Sh} {sk sv : Nat → Nat} (hi : mv_inj (mg dA D al ext)) (h : mv_H) (hb : xRP 48 (mv_r h))  {rg : mv_H} (hf : f_Weaver_closeBlock 48 h = some rg) : mv_C l y_Weaver_closeBlock (Cond.code y_Weaver_closeBlock b_Weaver_closeBlock 3 (Option.none : Option Jvm.ClassFile.FieldType) :: ma) ({ frames := 4, cells := 0, slots := 0, locals := 86 }) (mg dA D al ext) (mK sk sv) [.ref (al 2)] h (mv_Rv (fun σ1 => rg = σ1 ∧ mv_r σ1 = mv_r h)) := by
  refine mv_C.ofV (cc := b_Weaver_closeBlock) (nL := 3) (ret := (Option.none : Option Jvm.ClassFile.FieldType)) (by decide +kernel) rfl hi (Nat.le_of_ble_eq_true rfl) ?_
  intro p e s m below meth c B hNs hr hnm hno
  have jn181 : ∀ (hz : mv_H), mv_r hz = mv_r h → f_Weaver_closeBlock_181 48  hz = some rg → mv_V p l e ({ frames := 4, cells := 0, slots := 0, locals := 86 }) s m ([.ref (al 2)] : List Value).toArray below meth c (mg dA D al ext) 3 0 0 (mv_Q (mg dA D al ext) below s 0 0 (mv_Rv (fun σ1 => rg = σ1 ∧ mv_r σ1 = mv_r h))) hz 181 [(0, .ref (al 2))] [] := by
    intro  hz r_hz hf
    unfold f_Weaver_closeBlock_181 at hf
    refine mv_aload_n (pc := 181) B d_Weaver_closeBlock_181 rfl 0 rfl ?_
    refine mv_getR (pc := 182) (ci := 1) (C := R_Weaver) (T := F_Weaver) (N := 16) B 5 rfl rfl (by decide) i_Weaver (B.2.2.2.1 _ k_235) rfl ((congrFun (congrFun r_hz 2) 5).trans hb.1.2.2.1) d_Weaver_closeBlock_182 ?_
    refine mv_aload_n (pc := 185) B d_Weaver_closeBlock_185 rfl 0 rfl ?_
    refine mv_getR (pc := 186) (ci := 1) (C := R_Weaver) (T := F_Weaver) (N := 16) B 12 rfl rfl (by decide) i_Weaver (B.2.2.2.1 _ k_242) rfl ((congrFun (congrFun r_hz 2) 12).trans (hb.1.1 2 12 _ rfl)) d_Weaver_closeBlock_186 ?_
    refine mv_aload_n (pc := 189) B d_Weaver_closeBlock_189 rfl 0 rfl ?_
    refine mv_getI (pc := 190) (ci := 1) (C := R_Weaver) (T := F_Weaver) (N := 16) B 15 rfl rfl (by decide) i_Weaver (B.2.2.2.1 _ k_245) rfl d_Weaver_closeBlock_190 ?_
    obtain ⟨q1, hf⟩ := xvi_e hf
    refine mv_iald (pc := 193) B rfl q1 d_Weaver_closeBlock_193 ?_
    obtain ⟨g2, eg2, hf⟩ := xhv_e hf
    refine mv_callVv (pc := 194) (n := 1) (ci := 7) (C := R_Program) B (mK_ok sk sv) hNs rfl rfl (ch_Program_aim_b l hi _ (xrw r_hz hb) _ eg2) rfl (ma_goodc kc_Program_aim) (B.2.2.2.1 _ k_1402) (B.2.2.2.1 _ k_1403) (B.2.2.2.1 _ k_1404) (B.2.2.2.1 _ k_8) ⟨by decide +kernel, by decide +kernel, by decide +kernel⟩ rfl d_Weaver_closeBlock_194 rfl (Nat.le_of_ble_eq_true rfl) ⟨by decide, by decide⟩ ⟨by decide, by decide⟩ ⟨by decide, by decide⟩ (mv_noH hno _) (fun σ194 h194 => ?_)
    obtain ⟨rfl, s_g2⟩ := h194
    have r_g2 : mv_r g2 = mv_r h := s_g2.trans r_hz
    refine mv_aload_n (pc := 197) B d_Weaver_closeBlock_197 rfl 0 rfl ?_
    refine mv_getR (pc := 198) (ci := 1) (C := R_Weaver) (T := F_Weaver) (N := 16) B 5 rfl rfl (by decide) i_Weaver (B.2.2.2.1 _ k_235) rfl ((congrFun (congrFun r_g2 2) 5).trans hb.1.2.2.1) d_Weaver_closeBlock_198 ?_
    refine mv_aload_n (pc := 201) B d_Weaver_closeBlock_201 rfl 0 rfl ?_
    refine mv_getR (pc := 202) (ci := 1) (C := R_Weaver) (T := F_Weaver) (N := 16) B 13 rfl rfl (by decide) i_Weaver (B.2.2.2.1 _ k_243) rfl ((congrFun (congrFun r_g2 2) 13).trans (hb.1.1 2 13 _ rfl)) d_Weaver_closeBlock_202 ?_
    refine mv_aload_n (pc := 205) B d_Weaver_closeBlock_205 rfl 0 rfl ?_
    refine mv_getI (pc := 206) (ci := 1) (C := R_Weaver) (T := F_Weaver) (N := 16) B 15 rfl rfl (by decide) i_Weaver (B.2.2.2.1 _ k_245) rfl d_Weaver_closeBlock_206 ?_
    obtain ⟨q3, hf⟩ := xvi_e hf
    refine mv_iald (pc := 209) B rfl q3 d_Weaver_closeBlock_209 ?_
    obtain ⟨g4, eg4, hf⟩ := xhv_e hf
    refine mv_callVv (pc := 210) (n := 1) (ci := 7) (C := R_Program) B (mK_ok sk sv) hNs rfl rfl (ch_Program_aimAll_b l hi _ (xrw r_g2 hb) _ eg4) rfl (ma_goodc kc_Program_aimAll) (B.2.2.2.1 _ k_1406) (B.2.2.2.1 _ k_1407) (B.2.2.2.1 _ k_1408) (B.2.2.2.1 _ k_8) ⟨by decide +kernel, by decide +kernel, by decide +kernel⟩ rfl d_Weaver_closeBlock_210 rfl (Nat.le_of_ble_eq_true rfl) ⟨by decide, by decide⟩ ⟨by decide, by decide⟩ ⟨by decide, by decide⟩ (mv_noH hno _) (fun σ210 h210 => ?_)
    obtain ⟨rfl, s_g4⟩ := h210
    have r_g4 : mv_r g4 = mv_r h := s_g4.trans r_g2
    exact mv_vret (pc := 213) B hr d_Weaver_closeBlock_213 (Nat.le_refl _) (Nat.le_refl _) ⟨rfl, xrh_v hf r_g4⟩
  unfold f_Weaver_closeBlock at hf
  refine mv_aload_n (pc := 0) B d_Weaver_closeBlock_0 rfl 0 rfl ?_
  refine mv_getR (pc := 1) (ci := 1) (C := R_Weaver) (T := F_Weaver) (N := 16) B 0 rfl rfl (by decide) i_Weaver (B.2.2.2.1 _ k_228) rfl (hb.1.1 2 0 _ rfl) d_Weaver_closeBlock_1 ?_
  refine mv_bipush (pc := 4) (v := 125) B d_Weaver_closeBlock_4 (by decide) ?_
  obtain ⟨v6, g5, eg5, hf⟩ := xhb_e hf
  refine mv_callVi (pc := 6) (n := 1) (ci := 2) (C := R_Tokens) B (mK_ok sk sv) hNs rfl rfl (ch_Tokens_close l hi _ (hb.t) _ eg5) rfl (ma_goodc kc_Tokens_close) (B.2.2.2.1 _ k_1396) (B.2.2.2.1 _ k_1397) (B.2.2.2.1 _ k_1398) (B.2.2.2.1 _ k_3) ⟨by decide +kernel, by decide +kernel, by decide +kernel⟩ rfl d_Weaver_closeBlock_6 rfl (Nat.le_of_ble_eq_true rfl) ⟨by decide, by decide⟩ ⟨by decide, by decide⟩ ⟨by decide, by decide⟩ (mv_noH hno _) (fun w6 σ6 h6 => ?_)
  obtain ⟨rfl, rfl, s_g5⟩ := h6
  have r_g5 : mv_r g5 = mv_r h := s_g5.trans rfl
  refine mv_pop (pc := 9) B d_Weaver_closeBlock_9 rfl ?_
  refine mv_aload_n (pc := 10) B d_Weaver_closeBlock_10 rfl 0 rfl ?_
  refine mv_dup (pc := 11) B d_Weaver_closeBlock_11 rfl ?_
  refine mv_getI (pc := 12) (ci := 1) (C := R_Weaver) (T := F_Weaver) (N := 16) B 15 rfl rfl (by decide) i_Weaver (B.2.2.2.1 _ k_245) rfl d_Weaver_closeBlock_12 ?_
  refine mv_iconst (pc := 15) (v := 1) B d_Weaver_closeBlock_15 (by decide) ?_
  refine mv_isub (pc := 16) B d_Weaver_closeBlock_16 ?_
  refine mv_putI (pc := 17) (ci := 1) (C := R_Weaver) (T := F_Weaver) (N := 16) B 15 rfl rfl (by decide) i_Weaver t_Weaver_ok n_Weaver (B.2.2.2.1 _ k_245) rfl rfl rfl rfl d_Weaver_closeBlock_17 ?_
  refine mvh_hp (R9 := mv_r h) hf r_g5 (fun g7 hf r_g7 => ?_)
  refine mv_aload_n (pc := 20) B d_Weaver_closeBlock_20 rfl 0 rfl ?_
  refine mv_getR (pc := 21) (ci := 1) (C := R_Weaver) (T := F_Weaver) (N := 16) B 1 rfl rfl (by decide) i_Weaver (B.2.2.2.1 _ k_229) rfl ((congrFun (congrFun r_g7 2) 1).trans (hb.1.1 2 1 _ rfl)) d_Weaver_closeBlock_21 ?_
  refine mv_aload_n (pc := 24) B d_Weaver_closeBlock_24 rfl 0 rfl ?_
  refine mv_getR (pc := 25) (ci := 1) (C := R_Weaver) (T := F_Weaver) (N := 16) B 14 rfl rfl (by decide) i_Weaver (B.2.2.2.1 _ k_244) rfl ((congrFun (congrFun r_g7 2) 14).trans (hb.1.1 2 14 _ rfl)) d_Weaver_closeBlock_25 ?_
  refine mv_aload_n (pc := 28) B d_Weaver_closeBlock_28 rfl 0 rfl ?_
  refine mv_getI (pc := 29) (ci := 1) (C := R_Weaver) (T := F_Weaver) (N := 16) B 15 rfl rfl (by decide) i_Weaver (B.2.2.2.1 _ k_245) rfl d_Weaver_closeBlock_29 ?_
  obtain ⟨q8, hf⟩ := xvi_e hf
  refine mv_iald (pc := 32) B rfl q8 d_Weaver_closeBlock_32 ?_
  obtain ⟨g9, eg9, hf⟩ := xhv_e hf
  refine mv_callVv (pc := 33) (n := 1) (ci := 4) (C := R_Names) B (mK_ok sk sv) hNs rfl rfl (ch_Names_forget l hi _ (xrw r_g7 hb.t) _ eg9) rfl (ma_goodc kc_Names_forget) (B.2.2.2.1 _ k_1400) (B.2.2.2.1 _ k_1259) (B.2.2.2.1 _ k_1260) (B.2.2.2.1 _ k_5) ⟨by decide +kernel, by decide +kernel, by decide +kernel⟩ rfl d_Weaver_closeBlock_33 rfl (Nat.le_of_ble_eq_true rfl) ⟨by decide, by decide⟩ ⟨by decide, by decide⟩ ⟨by decide, by decide⟩ (mv_noH hno _) (fun σ33 h33 => ?_)
  obtain ⟨rfl, s_g9⟩ := h33
  have r_g9 : mv_r g9 = mv_r h := s_g9.trans r_g7
  refine mv_aload_n (pc := 36) B d_Weaver_closeBlock_36 rfl 0 rfl ?_
  refine mv_getR (pc := 37) (ci := 1) (C := R_Weaver) (T := F_Weaver) (N := 16) B 11 rfl rfl (by decide) i_Weaver (B.2.2.2.1 _ k_241) rfl ((congrFun (congrFun r_g9 2) 11).trans (hb.1.1 2 11 _ rfl)) d_Weaver_closeBlock_37 ?_
  refine mv_aload_n (pc := 40) B d_Weaver_closeBlock_40 rfl 0 rfl ?_
  refine mv_getI (pc := 41) (ci := 1) (C := R_Weaver) (T := F_Weaver) (N := 16) B 15 rfl rfl (by decide) i_Weaver (B.2.2.2.1 _ k_245) rfl d_Weaver_closeBlock_41 ?_
  obtain ⟨q10, hf⟩ := xvi_e hf
  refine mv_iald (pc := 44) B rfl q10 d_Weaver_closeBlock_44 ?_
  refine mv_istore_n (pc := 45) B d_Weaver_closeBlock_45 rfl (by decide) rfl ?_
  refine mv_iload_n (pc := 46) B d_Weaver_closeBlock_46 rfl 0 rfl ?_
  refine mv_sipush (pc := 47) (v := 206) B d_Weaver_closeBlock_47 (by decide) ?_
  refine mv_icmp_ne (pc := 50) (tgt := 80) B d_Weaver_closeBlock_50 rfl (fun h50 => ?_) (fun h50 => ?_)
  · skip
    have hf := xif_f h50 hf
    refine mv_iload_n (pc := 80) B d_Weaver_closeBlock_80 rfl 0 rfl ?_
    refine mv_sipush (pc := 81) (v := 209) B d_Weaver_closeBlock_81 (by decide) ?_
    refine mv_icmp_ne (pc := 84) (tgt := 181) B d_Weaver_closeBlock_84 rfl (fun h84 => ?_) (fun h84 => ?_)
    · skip
      have hf := xif_f h84 hf
      refine mv_lpick [1] rfl ?_
      exact jn181  _ r_g9 hf
    · skip
      have hf := xif_t h84 hf
      refine mv_aload_n (pc := 87) B d_Weaver_closeBlock_87 rfl 1 rfl ?_
      refine mv_getR (pc := 88) (ci := 1) (C := R_Weaver) (T := F_Weaver) (N := 16) B 0 rfl rfl (by decide) i_Weaver (B.2.2.2.1 _ k_228) rfl ((congrFun (congrFun r_g9 2) 0).trans (hb.1.1 2 0 _ rfl)) d_Weaver_closeBlock_88 ?_
      obtain ⟨v12, g11, eg11, hf⟩ := xhb_e hf
      refine mv_callVi (pc := 91) (n := 0) (ci := 2) (C := R_Tokens) B (mK_ok sk sv) hNs rfl rfl (ch_Tokens_kind l hi _ (xrw r_g9 hb.t) eg11) rfl (ma_goodc kc_Tokens_kind) (B.2.2.2.1 _ k_1299) (B.2.2.2.1 _ k_1271) (B.2.2.2.1 _ k_1272) (B.2.2.2.1 _ k_3) ⟨by decide +kernel, by decide +kernel, by decide +kernel⟩ rfl d_Weaver_closeBlock_91 rfl (Nat.le_of_ble_eq_true rfl) ⟨by decide, by decide⟩ ⟨by decide, by decide⟩ ⟨by decide, by decide⟩ (mv_noH hno _) (fun w91 σ91 h91 => ?_)
      obtain ⟨rfl, rfl, s_g11⟩ := h91
      have r_g11 : mv_r g11 = mv_r h := s_g11.trans r_g9
      refine mv_sipush (pc := 94) (v := 210) B d_Weaver_closeBlock_94 (by decide) ?_
      refine mv_icmp_ne (pc := 97) (tgt := 181) B d_Weaver_closeBlock_97 rfl (fun h97 => ?_) (fun h97 => ?_)
      · skip
        have hf := xif_f h97 hf
        refine mv_lpick [1] rfl ?_
        exact jn181  _ r_g11 hf
      · skip
        have hf := xif_t h97 hf
        refine mv_aload_n (pc := 100) B d_Weaver_closeBlock_100 rfl 1 rfl ?_
        refine mv_getR (pc := 101) (ci := 1) (C := R_Weaver) (T := F_Weaver) (N := 16) B 0 rfl rfl (by decide) i_Weaver (B.2.2.2.1 _ k_228) rfl ((congrFun (congrFun r_g11 2) 0).trans (hb.1.1 2 0 _ rfl)) d_Weaver_closeBlock_101 ?_
        refine mv_sipush (pc := 104) (v := 210) B d_Weaver_closeBlock_104 (by decide) ?_
        obtain ⟨v14, g13, eg13, hf⟩ := xhb_e hf
        refine mv_callVi (pc := 107) (n := 1) (ci := 2) (C := R_Tokens) B (mK_ok sk sv) hNs rfl rfl (ch_Tokens_take l hi _ (xrw r_g11 hb.t) _ eg13) rfl (ma_goodc kc_Tokens_take) (B.2.2.2.1 _ k_1266) (B.2.2.2.1 _ k_1267) (B.2.2.2.1 _ k_1268) (B.2.2.2.1 _ k_3) ⟨by decide +kernel, by decide +kernel, by decide +kernel⟩ rfl d_Weaver_closeBlock_107 rfl (Nat.le_of_ble_eq_true rfl) ⟨by decide, by decide⟩ ⟨by decide, by decide⟩ ⟨by decide, by decide⟩ (mv_noH hno _) (fun w107 σ107 h107 => ?_)
        obtain ⟨rfl, rfl, s_g13⟩ := h107
        have r_g13 : mv_r g13 = mv_r h := s_g13.trans r_g11
        refine mv_pop (pc := 110) B d_Weaver_closeBlock_110 rfl ?_
        refine mv_aload_n (pc := 111) B d_Weaver_closeBlock_111 rfl 1 rfl ?_
        refine mv_getR (pc := 112) (ci := 1) (C := R_Weaver) (T := F_Weaver) (N := 16) B 5 rfl rfl (by decide) i_Weaver (B.2.2.2.1 _ k_235) rfl ((congrFun (congrFun r_g13 2) 5).trans hb.1.2.2.1) d_Weaver_closeBlock_112 ?_
        refine mv_sipush (pc := 115) (v := 311) B d_Weaver_closeBlock_115 (by decide) ?_
        refine mv_aload_n (pc := 118) B d_Weaver_closeBlock_118 rfl 1 rfl ?_
        refine mv_getR (pc := 119) (ci := 1) (C := R_Weaver) (T := F_Weaver) (N := 16) B 13 rfl rfl (by decide) i_Weaver (B.2.2.2.1 _ k_243) rfl ((congrFun (congrFun r_g13 2) 13).trans (hb.1.1 2 13 _ rfl)) d_Weaver_closeBlock_119 ?_
        refine mv_aload_n (pc := 122) B d_Weaver_closeBlock_122 rfl 1 rfl ?_
        refine mv_getI (pc := 123) (ci := 1) (C := R_Weaver) (T := F_Weaver) (N := 16) B 15 rfl rfl (by decide) i_Weaver (B.2.2.2.1 _ k_245) rfl d_Weaver_closeBlock_123 ?_
        obtain ⟨q15, hf⟩ := xvi_e hf
        refine mv_iald (pc := 126) B rfl q15 d_Weaver_closeBlock_126 ?_
        refine mv_i2l (pc := 127) B d_Weaver_closeBlock_127 ?_
        obtain ⟨v17, g16, eg16, hf⟩ := xhb_e hf
        refine mv_callVi (pc := 128) (n := 2) (ci := 7) (C := R_Program) B (mK_ok sk sv) hNs rfl rfl (ch_Program_emit_b l hi _ (xrw r_g13 hb) _ _ eg16) rfl (ma_goodc kc_Program_emit) (B.2.2.2.1 _ k_1384) (B.2.2.2.1 _ k_1385) (B.2.2.2.1 _ k_1386) (B.2.2.2.1 _ k_8) ⟨by decide +kernel, by decide +kernel, by decide +kernel⟩ rfl d_Weaver_closeBlock_128 rfl (Nat.le_of_ble_eq_true rfl) ⟨by decide, by decide⟩ ⟨by decide, by decide⟩ ⟨by decide, by decide⟩ (mv_noH hno _) (fun w128 σ128 h128 => ?_)
        obtain ⟨rfl, rfl, s_g16⟩ := h128
        have r_g16 : mv_r g16 = mv_r h := s_g16.trans r_g13
        refine mv_istore_n (pc := 131) B d_Weaver_closeBlock_131 rfl (by decide) rfl ?_
        refine mv_aload_n (pc := 132) B d_Weaver_closeBlock_132 rfl 2 rfl ?_
        refine mv_getR (pc := 133) (ci := 1) (C := R_Weaver) (T := F_Weaver) (N := 16) B 5 rfl rfl (by decide) i_Weaver (B.2.2.2.1 _ k_235) rfl ((congrFun (congrFun r_g16 2) 5).trans hb.1.2.2.1) d_Weaver_closeBlock_133 ?_
        refine mv_aload_n (pc := 136) B d_Weaver_closeBlock_136 rfl 2 rfl ?_
        refine mv_getR (pc := 137) (ci := 1) (C := R_Weaver) (T := F_Weaver) (N := 16) B 12 rfl rfl (by decide) i_Weaver (B.2.2.2.1 _ k_242) rfl ((congrFun (congrFun r_g16 2) 12).trans (hb.1.1 2 12 _ rfl)) d_Weaver_closeBlock_137 ?_
        refine mv_aload_n (pc := 140) B d_Weaver_closeBlock_140 rfl 2 rfl ?_
        refine mv_getI (pc := 141) (ci := 1) (C := R_Weaver) (T := F_Weaver) (N := 16) B 15 rfl rfl (by decide) i_Weaver (B.2.2.2.1 _ k_245) rfl d_Weaver_closeBlock_141 ?_
        obtain ⟨q18, hf⟩ := xvi_e hf
        refine mv_iald (pc := 144) B rfl q18 d_Weaver_closeBlock_144 ?_
        obtain ⟨g19, eg19, hf⟩ := xhv_e hf
        refine mv_callVv (pc := 145) (n := 1) (ci := 7) (C := R_Program) B (mK_ok sk sv) hNs rfl rfl (ch_Program_aim_b l hi _ (xrw r_g16 hb) _ eg19) rfl (ma_goodc kc_Program_aim) (B.2.2.2.1 _ k_1402) (B.2.2.2.1 _ k_1403) (B.2.2.2.1 _ k_1404) (B.2.2.2.1 _ k_8) ⟨by decide +kernel, by decide +kernel, by decide +kernel⟩ rfl d_Weaver_closeBlock_145 rfl (Nat.le_of_ble_eq_true rfl) ⟨by decide, by decide⟩ ⟨by decide, by decide⟩ ⟨by decide, by decide⟩ (mv_noH hno _) (fun σ145 h145 => ?_)
        obtain ⟨rfl, s_g19⟩ := h145
        have r_g19 : mv_r g19 = mv_r h := s_g19.trans r_g16
        refine mv_aload_n (pc := 148) B d_Weaver_closeBlock_148 rfl 2 rfl ?_
        refine mv_getR (pc := 149) (ci := 1) (C := R_Weaver) (T := F_Weaver) (N := 16) B 0 rfl rfl (by decide) i_Weaver (B.2.2.2.1 _ k_228) rfl ((congrFun (congrFun r_g19 2) 0).trans (hb.1.1 2 0 _ rfl)) d_Weaver_closeBlock_149 ?_
        obtain ⟨v21, g20, eg20, hf⟩ := xhb_e hf
        refine mv_callVi (pc := 152) (n := 0) (ci := 2) (C := R_Tokens) B (mK_ok sk sv) hNs rfl rfl (ch_Tokens_kind l hi _ (xrw r_g19 hb.t) eg20) rfl (ma_goodc kc_Tokens_kind) (B.2.2.2.1 _ k_1299) (B.2.2.2.1 _ k_1271) (B.2.2.2.1 _ k_1272) (B.2.2.2.1 _ k_3) ⟨by decide +kernel, by decide +kernel, by decide +kernel⟩ rfl d_Weaver_closeBlock_152 rfl (Nat.le_of_ble_eq_true rfl) ⟨by decide, by decide⟩ ⟨by decide, by decide⟩ ⟨by decide, by decide⟩ (mv_noH hno _) (fun w152 σ152 h152 => ?_)
        obtain ⟨rfl, rfl, s_g20⟩ := h152
        have r_g20 : mv_r g20 = mv_r h := s_g20.trans r_g19
        refine mv_sipush (pc := 155) (v := 209) B d_Weaver_closeBlock_155 (by decide) ?_
        refine mv_icmp_ne (pc := 158) (tgt := 169) B d_Weaver_closeBlock_158 rfl (fun h158 => ?_) (fun h158 => ?_)
        · skip
          have hf := xif_f h158 hf
          refine mv_aload_n (pc := 169) B d_Weaver_closeBlock_169 rfl 2 rfl ?_
          refine mv_sipush (pc := 170) (v := 210) B d_Weaver_closeBlock_170 (by decide) ?_
          refine mv_iconst (pc := 173) (v := -1) B d_Weaver_closeBlock_173 (by decide) ?_
          refine mv_iload_n (pc := 174) B d_Weaver_closeBlock_174 rfl 0 rfl ?_
          obtain ⟨g22, eg22, hf⟩ := xhv_e hf
          refine mv_callVv (pc := 175) (n := 3) (ci := 1) (C := R_Weaver) B (mK_ok sk sv) hNs rfl rfl (ch_Weaver_openBlock l hi _ (xrw r_g20 hb.t) _ _ _ eg22) rfl (ma_goodc kc_Weaver_openBlock) (B.2.2.2.1 _ k_1345) (B.2.2.2.1 _ k_1347) (B.2.2.2.1 _ ks_41) (B.2.2.2.1 _ k_2) ⟨by decide +kernel, by decide +kernel, by decide +kernel⟩ rfl d_Weaver_closeBlock_175 rfl (Nat.le_of_ble_eq_true rfl) ⟨by decide, by decide⟩ ⟨by decide, by decide⟩ ⟨by decide, by decide⟩ (mv_noH hno _) (fun σ175 h175 => ?_)
          obtain ⟨rfl, s_g22⟩ := h175
          have r_g22 : mv_r g22 = mv_r h := s_g22.trans r_g20
          refine mv_goto (pc := 178) (tgt := 213) B d_Weaver_closeBlock_178 rfl ?_
          exact mv_vret (pc := 213) B hr d_Weaver_closeBlock_213 (Nat.le_refl _) (Nat.le_refl _) ⟨rfl, xrh_v hf r_g22⟩
        · skip
          have hf := xif_t h158 hf
          refine mv_aload_n (pc := 161) B d_Weaver_closeBlock_161 rfl 2 rfl ?_
          refine mv_iload_n (pc := 162) B d_Weaver_closeBlock_162 rfl 0 rfl ?_
          obtain ⟨g23, eg23, hf⟩ := xhv_e hf
          refine mv_callVv (pc := 163) (n := 1) (ci := 1) (C := R_Weaver) B (mK_ok sk sv) hNs rfl rfl (ch_Weaver_beginIf l hi _ (xrw r_g20 hb.t) _ eg23) rfl (ma_goodc kc_Weaver_beginIf) (B.2.2.2.1 _ k_1388) (B.2.2.2.1 _ k_1390) (B.2.2.2.1 _ ks_46) (B.2.2.2.1 _ k_2) ⟨by decide +kernel, by decide +kernel, by decide +kernel⟩ rfl d_Weaver_closeBlock_163 rfl (Nat.le_of_ble_eq_true rfl) ⟨by decide, by decide⟩ ⟨by decide, by decide⟩ ⟨by decide, by decide⟩ (mv_noH hno _) (fun σ163 h163 => ?_)
          obtain ⟨rfl, s_g23⟩ := h163
          have r_g23 : mv_r g23 = mv_r h := s_g23.trans r_g20
          refine mv_goto (pc := 166) (tgt := 178) B d_Weaver_closeBlock_166 rfl ?_
          refine mv_goto (pc := 178) (tgt := 213) B d_Weaver_closeBlock_178 rfl ?_
          exact mv_vret (pc := 213) B hr d_Weaver_closeBlock_213 (Nat.le_refl _) (Nat.le_refl _) ⟨rfl, xrh_v hf r_g23⟩
  · skip
    have hf := xif_t h50 hf
    refine mv_aload_n (pc := 53) B d_Weaver_closeBlock_53 rfl 1 rfl ?_
    refine mv_getR (pc := 54) (ci := 1) (C := R_Weaver) (T := F_Weaver) (N := 16) B 5 rfl rfl (by decide) i_Weaver (B.2.2.2.1 _ k_235) rfl ((congrFun (congrFun r_g9 2) 5).trans hb.1.2.2.1) d_Weaver_closeBlock_54 ?_
    refine mv_sipush (pc := 57) (v := 317) B d_Weaver_closeBlock_57 (by decide) ?_
    refine mv_lconst (pc := 60) (v := 0) B d_Weaver_closeBlock_60 (by decide) ?_
    obtain ⟨v25, g24, eg24, hf⟩ := xhb_e hf
    refine mv_callVi (pc := 61) (n := 2) (ci := 7) (C := R_Program) B (mK_ok sk sv) hNs rfl rfl (ch_Program_emit_b l hi _ (xrw r_g9 hb) _ _ eg24) rfl (ma_goodc kc_Program_emit) (B.2.2.2.1 _ k_1384) (B.2.2.2.1 _ k_1385) (B.2.2.2.1 _ k_1386) (B.2.2.2.1 _ k_8) ⟨by decide +kernel, by decide +kernel, by decide +kernel⟩ rfl d_Weaver_closeBlock_61 rfl (Nat.le_of_ble_eq_true rfl) ⟨by decide, by decide⟩ ⟨by decide, by decide⟩ ⟨by decide, by decide⟩ (mv_noH hno _) (fun w61 σ61 h61 => ?_)
    obtain ⟨rfl, rfl, s_g24⟩ := h61
    have r_g24 : mv_r g24 = mv_r h := s_g24.trans r_g9
    refine mv_pop (pc := 64) B d_Weaver_closeBlock_64 rfl ?_
    refine mv_aload_n (pc := 65) B d_Weaver_closeBlock_65 rfl 1 rfl ?_
    refine mv_getR (pc := 66) (ci := 1) (C := R_Weaver) (T := F_Weaver) (N := 16) B 1 rfl rfl (by decide) i_Weaver (B.2.2.2.1 _ k_229) rfl ((congrFun (congrFun r_g24 2) 1).trans (hb.1.1 2 1 _ rfl)) d_Weaver_closeBlock_66 ?_
    obtain ⟨g26, eg26, hf⟩ := xhv_e hf
    refine mv_callVv (pc := 69) (n := 0) (ci := 4) (C := R_Names) B (mK_ok sk sv) hNs rfl rfl (ch_Names_leaveOp l hi _ (xrw r_g24 hb.t) eg26) rfl (ma_goodc kc_Names_leaveOp) (B.2.2.2.1 _ k_1401) (B.2.2.2.1 _ k_1251) (B.2.2.2.1 _ k_1252) (B.2.2.2.1 _ k_5) ⟨by decide +kernel, by decide +kernel, by decide +kernel⟩ rfl d_Weaver_closeBlock_69 rfl (Nat.le_of_ble_eq_true rfl) ⟨by decide, by decide⟩ ⟨by decide, by decide⟩ ⟨by decide, by decide⟩ (mv_noH hno _) (fun σ69 h69 => ?_)
    obtain ⟨rfl, s_g26⟩ := h69
    have r_g26 : mv_r g26 = mv_r h := s_g26.trans r_g24
    refine mv_aload_n (pc := 72) B d_Weaver_closeBlock_72 rfl 1 rfl ?_
    refine mv_iconst (pc := 73) (v := 0) B d_Weaver_closeBlock_73 (by decide) ?_
    refine mv_putI (pc := 74) (ci := 1) (C := R_Weaver) (T := F_Weaver) (N := 16) B 6 rfl rfl (by decide) i_Weaver t_Weaver_ok n_Weaver (B.2.2.2.1 _ k_236) rfl rfl rfl rfl d_Weaver_closeBlock_74 ?_
    refine mvh_hp (R9 := mv_r h) hf r_g26 (fun g27 hf r_g27 => ?_)
    refine mv_goto (pc := 77) (tgt := 213) B d_Weaver_closeBlock_77 rfl ?_
    exact mv_vret (pc := 213) B hr d_Weaver_closeBlock_213 (Nat.le_refl _) (Nat.le_refl _) ⟨rfl, xrh_v hf r_g27⟩
def f_Weaver_statement (P : Nat) (h : mv_H) : Option mv_H := xhb (f_Tokens_kind h) fun v2 g1 => if (v2).toInt = 3 then (xhv (f_Weaver_beginAssignment g1) fun g3 => some g3) else (if (v2).toInt = 125 then (xhv (f_Weaver_closeBlock P g1) fun g4 => some g4) else (if (v2).toInt = 207 then (xhv (f_Weaver_beginLet g1) fun g5 => some g5) else (if (v2).toInt = 208 then (xhb (f_Tokens_take g1 (208 : Int32)) fun v7 g6 => xhb (f_Tokens_take g6 (4 : Int32)) fun v9 g8 => xhb (f_Weaver_numberUpTo g8 v9 (1000000 : Int32)) fun v11 g10 => xhb (f_Program_emit P g10 (316 : Int32) ((v11).toInt64)) fun v13 g12 => xhb (f_Tokens_take g12 (59 : Int32)) fun v15 g14 => some g14) else (if (v2).toInt = 209 then (xhv (f_Weaver_beginIf g1 (-1 : Int32)) fun g16 => some g16) else (xhv (f_Tokens_wrong g1) fun g17 => some g17)))))
set_option maxHeartbeats 4000000 in
set_option maxRecDepth 100000 in
theorem ch_Weaver_statement_a (l : Launch) {dA : FieldType → ClassId} {D : va_G} {al : Nat → Nat} {ext : mv_Sh} {sk sv : Nat → Nat} (hi : mv_inj (mg dA D al ext)) (h : mv_H) (hb : xRP 32 (mv_r h))  {rg : mv_H} (hf : f_Weaver_statement 32 h = some rg) : mv_C l y_Weaver_statement (Cond.code y_Weaver_statement b_Weaver_statement 1 (Option.none : Option Jvm.ClassFile.FieldType) :: ma) ({ frames := 5, cells := 0, slots := 0, locals := 108 }) (mg dA D al ext) (mK sk sv) [.ref (al 2)] h (mv_Rv (fun σ1 => rg = σ1 ∧ mv_r σ1 = mv_r h)) := by
  refine mv_C.ofV (cc := b_Weaver_statement) (nL := 1) (ret := (Option.none : Option Jvm.ClassFile.FieldType)) (by decide +kernel) rfl hi (Nat.le_of_ble_eq_true rfl) ?_
  intro p e s m below meth c B hNs hr hnm hno
  unfold f_Weaver_statement at hf
  refine mv_aload_n (pc := 0) B d_Weaver_statement_0 rfl 0 rfl ?_
  refine mv_getR (pc := 1) (ci := 1) (C := R_Weaver) (T := F_Weaver) (N := 16) B 0 rfl rfl (by decide) i_Weaver (B.2.2.2.1 _ k_228) rfl (hb.1.1 2 0 _ rfl) d_Weaver_statement_1 ?_
  obtain ⟨v2, g1, eg1, hf⟩ := xhb_e hf
  refine mv_callVi (pc := 4) (n := 0) (ci := 2) (C := R_Tokens) B (mK_ok sk sv) hNs rfl rfl (ch_Tokens_kind l hi _ (hb.t) eg1) rfl (ma_goodc kc_Tokens_kind) (B.2.2.2.1 _ k_1299) (B.2.2.2.1 _ k_1271) (B.2.2.2.1 _ k_1272) (B.2.2.2.1 _ k_3) ⟨by decide +kernel, by decide +kernel, by decide +kernel⟩ rfl d_Weaver_statement_4 rfl (Nat.le_of_ble_eq_true rfl) ⟨by decide, by decide⟩ ⟨by decide, by decide⟩ ⟨by decide, by decide⟩ (mv_noH hno _) (fun w4 σ4 h4 => ?_)
  obtain ⟨rfl, rfl, s_g1⟩ := h4
  have r_g1 : mv_r g1 = mv_r h := s_g1.trans rfl
  refine mv_lsw (pc := 7) B d_Weaver_statement_7 (by decide) (by decide) ?_
  refine ⟨fun h7 => ?_, fun h7n3 => ?_⟩
  · skip
    have hf := xif_t h7 hf
    show mv_V _ _ _ _ _ _ _ _ _ _ _ _ _ _ _ _ 63 _ _
    refine mv_aload_n (pc := 63) B d_Weaver_statement_63 rfl 0 rfl ?_
    obtain ⟨g3, eg3, hf⟩ := xhv_e hf
    refine mv_callVv (pc := 64) (n := 0) (ci := 1) (C := R_Weaver) B (mK_ok sk sv) hNs rfl rfl (ch_Weaver_beginAssignment l hi _ (xrw r_g1 hb.t) eg3) rfl (ma_goodc kc_Weaver_beginAssignment) (B.2.2.2.1 _ k_1379) (B.2.2.2.1 _ k_1381) (B.2.2.2.1 _ ks_45) (B.2.2.2.1 _ k_2) ⟨by decide +kernel, by decide +kernel, by decide +kernel⟩ rfl d_Weaver_statement_64 rfl (Nat.le_of_ble_eq_true rfl) ⟨by decide, by decide⟩ ⟨by decide, by decide⟩ ⟨by decide, by decide⟩ (mv_noH hno _) (fun σ64 h64 => ?_)
    obtain ⟨rfl, s_g3⟩ := h64
    have r_g3 : mv_r g3 = mv_r h := s_g3.trans r_g1
    refine mv_goto (pc := 67) (tgt := 143) B d_Weaver_statement_67 rfl ?_
    exact mv_vret (pc := 143) B hr d_Weaver_statement_143 (Nat.le_refl _) (Nat.le_refl _) ⟨rfl, xrh_v hf r_g3⟩
  have hf := xif_f h7n3 hf
  refine ⟨fun h7 => ?_, fun h7n125 => ?_⟩
  · skip
    have hf := xif_t h7 hf
    show mv_V _ _ _ _ _ _ _ _ _ _ _ _ _ _ _ _ 129 _ _
    refine mv_aload_n (pc := 129) B d_Weaver_statement_129 rfl 0 rfl ?_
    obtain ⟨g4, eg4, hf⟩ := xhv_e hf
    refine mv_callVv (pc := 130) (n := 0) (ci := 1) (C := R_Weaver) B (mK_ok sk sv) hNs rfl rfl (ch_Weaver_closeBlock_a l hi _ (xrw r_g1 hb) eg4) rfl (ma_goodc kc_Weaver_closeBlock) (B.2.2.2.1 _ k_1392) (B.2.2.2.1 _ k_1394) (B.2.2.2.1 _ ks_47) (B.2.2.2.1 _ k_2) ⟨by decide +kernel, by decide +kernel, by decide +kernel⟩ rfl d_Weaver_statement_130 rfl (Nat.le_of_ble_eq_true rfl) ⟨by decide, by decide⟩ ⟨by decide, by decide⟩ ⟨by decide, by decide⟩ (mv_noH hno _) (fun σ130 h130 => ?_)
    obtain ⟨rfl, s_g4⟩ := h130
    have r_g4 : mv_r g4 = mv_r h := s_g4.trans r_g1
    refine mv_goto (pc := 133) (tgt := 143) B d_Weaver_statement_133 rfl ?_
    exact mv_vret (pc := 143) B hr d_Weaver_statement_143 (Nat.le_refl _) (Nat.le_refl _) ⟨rfl, xrh_v hf r_g4⟩
  have hf := xif_f h7n125 hf
  refine ⟨fun h7 => ?_, fun h7n207 => ?_⟩
  · skip
    have hf := xif_t h7 hf
    show mv_V _ _ _ _ _ _ _ _ _ _ _ _ _ _ _ _ 56 _ _
    refine mv_aload_n (pc := 56) B d_Weaver_statement_56 rfl 0 rfl ?_
    obtain ⟨g5, eg5, hf⟩ := xhv_e hf
    refine mv_callVv (pc := 57) (n := 0) (ci := 1) (C := R_Weaver) B (mK_ok sk sv) hNs rfl rfl (ch_Weaver_beginLet l hi _ (xrw r_g1 hb.t) eg5) rfl (ma_goodc kc_Weaver_beginLet) (B.2.2.2.1 _ k_1367) (B.2.2.2.1 _ k_1369) (B.2.2.2.1 _ ks_43) (B.2.2.2.1 _ k_2) ⟨by decide +kernel, by decide +kernel, by decide +kernel⟩ rfl d_Weaver_statement_57 rfl (Nat.le_of_ble_eq_true rfl) ⟨by decide, by decide⟩ ⟨by decide, by decide⟩ ⟨by decide, by decide⟩ (mv_noH hno _) (fun σ57 h57 => ?_)
    obtain ⟨rfl, s_g5⟩ := h57
    have r_g5 : mv_r g5 = mv_r h := s_g5.trans r_g1
    refine mv_goto (pc := 60) (tgt := 143) B d_Weaver_statement_60 rfl ?_
    exact mv_vret (pc := 143) B hr d_Weaver_statement_143 (Nat.le_refl _) (Nat.le_refl _) ⟨rfl, xrh_v hf r_g5⟩
  have hf := xif_f h7n207 hf
  refine ⟨fun h7 => ?_, fun h7n208 => ?_⟩
  · skip
    have hf := xif_t h7 hf
    show mv_V _ _ _ _ _ _ _ _ _ _ _ _ _ _ _ _ 70 _ _
    refine mv_aload_n (pc := 70) B d_Weaver_statement_70 rfl 0 rfl ?_
    refine mv_getR (pc := 71) (ci := 1) (C := R_Weaver) (T := F_Weaver) (N := 16) B 0 rfl rfl (by decide) i_Weaver (B.2.2.2.1 _ k_228) rfl ((congrFun (congrFun r_g1 2) 0).trans (hb.1.1 2 0 _ rfl)) d_Weaver_statement_71 ?_
    refine mv_sipush (pc := 74) (v := 208) B d_Weaver_statement_74 (by decide) ?_
    obtain ⟨v7, g6, eg6, hf⟩ := xhb_e hf
    refine mv_callVi (pc := 77) (n := 1) (ci := 2) (C := R_Tokens) B (mK_ok sk sv) hNs rfl rfl (ch_Tokens_take l hi _ (xrw r_g1 hb.t) _ eg6) rfl (ma_goodc kc_Tokens_take) (B.2.2.2.1 _ k_1266) (B.2.2.2.1 _ k_1267) (B.2.2.2.1 _ k_1268) (B.2.2.2.1 _ k_3) ⟨by decide +kernel, by decide +kernel, by decide +kernel⟩ rfl d_Weaver_statement_77 rfl (Nat.le_of_ble_eq_true rfl) ⟨by decide, by decide⟩ ⟨by decide, by decide⟩ ⟨by decide, by decide⟩ (mv_noH hno _) (fun w77 σ77 h77 => ?_)
    obtain ⟨rfl, rfl, s_g6⟩ := h77
    have r_g6 : mv_r g6 = mv_r h := s_g6.trans r_g1
    refine mv_pop (pc := 80) B d_Weaver_statement_80 rfl ?_
    refine mv_aload_n (pc := 81) B d_Weaver_statement_81 rfl 0 rfl ?_
    refine mv_getR (pc := 82) (ci := 1) (C := R_Weaver) (T := F_Weaver) (N := 16) B 5 rfl rfl (by decide) i_Weaver (B.2.2.2.1 _ k_235) rfl ((congrFun (congrFun r_g6 2) 5).trans hb.1.2.2.1) d_Weaver_statement_82 ?_
    refine mv_sipush (pc := 85) (v := 316) B d_Weaver_statement_85 (by decide) ?_
    refine mv_aload_n (pc := 88) B d_Weaver_statement_88 rfl 0 rfl ?_
    refine mv_aload_n (pc := 89) B d_Weaver_statement_89 rfl 0 rfl ?_
    refine mv_getR (pc := 90) (ci := 1) (C := R_Weaver) (T := F_Weaver) (N := 16) B 0 rfl rfl (by decide) i_Weaver (B.2.2.2.1 _ k_228) rfl ((congrFun (congrFun r_g6 2) 0).trans (hb.1.1 2 0 _ rfl)) d_Weaver_statement_90 ?_
    refine mv_iconst (pc := 93) (v := 4) B d_Weaver_statement_93 (by decide) ?_
    obtain ⟨v9, g8, eg8, hf⟩ := xhb_e hf
    refine mv_callVi (pc := 94) (n := 1) (ci := 2) (C := R_Tokens) B (mK_ok sk sv) hNs rfl rfl (ch_Tokens_take l hi _ (xrw r_g6 hb.t) _ eg8) rfl (ma_goodc kc_Tokens_take) (B.2.2.2.1 _ k_1266) (B.2.2.2.1 _ k_1267) (B.2.2.2.1 _ k_1268) (B.2.2.2.1 _ k_3) ⟨by decide +kernel, by decide +kernel, by decide +kernel⟩ rfl d_Weaver_statement_94 rfl (Nat.le_of_ble_eq_true rfl) ⟨by decide, by decide⟩ ⟨by decide, by decide⟩ ⟨by decide, by decide⟩ (mv_noH hno _) (fun w94 σ94 h94 => ?_)
    obtain ⟨rfl, rfl, s_g8⟩ := h94
    have r_g8 : mv_r g8 = mv_r h := s_g8.trans r_g6
    refine mv_ldcw (pc := 97) (v := 1000000) B (B.2.2.2.1 _ k_1383) d_Weaver_statement_97 ?_
    obtain ⟨v11, g10, eg10, hf⟩ := xhb_e hf
    refine mv_callVi (pc := 100) (n := 2) (ci := 1) (C := R_Weaver) B (mK_ok sk sv) hNs rfl rfl (ch_Weaver_numberUpTo l hi _ (xrw r_g8 hb.t) _ _ eg10) rfl (ma_goodc kc_Weaver_numberUpTo) (B.2.2.2.1 _ k_1304) (B.2.2.2.1 _ k_1306) (B.2.2.2.1 _ ks_35) (B.2.2.2.1 _ k_2) ⟨by decide +kernel, by decide +kernel, by decide +kernel⟩ rfl d_Weaver_statement_100 rfl (Nat.le_of_ble_eq_true rfl) ⟨by decide, by decide⟩ ⟨by decide, by decide⟩ ⟨by decide, by decide⟩ (mv_noH hno _) (fun w100 σ100 h100 => ?_)
    obtain ⟨rfl, rfl, s_g10⟩ := h100
    have r_g10 : mv_r g10 = mv_r h := s_g10.trans r_g8
    refine mv_i2l (pc := 103) B d_Weaver_statement_103 ?_
    obtain ⟨v13, g12, eg12, hf⟩ := xhb_e hf
    refine mv_callVi (pc := 104) (n := 2) (ci := 7) (C := R_Program) B (mK_ok sk sv) hNs rfl rfl (ch_Program_emit_a l hi _ (xrw r_g10 hb) _ _ eg12) rfl (ma_goodc kc_Program_emit) (B.2.2.2.1 _ k_1384) (B.2.2.2.1 _ k_1385) (B.2.2.2.1 _ k_1386) (B.2.2.2.1 _ k_8) ⟨by decide +kernel, by decide +kernel, by decide +kernel⟩ rfl d_Weaver_statement_104 rfl (Nat.le_of_ble_eq_true rfl) ⟨by decide, by decide⟩ ⟨by decide, by decide⟩ ⟨by decide, by decide⟩ (mv_noH hno _) (fun w104 σ104 h104 => ?_)
    obtain ⟨rfl, rfl, s_g12⟩ := h104
    have r_g12 : mv_r g12 = mv_r h := s_g12.trans r_g10
    refine mv_pop (pc := 107) B d_Weaver_statement_107 rfl ?_
    refine mv_aload_n (pc := 108) B d_Weaver_statement_108 rfl 0 rfl ?_
    refine mv_getR (pc := 109) (ci := 1) (C := R_Weaver) (T := F_Weaver) (N := 16) B 0 rfl rfl (by decide) i_Weaver (B.2.2.2.1 _ k_228) rfl ((congrFun (congrFun r_g12 2) 0).trans (hb.1.1 2 0 _ rfl)) d_Weaver_statement_109 ?_
    refine mv_bipush (pc := 112) (v := 59) B d_Weaver_statement_112 (by decide) ?_
    obtain ⟨v15, g14, eg14, hf⟩ := xhb_e hf
    refine mv_callVi (pc := 114) (n := 1) (ci := 2) (C := R_Tokens) B (mK_ok sk sv) hNs rfl rfl (ch_Tokens_take l hi _ (xrw r_g12 hb.t) _ eg14) rfl (ma_goodc kc_Tokens_take) (B.2.2.2.1 _ k_1266) (B.2.2.2.1 _ k_1267) (B.2.2.2.1 _ k_1268) (B.2.2.2.1 _ k_3) ⟨by decide +kernel, by decide +kernel, by decide +kernel⟩ rfl d_Weaver_statement_114 rfl (Nat.le_of_ble_eq_true rfl) ⟨by decide, by decide⟩ ⟨by decide, by decide⟩ ⟨by decide, by decide⟩ (mv_noH hno _) (fun w114 σ114 h114 => ?_)
    obtain ⟨rfl, rfl, s_g14⟩ := h114
    have r_g14 : mv_r g14 = mv_r h := s_g14.trans r_g12
    refine mv_pop (pc := 117) B d_Weaver_statement_117 rfl ?_
    refine mv_goto (pc := 118) (tgt := 143) B d_Weaver_statement_118 rfl ?_
    exact mv_vret (pc := 143) B hr d_Weaver_statement_143 (Nat.le_refl _) (Nat.le_refl _) ⟨rfl, xrh_v hf r_g14⟩
  have hf := xif_f h7n208 hf
  refine ⟨fun h7 => ?_, fun h7n209 => ?_⟩
  · skip
    have hf := xif_t h7 hf
    show mv_V _ _ _ _ _ _ _ _ _ _ _ _ _ _ _ _ 121 _ _
    refine mv_aload_n (pc := 121) B d_Weaver_statement_121 rfl 0 rfl ?_
    refine mv_iconst (pc := 122) (v := -1) B d_Weaver_statement_122 (by decide) ?_
    obtain ⟨g16, eg16, hf⟩ := xhv_e hf
    refine mv_callVv (pc := 123) (n := 1) (ci := 1) (C := R_Weaver) B (mK_ok sk sv) hNs rfl rfl (ch_Weaver_beginIf l hi _ (xrw r_g1 hb.t) _ eg16) rfl (ma_goodc kc_Weaver_beginIf) (B.2.2.2.1 _ k_1388) (B.2.2.2.1 _ k_1390) (B.2.2.2.1 _ ks_46) (B.2.2.2.1 _ k_2) ⟨by decide +kernel, by decide +kernel, by decide +kernel⟩ rfl d_Weaver_statement_123 rfl (Nat.le_of_ble_eq_true rfl) ⟨by decide, by decide⟩ ⟨by decide, by decide⟩ ⟨by decide, by decide⟩ (mv_noH hno _) (fun σ123 h123 => ?_)
    obtain ⟨rfl, s_g16⟩ := h123
    have r_g16 : mv_r g16 = mv_r h := s_g16.trans r_g1
    refine mv_goto (pc := 126) (tgt := 143) B d_Weaver_statement_126 rfl ?_
    exact mv_vret (pc := 143) B hr d_Weaver_statement_143 (Nat.le_refl _) (Nat.le_refl _) ⟨rfl, xrh_v hf r_g16⟩
  have hf := xif_f h7n209 hf
  show mv_V _ _ _ _ _ _ _ _ _ _ _ _ _ _ _ _ 136 _ _
  refine mv_aload_n (pc := 136) B d_Weaver_statement_136 rfl 0 rfl ?_
  refine mv_getR (pc := 137) (ci := 1) (C := R_Weaver) (T := F_Weaver) (N := 16) B 0 rfl rfl (by decide) i_Weaver (B.2.2.2.1 _ k_228) rfl ((congrFun (congrFun r_g1 2) 0).trans (hb.1.1 2 0 _ rfl)) d_Weaver_statement_137 ?_
  obtain ⟨g17, eg17, hf⟩ := xhv_e hf
  refine mv_callVv (pc := 140) (n := 0) (ci := 2) (C := R_Tokens) B (mK_ok sk sv) hNs rfl rfl (ch_Tokens_wrong l hi _ (xrw r_g1 hb.t) eg17) rfl (ma_goodc kc_Tokens_wrong) (B.2.2.2.1 _ k_1362) (B.2.2.2.1 _ k_1275) (B.2.2.2.1 _ k_1276) (B.2.2.2.1 _ k_3) ⟨by decide +kernel, by decide +kernel, by decide +kernel⟩ rfl d_Weaver_statement_140 rfl (Nat.le_of_ble_eq_true rfl) ⟨by decide, by decide⟩ ⟨by decide, by decide⟩ ⟨by decide, by decide⟩ (mv_noH hno _) (fun σ140 h140 => ?_)
  obtain ⟨rfl, s_g17⟩ := h140
  have r_g17 : mv_r g17 = mv_r h := s_g17.trans r_g1
  exact mv_vret (pc := 143) B hr d_Weaver_statement_143 (Nat.le_refl _) (Nat.le_refl _) ⟨rfl, xrh_v hf r_g17⟩
set_option maxHeartbeats 4000000 in
set_option maxRecDepth 100000 in
theorem ch_Weaver_statement_b (l : Launch) {dA : FieldType → ClassId} {D : va_G} {al : Nat → Nat} {ext : mv_Sh} {sk sv : Nat → Nat} (hi : mv_inj (mg dA D al ext)) (h : mv_H) (hb : xRP 48 (mv_r h))  {rg : mv_H} (hf : f_Weaver_statement 48 h = some rg) : mv_C l y_Weaver_statement (Cond.code y_Weaver_statement b_Weaver_statement 1 (Option.none : Option Jvm.ClassFile.FieldType) :: ma) ({ frames := 5, cells := 0, slots := 0, locals := 108 }) (mg dA D al ext) (mK sk sv) [.ref (al 2)] h (mv_Rv (fun σ1 => rg = σ1 ∧ mv_r σ1 = mv_r h)) := by
  refine mv_C.ofV (cc := b_Weaver_statement) (nL := 1) (ret := (Option.none : Option Jvm.ClassFile.FieldType)) (by decide +kernel) rfl hi (Nat.le_of_ble_eq_true rfl) ?_
  intro p e s m below meth c B hNs hr hnm hno
  unfold f_Weaver_statement at hf
  refine mv_aload_n (pc := 0) B d_Weaver_statement_0 rfl 0 rfl ?_
  refine mv_getR (pc := 1) (ci := 1) (C := R_Weaver) (T := F_Weaver) (N := 16) B 0 rfl rfl (by decide) i_Weaver (B.2.2.2.1 _ k_228) rfl (hb.1.1 2 0 _ rfl) d_Weaver_statement_1 ?_
  obtain ⟨v2, g1, eg1, hf⟩ := xhb_e hf
  refine mv_callVi (pc := 4) (n := 0) (ci := 2) (C := R_Tokens) B (mK_ok sk sv) hNs rfl rfl (ch_Tokens_kind l hi _ (hb.t) eg1) rfl (ma_goodc kc_Tokens_kind) (B.2.2.2.1 _ k_1299) (B.2.2.2.1 _ k_1271) (B.2.2.2.1 _ k_1272) (B.2.2.2.1 _ k_3) ⟨by decide +kernel, by decide +kernel, by decide +kernel⟩ rfl d_Weaver_statement_4 rfl (Nat.le_of_ble_eq_true rfl) ⟨by decide, by decide⟩ ⟨by decide, by decide⟩ ⟨by decide, by decide⟩ (mv_noH hno _) (fun w4 σ4 h4 => ?_)
  obtain ⟨rfl, rfl, s_g1⟩ := h4
  have r_g1 : mv_r g1 = mv_r h := s_g1.trans rfl
  refine mv_lsw (pc := 7) B d_Weaver_statement_7 (by decide) (by decide) ?_
  refine ⟨fun h7 => ?_, fun h7n3 => ?_⟩
  · skip
    have hf := xif_t h7 hf
    show mv_V _ _ _ _ _ _ _ _ _ _ _ _ _ _ _ _ 63 _ _
    refine mv_aload_n (pc := 63) B d_Weaver_statement_63 rfl 0 rfl ?_
    obtain ⟨g3, eg3, hf⟩ := xhv_e hf
    refine mv_callVv (pc := 64) (n := 0) (ci := 1) (C := R_Weaver) B (mK_ok sk sv) hNs rfl rfl (ch_Weaver_beginAssignment l hi _ (xrw r_g1 hb.t) eg3) rfl (ma_goodc kc_Weaver_beginAssignment) (B.2.2.2.1 _ k_1379) (B.2.2.2.1 _ k_1381) (B.2.2.2.1 _ ks_45) (B.2.2.2.1 _ k_2) ⟨by decide +kernel, by decide +kernel, by decide +kernel⟩ rfl d_Weaver_statement_64 rfl (Nat.le_of_ble_eq_true rfl) ⟨by decide, by decide⟩ ⟨by decide, by decide⟩ ⟨by decide, by decide⟩ (mv_noH hno _) (fun σ64 h64 => ?_)
    obtain ⟨rfl, s_g3⟩ := h64
    have r_g3 : mv_r g3 = mv_r h := s_g3.trans r_g1
    refine mv_goto (pc := 67) (tgt := 143) B d_Weaver_statement_67 rfl ?_
    exact mv_vret (pc := 143) B hr d_Weaver_statement_143 (Nat.le_refl _) (Nat.le_refl _) ⟨rfl, xrh_v hf r_g3⟩
  have hf := xif_f h7n3 hf
  refine ⟨fun h7 => ?_, fun h7n125 => ?_⟩
  · skip
    have hf := xif_t h7 hf
    show mv_V _ _ _ _ _ _ _ _ _ _ _ _ _ _ _ _ 129 _ _
    refine mv_aload_n (pc := 129) B d_Weaver_statement_129 rfl 0 rfl ?_
    obtain ⟨g4, eg4, hf⟩ := xhv_e hf
    refine mv_callVv (pc := 130) (n := 0) (ci := 1) (C := R_Weaver) B (mK_ok sk sv) hNs rfl rfl (ch_Weaver_closeBlock_b l hi _ (xrw r_g1 hb) eg4) rfl (ma_goodc kc_Weaver_closeBlock) (B.2.2.2.1 _ k_1392) (B.2.2.2.1 _ k_1394) (B.2.2.2.1 _ ks_47) (B.2.2.2.1 _ k_2) ⟨by decide +kernel, by decide +kernel, by decide +kernel⟩ rfl d_Weaver_statement_130 rfl (Nat.le_of_ble_eq_true rfl) ⟨by decide, by decide⟩ ⟨by decide, by decide⟩ ⟨by decide, by decide⟩ (mv_noH hno _) (fun σ130 h130 => ?_)
    obtain ⟨rfl, s_g4⟩ := h130
    have r_g4 : mv_r g4 = mv_r h := s_g4.trans r_g1
    refine mv_goto (pc := 133) (tgt := 143) B d_Weaver_statement_133 rfl ?_
    exact mv_vret (pc := 143) B hr d_Weaver_statement_143 (Nat.le_refl _) (Nat.le_refl _) ⟨rfl, xrh_v hf r_g4⟩
  have hf := xif_f h7n125 hf
  refine ⟨fun h7 => ?_, fun h7n207 => ?_⟩
  · skip
    have hf := xif_t h7 hf
    show mv_V _ _ _ _ _ _ _ _ _ _ _ _ _ _ _ _ 56 _ _
    refine mv_aload_n (pc := 56) B d_Weaver_statement_56 rfl 0 rfl ?_
    obtain ⟨g5, eg5, hf⟩ := xhv_e hf
    refine mv_callVv (pc := 57) (n := 0) (ci := 1) (C := R_Weaver) B (mK_ok sk sv) hNs rfl rfl (ch_Weaver_beginLet l hi _ (xrw r_g1 hb.t) eg5) rfl (ma_goodc kc_Weaver_beginLet) (B.2.2.2.1 _ k_1367) (B.2.2.2.1 _ k_1369) (B.2.2.2.1 _ ks_43) (B.2.2.2.1 _ k_2) ⟨by decide +kernel, by decide +kernel, by decide +kernel⟩ rfl d_Weaver_statement_57 rfl (Nat.le_of_ble_eq_true rfl) ⟨by decide, by decide⟩ ⟨by decide, by decide⟩ ⟨by decide, by decide⟩ (mv_noH hno _) (fun σ57 h57 => ?_)
    obtain ⟨rfl, s_g5⟩ := h57
    have r_g5 : mv_r g5 = mv_r h := s_g5.trans r_g1
    refine mv_goto (pc := 60) (tgt := 143) B d_Weaver_statement_60 rfl ?_
    exact mv_vret (pc := 143) B hr d_Weaver_statement_143 (Nat.le_refl _) (Nat.le_refl _) ⟨rfl, xrh_v hf r_g5⟩
  have hf := xif_f h7n207 hf
  refine ⟨fun h7 => ?_, fun h7n208 => ?_⟩
  · skip
    have hf := xif_t h7 hf
    show mv_V _ _ _ _ _ _ _ _ _ _ _ _ _ _ _ _ 70 _ _
    refine mv_aload_n (pc := 70) B d_Weaver_statement_70 rfl 0 rfl ?_
    refine mv_getR (pc := 71) (ci := 1) (C := R_Weaver) (T := F_Weaver) (N := 16) B 0 rfl rfl (by decide) i_Weaver (B.2.2.2.1 _ k_228) rfl ((congrFun (congrFun r_g1 2) 0).trans (hb.1.1 2 0 _ rfl)) d_Weaver_statement_71 ?_
    refine mv_sipush (pc := 74) (v := 208) B d_Weaver_statement_74 (by decide) ?_
    obtain ⟨v7, g6, eg6, hf⟩ := xhb_e hf
    refine mv_callVi (pc := 77) (n := 1) (ci := 2) (C := R_Tokens) B (mK_ok sk sv) hNs rfl rfl (ch_Tokens_take l hi _ (xrw r_g1 hb.t) _ eg6) rfl (ma_goodc kc_Tokens_take) (B.2.2.2.1 _ k_1266) (B.2.2.2.1 _ k_1267) (B.2.2.2.1 _ k_1268) (B.2.2.2.1 _ k_3) ⟨by decide +kernel, by decide +kernel, by decide +kernel⟩ rfl d_Weaver_statement_77 rfl (Nat.le_of_ble_eq_true rfl) ⟨by decide, by decide⟩ ⟨by decide, by decide⟩ ⟨by decide, by decide⟩ (mv_noH hno _) (fun w77 σ77 h77 => ?_)
    obtain ⟨rfl, rfl, s_g6⟩ := h77
    have r_g6 : mv_r g6 = mv_r h := s_g6.trans r_g1
    refine mv_pop (pc := 80) B d_Weaver_statement_80 rfl ?_
    refine mv_aload_n (pc := 81) B d_Weaver_statement_81 rfl 0 rfl ?_
    refine mv_getR (pc := 82) (ci := 1) (C := R_Weaver) (T := F_Weaver) (N := 16) B 5 rfl rfl (by decide) i_Weaver (B.2.2.2.1 _ k_235) rfl ((congrFun (congrFun r_g6 2) 5).trans hb.1.2.2.1) d_Weaver_statement_82 ?_
    refine mv_sipush (pc := 85) (v := 316) B d_Weaver_statement_85 (by decide) ?_
    refine mv_aload_n (pc := 88) B d_Weaver_statement_88 rfl 0 rfl ?_
    refine mv_aload_n (pc := 89) B d_Weaver_statement_89 rfl 0 rfl ?_
    refine mv_getR (pc := 90) (ci := 1) (C := R_Weaver) (T := F_Weaver) (N := 16) B 0 rfl rfl (by decide) i_Weaver (B.2.2.2.1 _ k_228) rfl ((congrFun (congrFun r_g6 2) 0).trans (hb.1.1 2 0 _ rfl)) d_Weaver_statement_90 ?_
    refine mv_iconst (pc := 93) (v := 4) B d_Weaver_statement_93 (by decide) ?_
    obtain ⟨v9, g8, eg8, hf⟩ := xhb_e hf
    refine mv_callVi (pc := 94) (n := 1) (ci := 2) (C := R_Tokens) B (mK_ok sk sv) hNs rfl rfl (ch_Tokens_take l hi _ (xrw r_g6 hb.t) _ eg8) rfl (ma_goodc kc_Tokens_take) (B.2.2.2.1 _ k_1266) (B.2.2.2.1 _ k_1267) (B.2.2.2.1 _ k_1268) (B.2.2.2.1 _ k_3) ⟨by decide +kernel, by decide +kernel, by decide +kernel⟩ rfl d_Weaver_statement_94 rfl (Nat.le_of_ble_eq_true rfl) ⟨by decide, by decide⟩ ⟨by decide, by decide⟩ ⟨by decide, by decide⟩ (mv_noH hno _) (fun w94 σ94 h94 => ?_)
    obtain ⟨rfl, rfl, s_g8⟩ := h94
    have r_g8 : mv_r g8 = mv_r h := s_g8.trans r_g6
    refine mv_ldcw (pc := 97) (v := 1000000) B (B.2.2.2.1 _ k_1383) d_Weaver_statement_97 ?_
    obtain ⟨v11, g10, eg10, hf⟩ := xhb_e hf
    refine mv_callVi (pc := 100) (n := 2) (ci := 1) (C := R_Weaver) B (mK_ok sk sv) hNs rfl rfl (ch_Weaver_numberUpTo l hi _ (xrw r_g8 hb.t) _ _ eg10) rfl (ma_goodc kc_Weaver_numberUpTo) (B.2.2.2.1 _ k_1304) (B.2.2.2.1 _ k_1306) (B.2.2.2.1 _ ks_35) (B.2.2.2.1 _ k_2) ⟨by decide +kernel, by decide +kernel, by decide +kernel⟩ rfl d_Weaver_statement_100 rfl (Nat.le_of_ble_eq_true rfl) ⟨by decide, by decide⟩ ⟨by decide, by decide⟩ ⟨by decide, by decide⟩ (mv_noH hno _) (fun w100 σ100 h100 => ?_)
    obtain ⟨rfl, rfl, s_g10⟩ := h100
    have r_g10 : mv_r g10 = mv_r h := s_g10.trans r_g8
    refine mv_i2l (pc := 103) B d_Weaver_statement_103 ?_
    obtain ⟨v13, g12, eg12, hf⟩ := xhb_e hf
    refine mv_callVi (pc := 104) (n := 2) (ci := 7) (C := R_Program) B (mK_ok sk sv) hNs rfl rfl (ch_Program_emit_b l hi _ (xrw r_g10 hb) _ _ eg12) rfl (ma_goodc kc_Program_emit) (B.2.2.2.1 _ k_1384) (B.2.2.2.1 _ k_1385) (B.2.2.2.1 _ k_1386) (B.2.2.2.1 _ k_8) ⟨by decide +kernel, by decide +kernel, by decide +kernel⟩ rfl d_Weaver_statement_104 rfl (Nat.le_of_ble_eq_true rfl) ⟨by decide, by decide⟩ ⟨by decide, by decide⟩ ⟨by decide, by decide⟩ (mv_noH hno _) (fun w104 σ104 h104 => ?_)
    obtain ⟨rfl, rfl, s_g12⟩ := h104
    have r_g12 : mv_r g12 = mv_r h := s_g12.trans r_g10
    refine mv_pop (pc := 107) B d_Weaver_statement_107 rfl ?_
    refine mv_aload_n (pc := 108) B d_Weaver_statement_108 rfl 0 rfl ?_
    refine mv_getR (pc := 109) (ci := 1) (C := R_Weaver) (T := F_Weaver) (N := 16) B 0 rfl rfl (by decide) i_Weaver (B.2.2.2.1 _ k_228) rfl ((congrFun (congrFun r_g12 2) 0).trans (hb.1.1 2 0 _ rfl)) d_Weaver_statement_109 ?_
    refine mv_bipush (pc := 112) (v := 59) B d_Weaver_statement_112 (by decide) ?_
    obtain ⟨v15, g14, eg14, hf⟩ := xhb_e hf
    refine mv_callVi (pc := 114) (n := 1) (ci := 2) (C := R_Tokens) B (mK_ok sk sv) hNs rfl rfl (ch_Tokens_take l hi _ (xrw r_g12 hb.t) _ eg14) rfl (ma_goodc kc_Tokens_take) (B.2.2.2.1 _ k_1266) (B.2.2.2.1 _ k_1267) (B.2.2.2.1 _ k_1268) (B.2.2.2.1 _ k_3) ⟨by decide +kernel, by decide +kernel, by decide +kernel⟩ rfl d_Weaver_statement_114 rfl (Nat.le_of_ble_eq_true rfl) ⟨by decide, by decide⟩ ⟨by decide, by decide⟩ ⟨by decide, by decide⟩ (mv_noH hno _) (fun w114 σ114 h114 => ?_)
    obtain ⟨rfl, rfl, s_g14⟩ := h114
    have r_g14 : mv_r g14 = mv_r h := s_g14.trans r_g12
    refine mv_pop (pc := 117) B d_Weaver_statement_117 rfl ?_
    refine mv_goto (pc := 118) (tgt := 143) B d_Weaver_statement_118 rfl ?_
    exact mv_vret (pc := 143) B hr d_Weaver_statement_143 (Nat.le_refl _) (Nat.le_refl _) ⟨rfl, xrh_v hf r_g14⟩
  have hf := xif_f h7n208 hf
  refine ⟨fun h7 => ?_, fun h7n209 => ?_⟩
  · skip
    have hf := xif_t h7 hf
    show mv_V _ _ _ _ _ _ _ _ _ _ _ _ _ _ _ _ 121 _ _
    refine mv_aload_n (pc := 121) B d_Weaver_statement_121 rfl 0 rfl ?_
    refine mv_iconst (pc := 122) (v := -1) B d_Weaver_statement_122 (by decide) ?_
    obtain ⟨g16, eg16, hf⟩ := xhv_e hf
    refine mv_callVv (pc := 123) (n := 1) (ci := 1) (C := R_Weaver) B (mK_ok sk sv) hNs rfl rfl (ch_Weaver_beginIf l hi _ (xrw r_g1 hb.t) _ eg16) rfl (ma_goodc kc_Weaver_beginIf) (B.2.2.2.1 _ k_1388) (B.2.2.2.1 _ k_1390) (B.2.2.2.1 _ ks_46) (B.2.2.2.1 _ k_2) ⟨by decide +kernel, by decide +kernel, by decide +kernel⟩ rfl d_Weaver_statement_123 rfl (Nat.le_of_ble_eq_true rfl) ⟨by decide, by decide⟩ ⟨by decide, by decide⟩ ⟨by decide, by decide⟩ (mv_noH hno _) (fun σ123 h123 => ?_)
    obtain ⟨rfl, s_g16⟩ := h123
    have r_g16 : mv_r g16 = mv_r h := s_g16.trans r_g1
    refine mv_goto (pc := 126) (tgt := 143) B d_Weaver_statement_126 rfl ?_
    exact mv_vret (pc := 143) B hr d_Weaver_statement_143 (Nat.le_refl _) (Nat.le_refl _) ⟨rfl, xrh_v hf r_g16⟩
  have hf := xif_f h7n209 hf
  show mv_V _ _ _ _ _ _ _ _ _ _ _ _ _ _ _ _ 136 _ _
  refine mv_aload_n (pc := 136) B d_Weaver_statement_136 rfl 0 rfl ?_
  refine mv_getR (pc := 137) (ci := 1) (C := R_Weaver) (T := F_Weaver) (N := 16) B 0 rfl rfl (by decide) i_Weaver (B.2.2.2.1 _ k_228) rfl ((congrFun (congrFun r_g1 2) 0).trans (hb.1.1 2 0 _ rfl)) d_Weaver_statement_137 ?_
  obtain ⟨g17, eg17, hf⟩ := xhv_e hf
  refine mv_callVv (pc := 140) (n := 0) (ci := 2) (C := R_Tokens) B (mK_ok sk sv) hNs rfl rfl (ch_Tokens_wrong l hi _ (xrw r_g1 hb.t) eg17) rfl (ma_goodc kc_Tokens_wrong) (B.2.2.2.1 _ k_1362) (B.2.2.2.1 _ k_1275) (B.2.2.2.1 _ k_1276) (B.2.2.2.1 _ k_3) ⟨by decide +kernel, by decide +kernel, by decide +kernel⟩ rfl d_Weaver_statement_140 rfl (Nat.le_of_ble_eq_true rfl) ⟨by decide, by decide⟩ ⟨by decide, by decide⟩ ⟨by decide, by decide⟩ (mv_noH hno _) (fun σ140 h140 => ?_)
  obtain ⟨rfl, s_g17⟩ := h140
  have r_g17 : mv_r g17 = mv_r h := s_g17.trans r_g1
  exact mv_vret (pc := 143) B hr d_Weaver_statement_143 (Nat.le_refl _) (Nat.le_refl _) ⟨rfl, xrh_v hf r_g17⟩
def f_Weaver_item (P : Nat) (h : mv_H) : Option mv_H := xhb (f_Tokens_kind h) fun v2 g1 => if (v2).toInt = 1 then (xk (mv_si g1 2 6 (4 : Int32)) fun g3 => some g3) else (if (v2).toInt = 201 then (xhv (f_Weaver_register P g1) fun g4 => some g4) else (if (v2).toInt = 202 then (xhv (f_Weaver_file P g1) fun g5 => some g5) else (if (v2).toInt = 204 then (xhv (f_Weaver_fetch P g1) fun g6 => some g6) else (if (v2).toInt = 206 then (xhv (f_Weaver_op P g1) fun g7 => some g7) else (xhv (f_Tokens_wrong g1) fun g8 => some g8)))))
set_option maxHeartbeats 4000000 in
set_option maxRecDepth 100000 in
theorem ch_Weaver_item_a (l : Launch) {dA : FieldType → ClassId} {D : va_G} {al : Nat → Nat} {ext : mv_Sh} {sk sv : Nat → Nat} (hi : mv_inj (mg dA D al ext)) (h : mv_H) (hb : xRP 32 (mv_r h))  {rg : mv_H} (hf : f_Weaver_item 32 h = some rg) : mv_C l y_Weaver_item (Cond.code y_Weaver_item b_Weaver_item 1 (Option.none : Option Jvm.ClassFile.FieldType) :: ma) ({ frames := 5, cells := 0, slots := 0, locals := 111 }) (mg dA D al ext) (mK sk sv) [.ref (al 2)] h (mv_Rv (fun σ1 => rg = σ1 ∧ mv_r σ1 = mv_r h)) := by
  refine mv_C.ofV (cc := b_Weaver_item) (nL := 1) (ret := (Option.none : Option Jvm.ClassFile.FieldType)) (by decide +kernel) rfl hi (Nat.le_of_ble_eq_true rfl) ?_
  intro p e s m below meth c B hNs hr hnm hno
  unfold f_Weaver_item at hf
  refine mv_aload_n (pc := 0) B d_Weaver_item_0 rfl 0 rfl ?_
  refine mv_getR (pc := 1) (ci := 1) (C := R_Weaver) (T := F_Weaver) (N := 16) B 0 rfl rfl (by decide) i_Weaver (B.2.2.2.1 _ k_228) rfl (hb.1.1 2 0 _ rfl) d_Weaver_item_1 ?_
  obtain ⟨v2, g1, eg1, hf⟩ := xhb_e hf
  refine mv_callVi (pc := 4) (n := 0) (ci := 2) (C := R_Tokens) B (mK_ok sk sv) hNs rfl rfl (ch_Tokens_kind l hi _ (hb.t) eg1) rfl (ma_goodc kc_Tokens_kind) (B.2.2.2.1 _ k_1299) (B.2.2.2.1 _ k_1271) (B.2.2.2.1 _ k_1272) (B.2.2.2.1 _ k_3) ⟨by decide +kernel, by decide +kernel, by decide +kernel⟩ rfl d_Weaver_item_4 rfl (Nat.le_of_ble_eq_true rfl) ⟨by decide, by decide⟩ ⟨by decide, by decide⟩ ⟨by decide, by decide⟩ (mv_noH hno _) (fun w4 σ4 h4 => ?_)
  obtain ⟨rfl, rfl, s_g1⟩ := h4
  have r_g1 : mv_r g1 = mv_r h := s_g1.trans rfl
  refine mv_lsw (pc := 7) B d_Weaver_item_7 (by decide) (by decide) ?_
  refine ⟨fun h7 => ?_, fun h7n1 => ?_⟩
  · skip
    have hf := xif_t h7 hf
    show mv_V _ _ _ _ _ _ _ _ _ _ _ _ _ _ _ _ 84 _ _
    refine mv_aload_n (pc := 84) B d_Weaver_item_84 rfl 0 rfl ?_
    refine mv_iconst (pc := 85) (v := 4) B d_Weaver_item_85 (by decide) ?_
    refine mv_putI (pc := 86) (ci := 1) (C := R_Weaver) (T := F_Weaver) (N := 16) B 6 rfl rfl (by decide) i_Weaver t_Weaver_ok n_Weaver (B.2.2.2.1 _ k_236) rfl rfl rfl rfl d_Weaver_item_86 ?_
    refine mvh_hp (R9 := mv_r h) hf r_g1 (fun g3 hf r_g3 => ?_)
    refine mv_goto (pc := 89) (tgt := 99) B d_Weaver_item_89 rfl ?_
    exact mv_vret (pc := 99) B hr d_Weaver_item_99 (Nat.le_refl _) (Nat.le_refl _) ⟨rfl, xrh_v hf r_g3⟩
  have hf := xif_f h7n1 hf
  refine ⟨fun h7 => ?_, fun h7n201 => ?_⟩
  · skip
    have hf := xif_t h7 hf
    show mv_V _ _ _ _ _ _ _ _ _ _ _ _ _ _ _ _ 56 _ _
    refine mv_aload_n (pc := 56) B d_Weaver_item_56 rfl 0 rfl ?_
    obtain ⟨g4, eg4, hf⟩ := xhv_e hf
    refine mv_callVv (pc := 57) (n := 0) (ci := 1) (C := R_Weaver) B (mK_ok sk sv) hNs rfl rfl (ch_Weaver_register_a l hi _ (xrw r_g1 hb) eg4) rfl (ma_goodc kc_Weaver_register) (B.2.2.2.1 _ k_1300) (B.2.2.2.1 _ k_1302) (B.2.2.2.1 _ ks_34) (B.2.2.2.1 _ k_2) ⟨by decide +kernel, by decide +kernel, by decide +kernel⟩ rfl d_Weaver_item_57 rfl (Nat.le_of_ble_eq_true rfl) ⟨by decide, by decide⟩ ⟨by decide, by decide⟩ ⟨by decide, by decide⟩ (mv_noH hno _) (fun σ57 h57 => ?_)
    obtain ⟨rfl, s_g4⟩ := h57
    have r_g4 : mv_r g4 = mv_r h := s_g4.trans r_g1
    refine mv_goto (pc := 60) (tgt := 99) B d_Weaver_item_60 rfl ?_
    exact mv_vret (pc := 99) B hr d_Weaver_item_99 (Nat.le_refl _) (Nat.le_refl _) ⟨rfl, xrh_v hf r_g4⟩
  have hf := xif_f h7n201 hf
  refine ⟨fun h7 => ?_, fun h7n202 => ?_⟩
  · skip
    have hf := xif_t h7 hf
    show mv_V _ _ _ _ _ _ _ _ _ _ _ _ _ _ _ _ 63 _ _
    refine mv_aload_n (pc := 63) B d_Weaver_item_63 rfl 0 rfl ?_
    obtain ⟨g5, eg5, hf⟩ := xhv_e hf
    refine mv_callVv (pc := 64) (n := 0) (ci := 1) (C := R_Weaver) B (mK_ok sk sv) hNs rfl rfl (ch_Weaver_file_a l hi _ (xrw r_g1 hb) eg5) rfl (ma_goodc kc_Weaver_file) (B.2.2.2.1 _ k_1333) (B.2.2.2.1 _ k_1335) (B.2.2.2.1 _ ks_38) (B.2.2.2.1 _ k_2) ⟨by decide +kernel, by decide +kernel, by decide +kernel⟩ rfl d_Weaver_item_64 rfl (Nat.le_of_ble_eq_true rfl) ⟨by decide, by decide⟩ ⟨by decide, by decide⟩ ⟨by decide, by decide⟩ (mv_noH hno _) (fun σ64 h64 => ?_)
    obtain ⟨rfl, s_g5⟩ := h64
    have r_g5 : mv_r g5 = mv_r h := s_g5.trans r_g1
    refine mv_goto (pc := 67) (tgt := 99) B d_Weaver_item_67 rfl ?_
    exact mv_vret (pc := 99) B hr d_Weaver_item_99 (Nat.le_refl _) (Nat.le_refl _) ⟨rfl, xrh_v hf r_g5⟩
  have hf := xif_f h7n202 hf
  refine ⟨fun h7 => ?_, fun h7n204 => ?_⟩
  · skip
    have hf := xif_t h7 hf
    show mv_V _ _ _ _ _ _ _ _ _ _ _ _ _ _ _ _ 70 _ _
    refine mv_aload_n (pc := 70) B d_Weaver_item_70 rfl 0 rfl ?_
    obtain ⟨g6, eg6, hf⟩ := xhv_e hf
    refine mv_callVv (pc := 71) (n := 0) (ci := 1) (C := R_Weaver) B (mK_ok sk sv) hNs rfl rfl (ch_Weaver_fetch_a l hi _ (xrw r_g1 hb) eg6) rfl (ma_goodc kc_Weaver_fetch) (B.2.2.2.1 _ k_1337) (B.2.2.2.1 _ k_1339) (B.2.2.2.1 _ ks_39) (B.2.2.2.1 _ k_2) ⟨by decide +kernel, by decide +kernel, by decide +kernel⟩ rfl d_Weaver_item_71 rfl (Nat.le_of_ble_eq_true rfl) ⟨by decide, by decide⟩ ⟨by decide, by decide⟩ ⟨by decide, by decide⟩ (mv_noH hno _) (fun σ71 h71 => ?_)
    obtain ⟨rfl, s_g6⟩ := h71
    have r_g6 : mv_r g6 = mv_r h := s_g6.trans r_g1
    refine mv_goto (pc := 74) (tgt := 99) B d_Weaver_item_74 rfl ?_
    exact mv_vret (pc := 99) B hr d_Weaver_item_99 (Nat.le_refl _) (Nat.le_refl _) ⟨rfl, xrh_v hf r_g6⟩
  have hf := xif_f h7n204 hf
  refine ⟨fun h7 => ?_, fun h7n206 => ?_⟩
  · skip
    have hf := xif_t h7 hf
    show mv_V _ _ _ _ _ _ _ _ _ _ _ _ _ _ _ _ 77 _ _
    refine mv_aload_n (pc := 77) B d_Weaver_item_77 rfl 0 rfl ?_
    obtain ⟨g7, eg7, hf⟩ := xhv_e hf
    refine mv_callVv (pc := 78) (n := 0) (ci := 1) (C := R_Weaver) B (mK_ok sk sv) hNs rfl rfl (ch_Weaver_op_a l hi _ (xrw r_g1 hb) eg7) rfl (ma_goodc kc_Weaver_op) (B.2.2.2.1 _ k_1341) (B.2.2.2.1 _ k_1343) (B.2.2.2.1 _ ks_40) (B.2.2.2.1 _ k_2) ⟨by decide +kernel, by decide +kernel, by decide +kernel⟩ rfl d_Weaver_item_78 rfl (Nat.le_of_ble_eq_true rfl) ⟨by decide, by decide⟩ ⟨by decide, by decide⟩ ⟨by decide, by decide⟩ (mv_noH hno _) (fun σ78 h78 => ?_)
    obtain ⟨rfl, s_g7⟩ := h78
    have r_g7 : mv_r g7 = mv_r h := s_g7.trans r_g1
    refine mv_goto (pc := 81) (tgt := 99) B d_Weaver_item_81 rfl ?_
    exact mv_vret (pc := 99) B hr d_Weaver_item_99 (Nat.le_refl _) (Nat.le_refl _) ⟨rfl, xrh_v hf r_g7⟩
  have hf := xif_f h7n206 hf
  show mv_V _ _ _ _ _ _ _ _ _ _ _ _ _ _ _ _ 92 _ _
  refine mv_aload_n (pc := 92) B d_Weaver_item_92 rfl 0 rfl ?_
  refine mv_getR (pc := 93) (ci := 1) (C := R_Weaver) (T := F_Weaver) (N := 16) B 0 rfl rfl (by decide) i_Weaver (B.2.2.2.1 _ k_228) rfl ((congrFun (congrFun r_g1 2) 0).trans (hb.1.1 2 0 _ rfl)) d_Weaver_item_93 ?_
  obtain ⟨g8, eg8, hf⟩ := xhv_e hf
  refine mv_callVv (pc := 96) (n := 0) (ci := 2) (C := R_Tokens) B (mK_ok sk sv) hNs rfl rfl (ch_Tokens_wrong l hi _ (xrw r_g1 hb.t) eg8) rfl (ma_goodc kc_Tokens_wrong) (B.2.2.2.1 _ k_1362) (B.2.2.2.1 _ k_1275) (B.2.2.2.1 _ k_1276) (B.2.2.2.1 _ k_3) ⟨by decide +kernel, by decide +kernel, by decide +kernel⟩ rfl d_Weaver_item_96 rfl (Nat.le_of_ble_eq_true rfl) ⟨by decide, by decide⟩ ⟨by decide, by decide⟩ ⟨by decide, by decide⟩ (mv_noH hno _) (fun σ96 h96 => ?_)
  obtain ⟨rfl, s_g8⟩ := h96
  have r_g8 : mv_r g8 = mv_r h := s_g8.trans r_g1
  exact mv_vret (pc := 99) B hr d_Weaver_item_99 (Nat.le_refl _) (Nat.le_refl _) ⟨rfl, xrh_v hf r_g8⟩
set_option maxHeartbeats 4000000 in
set_option maxRecDepth 100000 in
theorem ch_Weaver_item_b (l : Launch) {dA : FieldType → ClassId} {D : va_G} {al : Nat → Nat} {ext : mv_Sh} {sk sv : Nat → Nat} (hi : mv_inj (mg dA D al ext)) (h : mv_H) (hb : xRP 48 (mv_r h))  {rg : mv_H} (hf : f_Weaver_item 48 h = some rg) : mv_C l y_Weaver_item (Cond.code y_Weaver_item b_Weaver_item 1 (Option.none : Option Jvm.ClassFile.FieldType) :: ma) ({ frames := 5, cells := 0, slots := 0, locals := 111 }) (mg dA D al ext) (mK sk sv) [.ref (al 2)] h (mv_Rv (fun σ1 => rg = σ1 ∧ mv_r σ1 = mv_r h)) := by
  refine mv_C.ofV (cc := b_Weaver_item) (nL := 1) (ret := (Option.none : Option Jvm.ClassFile.FieldType)) (by decide +kernel) rfl hi (Nat.le_of_ble_eq_true rfl) ?_
  intro p e s m below meth c B hNs hr hnm hno
  unfold f_Weaver_item at hf
  refine mv_aload_n (pc := 0) B d_Weaver_item_0 rfl 0 rfl ?_
  refine mv_getR (pc := 1) (ci := 1) (C := R_Weaver) (T := F_Weaver) (N := 16) B 0 rfl rfl (by decide) i_Weaver (B.2.2.2.1 _ k_228) rfl (hb.1.1 2 0 _ rfl) d_Weaver_item_1 ?_
  obtain ⟨v2, g1, eg1, hf⟩ := xhb_e hf
  refine mv_callVi (pc := 4) (n := 0) (ci := 2) (C := R_Tokens) B (mK_ok sk sv) hNs rfl rfl (ch_Tokens_kind l hi _ (hb.t) eg1) rfl (ma_goodc kc_Tokens_kind) (B.2.2.2.1 _ k_1299) (B.2.2.2.1 _ k_1271) (B.2.2.2.1 _ k_1272) (B.2.2.2.1 _ k_3) ⟨by decide +kernel, by decide +kernel, by decide +kernel⟩ rfl d_Weaver_item_4 rfl (Nat.le_of_ble_eq_true rfl) ⟨by decide, by decide⟩ ⟨by decide, by decide⟩ ⟨by decide, by decide⟩ (mv_noH hno _) (fun w4 σ4 h4 => ?_)
  obtain ⟨rfl, rfl, s_g1⟩ := h4
  have r_g1 : mv_r g1 = mv_r h := s_g1.trans rfl
  refine mv_lsw (pc := 7) B d_Weaver_item_7 (by decide) (by decide) ?_
  refine ⟨fun h7 => ?_, fun h7n1 => ?_⟩
  · skip
    have hf := xif_t h7 hf
    show mv_V _ _ _ _ _ _ _ _ _ _ _ _ _ _ _ _ 84 _ _
    refine mv_aload_n (pc := 84) B d_Weaver_item_84 rfl 0 rfl ?_
    refine mv_iconst (pc := 85) (v := 4) B d_Weaver_item_85 (by decide) ?_
    refine mv_putI (pc := 86) (ci := 1) (C := R_Weaver) (T := F_Weaver) (N := 16) B 6 rfl rfl (by decide) i_Weaver t_Weaver_ok n_Weaver (B.2.2.2.1 _ k_236) rfl rfl rfl rfl d_Weaver_item_86 ?_
    refine mvh_hp (R9 := mv_r h) hf r_g1 (fun g3 hf r_g3 => ?_)
    refine mv_goto (pc := 89) (tgt := 99) B d_Weaver_item_89 rfl ?_
    exact mv_vret (pc := 99) B hr d_Weaver_item_99 (Nat.le_refl _) (Nat.le_refl _) ⟨rfl, xrh_v hf r_g3⟩
  have hf := xif_f h7n1 hf
  refine ⟨fun h7 => ?_, fun h7n201 => ?_⟩
  · skip
    have hf := xif_t h7 hf
    show mv_V _ _ _ _ _ _ _ _ _ _ _ _ _ _ _ _ 56 _ _
    refine mv_aload_n (pc := 56) B d_Weaver_item_56 rfl 0 rfl ?_
    obtain ⟨g4, eg4, hf⟩ := xhv_e hf
    refine mv_callVv (pc := 57) (n := 0) (ci := 1) (C := R_Weaver) B (mK_ok sk sv) hNs rfl rfl (ch_Weaver_register_b l hi _ (xrw r_g1 hb) eg4) rfl (ma_goodc kc_Weaver_register) (B.2.2.2.1 _ k_1300) (B.2.2.2.1 _ k_1302) (B.2.2.2.1 _ ks_34) (B.2.2.2.1 _ k_2) ⟨by decide +kernel, by decide +kernel, by decide +kernel⟩ rfl d_Weaver_item_57 rfl (Nat.le_of_ble_eq_true rfl) ⟨by decide, by decide⟩ ⟨by decide, by decide⟩ ⟨by decide, by decide⟩ (mv_noH hno _) (fun σ57 h57 => ?_)
    obtain ⟨rfl, s_g4⟩ := h57
    have r_g4 : mv_r g4 = mv_r h := s_g4.trans r_g1
    refine mv_goto (pc := 60) (tgt := 99) B d_Weaver_item_60 rfl ?_
    exact mv_vret (pc := 99) B hr d_Weaver_item_99 (Nat.le_refl _) (Nat.le_refl _) ⟨rfl, xrh_v hf r_g4⟩
  have hf := xif_f h7n201 hf
  refine ⟨fun h7 => ?_, fun h7n202 => ?_⟩
  · skip
    have hf := xif_t h7 hf
    show mv_V _ _ _ _ _ _ _ _ _ _ _ _ _ _ _ _ 63 _ _
    refine mv_aload_n (pc := 63) B d_Weaver_item_63 rfl 0 rfl ?_
    obtain ⟨g5, eg5, hf⟩ := xhv_e hf
    refine mv_callVv (pc := 64) (n := 0) (ci := 1) (C := R_Weaver) B (mK_ok sk sv) hNs rfl rfl (ch_Weaver_file_b l hi _ (xrw r_g1 hb) eg5) rfl (ma_goodc kc_Weaver_file) (B.2.2.2.1 _ k_1333) (B.2.2.2.1 _ k_1335) (B.2.2.2.1 _ ks_38) (B.2.2.2.1 _ k_2) ⟨by decide +kernel, by decide +kernel, by decide +kernel⟩ rfl d_Weaver_item_64 rfl (Nat.le_of_ble_eq_true rfl) ⟨by decide, by decide⟩ ⟨by decide, by decide⟩ ⟨by decide, by decide⟩ (mv_noH hno _) (fun σ64 h64 => ?_)
    obtain ⟨rfl, s_g5⟩ := h64
    have r_g5 : mv_r g5 = mv_r h := s_g5.trans r_g1
    refine mv_goto (pc := 67) (tgt := 99) B d_Weaver_item_67 rfl ?_
    exact mv_vret (pc := 99) B hr d_Weaver_item_99 (Nat.le_refl _) (Nat.le_refl _) ⟨rfl, xrh_v hf r_g5⟩
  have hf := xif_f h7n202 hf
  refine ⟨fun h7 => ?_, fun h7n204 => ?_⟩
  · skip
    have hf := xif_t h7 hf
    show mv_V _ _ _ _ _ _ _ _ _ _ _ _ _ _ _ _ 70 _ _
    refine mv_aload_n (pc := 70) B d_Weaver_item_70 rfl 0 rfl ?_
    obtain ⟨g6, eg6, hf⟩ := xhv_e hf
    refine mv_callVv (pc := 71) (n := 0) (ci := 1) (C := R_Weaver) B (mK_ok sk sv) hNs rfl rfl (ch_Weaver_fetch_b l hi _ (xrw r_g1 hb) eg6) rfl (ma_goodc kc_Weaver_fetch) (B.2.2.2.1 _ k_1337) (B.2.2.2.1 _ k_1339) (B.2.2.2.1 _ ks_39) (B.2.2.2.1 _ k_2) ⟨by decide +kernel, by decide +kernel, by decide +kernel⟩ rfl d_Weaver_item_71 rfl (Nat.le_of_ble_eq_true rfl) ⟨by decide, by decide⟩ ⟨by decide, by decide⟩ ⟨by decide, by decide⟩ (mv_noH hno _) (fun σ71 h71 => ?_)
    obtain ⟨rfl, s_g6⟩ := h71
    have r_g6 : mv_r g6 = mv_r h := s_g6.trans r_g1
    refine mv_goto (pc := 74) (tgt := 99) B d_Weaver_item_74 rfl ?_
    exact mv_vret (pc := 99) B hr d_Weaver_item_99 (Nat.le_refl _) (Nat.le_refl _) ⟨rfl, xrh_v hf r_g6⟩
  have hf := xif_f h7n204 hf
  refine ⟨fun h7 => ?_, fun h7n206 => ?_⟩
  · skip
    have hf := xif_t h7 hf
    show mv_V _ _ _ _ _ _ _ _ _ _ _ _ _ _ _ _ 77 _ _
    refine mv_aload_n (pc := 77) B d_Weaver_item_77 rfl 0 rfl ?_
    obtain ⟨g7, eg7, hf⟩ := xhv_e hf
    refine mv_callVv (pc := 78) (n := 0) (ci := 1) (C := R_Weaver) B (mK_ok sk sv) hNs rfl rfl (ch_Weaver_op_b l hi _ (xrw r_g1 hb) eg7) rfl (ma_goodc kc_Weaver_op) (B.2.2.2.1 _ k_1341) (B.2.2.2.1 _ k_1343) (B.2.2.2.1 _ ks_40) (B.2.2.2.1 _ k_2) ⟨by decide +kernel, by decide +kernel, by decide +kernel⟩ rfl d_Weaver_item_78 rfl (Nat.le_of_ble_eq_true rfl) ⟨by decide, by decide⟩ ⟨by decide, by decide⟩ ⟨by decide, by decide⟩ (mv_noH hno _) (fun σ78 h78 => ?_)
    obtain ⟨rfl, s_g7⟩ := h78
    have r_g7 : mv_r g7 = mv_r h := s_g7.trans r_g1
    refine mv_goto (pc := 81) (tgt := 99) B d_Weaver_item_81 rfl ?_
    exact mv_vret (pc := 99) B hr d_Weaver_item_99 (Nat.le_refl _) (Nat.le_refl _) ⟨rfl, xrh_v hf r_g7⟩
  have hf := xif_f h7n206 hf
  show mv_V _ _ _ _ _ _ _ _ _ _ _ _ _ _ _ _ 92 _ _
  refine mv_aload_n (pc := 92) B d_Weaver_item_92 rfl 0 rfl ?_
  refine mv_getR (pc := 93) (ci := 1) (C := R_Weaver) (T := F_Weaver) (N := 16) B 0 rfl rfl (by decide) i_Weaver (B.2.2.2.1 _ k_228) rfl ((congrFun (congrFun r_g1 2) 0).trans (hb.1.1 2 0 _ rfl)) d_Weaver_item_93 ?_
  obtain ⟨g8, eg8, hf⟩ := xhv_e hf
  refine mv_callVv (pc := 96) (n := 0) (ci := 2) (C := R_Tokens) B (mK_ok sk sv) hNs rfl rfl (ch_Tokens_wrong l hi _ (xrw r_g1 hb.t) eg8) rfl (ma_goodc kc_Tokens_wrong) (B.2.2.2.1 _ k_1362) (B.2.2.2.1 _ k_1275) (B.2.2.2.1 _ k_1276) (B.2.2.2.1 _ k_3) ⟨by decide +kernel, by decide +kernel, by decide +kernel⟩ rfl d_Weaver_item_96 rfl (Nat.le_of_ble_eq_true rfl) ⟨by decide, by decide⟩ ⟨by decide, by decide⟩ ⟨by decide, by decide⟩ (mv_noH hno _) (fun σ96 h96 => ?_)
  obtain ⟨rfl, s_g8⟩ := h96
  have r_g8 : mv_r g8 = mv_r h := s_g8.trans r_g1
  exact mv_vret (pc := 99) B hr d_Weaver_item_99 (Nat.le_refl _) (Nat.le_refl _) ⟨rfl, xrh_v hf r_g8⟩
def f_Weaver_addLet (P : Nat) (h : mv_H) (a0 : Int32) : Option mv_H := if (mv_i h 2 9) < (0 : Int32) then (some h) else (xhb (f_Program_emit P h (313 : Int32) (((mv_i h 13 9)).toInt64)) fun v2 g1 => xhv (f_Names_addLet g1 (mv_i g1 2 9) a0) fun g3 => some g3)
set_option maxHeartbeats 4000000 in
set_option maxRecDepth 100000 in
theorem ch_Weaver_addLet_a (l : Launch) {dA : FieldType → ClassId} {D : va_G} {al : Nat → Nat} {ext : mv_Sh} {sk sv : Nat → Nat} (hi : mv_inj (mg dA D al ext)) (h : mv_H) (hb : xRP 32 (mv_r h))  (a0 : Int32) {rg : mv_H} (hf : f_Weaver_addLet 32 h a0 = some rg) : mv_C l y_Weaver_addLet (Cond.code y_Weaver_addLet b_Weaver_addLet 2 (Option.none : Option Jvm.ClassFile.FieldType) :: ma) ({ frames := 2, cells := 0, slots := 0, locals := 45 }) (mg dA D al ext) (mK sk sv) [.ref (al 2), .int a0] h (mv_Rv (fun σ1 => rg = σ1 ∧ mv_r σ1 = mv_r h)) := by
  refine mv_C.ofV (cc := b_Weaver_addLet) (nL := 2) (ret := (Option.none : Option Jvm.ClassFile.FieldType)) (by decide +kernel) rfl hi (Nat.le_of_ble_eq_true rfl) ?_
  intro p e s m below meth c B hNs hr hnm hno
  unfold f_Weaver_addLet at hf
  refine mv_aload_n (pc := 0) B d_Weaver_addLet_0 rfl 0 rfl ?_
  refine mv_getI (pc := 1) (ci := 1) (C := R_Weaver) (T := F_Weaver) (N := 16) B 9 rfl rfl (by decide) i_Weaver (B.2.2.2.1 _ k_239) rfl d_Weaver_addLet_1 ?_
  refine mv_if_lt (pc := 4) (tgt := 38) B d_Weaver_addLet_4 rfl (fun h4 => ?_) (fun h4 => ?_)
  · skip
    have hf := xif_t h4 hf
    exact mv_vret (pc := 38) B hr d_Weaver_addLet_38 (Nat.le_refl _) (Nat.le_refl _) ⟨rfl, xrh_v hf rfl⟩
  · skip
    have hf := xif_f h4 hf
    refine mv_aload_n (pc := 7) B d_Weaver_addLet_7 rfl 0 rfl ?_
    refine mv_getR (pc := 8) (ci := 1) (C := R_Weaver) (T := F_Weaver) (N := 16) B 5 rfl rfl (by decide) i_Weaver (B.2.2.2.1 _ k_235) rfl hb.1.2.2.1 d_Weaver_addLet_8 ?_
    refine mv_sipush (pc := 11) (v := 313) B d_Weaver_addLet_11 (by decide) ?_
    refine mv_aload_n (pc := 14) B d_Weaver_addLet_14 rfl 0 rfl ?_
    refine mv_getR (pc := 15) (ci := 1) (C := R_Weaver) (T := F_Weaver) (N := 16) B 1 rfl rfl (by decide) i_Weaver (B.2.2.2.1 _ k_229) rfl (hb.1.1 2 1 _ rfl) d_Weaver_addLet_15 ?_
    refine mv_getI (pc := 18) (ci := 4) (C := R_Names) (T := F_Names) (N := 10) B 9 rfl rfl (by decide) i_Names (B.2.2.2.1 _ k_149) rfl d_Weaver_addLet_18 ?_
    refine mv_i2l (pc := 21) B d_Weaver_addLet_21 ?_
    obtain ⟨v2, g1, eg1, hf⟩ := xhb_e hf
    refine mv_callVi (pc := 22) (n := 2) (ci := 7) (C := R_Program) B (mK_ok sk sv) hNs rfl rfl (ch_Program_emit_a l hi _ (hb) _ _ eg1) rfl (ma_goodc kc_Program_emit) (B.2.2.2.1 _ k_1384) (B.2.2.2.1 _ k_1385) (B.2.2.2.1 _ k_1386) (B.2.2.2.1 _ k_8) ⟨by decide +kernel, by decide +kernel, by decide +kernel⟩ rfl d_Weaver_addLet_22 rfl (Nat.le_of_ble_eq_true rfl) ⟨by decide, by decide⟩ ⟨by decide, by decide⟩ ⟨by decide, by decide⟩ (mv_noH hno _) (fun w22 σ22 h22 => ?_)
    obtain ⟨rfl, rfl, s_g1⟩ := h22
    have r_g1 : mv_r g1 = mv_r h := s_g1.trans rfl
    refine mv_pop (pc := 25) B d_Weaver_addLet_25 rfl ?_
    refine mv_aload_n (pc := 26) B d_Weaver_addLet_26 rfl 0 rfl ?_
    refine mv_getR (pc := 27) (ci := 1) (C := R_Weaver) (T := F_Weaver) (N := 16) B 1 rfl rfl (by decide) i_Weaver (B.2.2.2.1 _ k_229) rfl ((congrFun (congrFun r_g1 2) 1).trans (hb.1.1 2 1 _ rfl)) d_Weaver_addLet_27 ?_
    refine mv_aload_n (pc := 30) B d_Weaver_addLet_30 rfl 0 rfl ?_
    refine mv_getI (pc := 31) (ci := 1) (C := R_Weaver) (T := F_Weaver) (N := 16) B 9 rfl rfl (by decide) i_Weaver (B.2.2.2.1 _ k_239) rfl d_Weaver_addLet_31 ?_
    refine mv_iload_n (pc := 34) B d_Weaver_addLet_34 rfl 1 rfl ?_
    obtain ⟨g3, eg3, hf⟩ := xhv_e hf
    refine mv_callVv (pc := 35) (n := 2) (ci := 4) (C := R_Names) B (mK_ok sk sv) hNs rfl rfl (ch_Names_addLet l hi _ (xrw r_g1 hb.t) _ _ eg3) rfl (ma_goodc kc_Names_addLet) (B.2.2.2.1 _ k_1531) (B.2.2.2.1 _ k_1532) (B.2.2.2.1 _ k_1533) (B.2.2.2.1 _ k_5) ⟨by decide +kernel, by decide +kernel, by decide +kernel⟩ rfl d_Weaver_addLet_35 rfl (Nat.le_of_ble_eq_true rfl) ⟨by decide, by decide⟩ ⟨by decide, by decide⟩ ⟨by decide, by decide⟩ (mv_noH hno _) (fun σ35 h35 => ?_)
    obtain ⟨rfl, s_g3⟩ := h35
    have r_g3 : mv_r g3 = mv_r h := s_g3.trans r_g1
    exact mv_vret (pc := 38) B hr d_Weaver_addLet_38 (Nat.le_refl _) (Nat.le_refl _) ⟨rfl, xrh_v hf r_g3⟩
set_option maxHeartbeats 4000000 in
set_option maxRecDepth 100000 in
theorem ch_Weaver_addLet_b (l : Launch) {dA : FieldType → ClassId} {D : va_G} {al : Nat → Nat} {ext : mv_Sh} {sk sv : Nat → Nat} (hi : mv_inj (mg dA D al ext)) (h : mv_H) (hb : xRP 48 (mv_r h))  (a0 : Int32) {rg : mv_H} (hf : f_Weaver_addLet 48 h a0 = some rg) : mv_C l y_Weaver_addLet (Cond.code y_Weaver_addLet b_Weaver_addLet 2 (Option.none : Option Jvm.ClassFile.FieldType) :: ma) ({ frames := 2, cells := 0, slots := 0, locals := 45 }) (mg dA D al ext) (mK sk sv) [.ref (al 2), .int a0] h (mv_Rv (fun σ1 => rg = σ1 ∧ mv_r σ1 = mv_r h)) := by
  refine mv_C.ofV (cc := b_Weaver_addLet) (nL := 2) (ret := (Option.none : Option Jvm.ClassFile.FieldType)) (by decide +kernel) rfl hi (Nat.le_of_ble_eq_true rfl) ?_
  intro p e s m below meth c B hNs hr hnm hno
  unfold f_Weaver_addLet at hf
  refine mv_aload_n (pc := 0) B d_Weaver_addLet_0 rfl 0 rfl ?_
  refine mv_getI (pc := 1) (ci := 1) (C := R_Weaver) (T := F_Weaver) (N := 16) B 9 rfl rfl (by decide) i_Weaver (B.2.2.2.1 _ k_239) rfl d_Weaver_addLet_1 ?_
  refine mv_if_lt (pc := 4) (tgt := 38) B d_Weaver_addLet_4 rfl (fun h4 => ?_) (fun h4 => ?_)
  · skip
    have hf := xif_t h4 hf
    exact mv_vret (pc := 38) B hr d_Weaver_addLet_38 (Nat.le_refl _) (Nat.le_refl _) ⟨rfl, xrh_v hf rfl⟩
  · skip
    have hf := xif_f h4 hf
    refine mv_aload_n (pc := 7) B d_Weaver_addLet_7 rfl 0 rfl ?_
    refine mv_getR (pc := 8) (ci := 1) (C := R_Weaver) (T := F_Weaver) (N := 16) B 5 rfl rfl (by decide) i_Weaver (B.2.2.2.1 _ k_235) rfl hb.1.2.2.1 d_Weaver_addLet_8 ?_
    refine mv_sipush (pc := 11) (v := 313) B d_Weaver_addLet_11 (by decide) ?_
    refine mv_aload_n (pc := 14) B d_Weaver_addLet_14 rfl 0 rfl ?_
    refine mv_getR (pc := 15) (ci := 1) (C := R_Weaver) (T := F_Weaver) (N := 16) B 1 rfl rfl (by decide) i_Weaver (B.2.2.2.1 _ k_229) rfl (hb.1.1 2 1 _ rfl) d_Weaver_addLet_15 ?_
    refine mv_getI (pc := 18) (ci := 4) (C := R_Names) (T := F_Names) (N := 10) B 9 rfl rfl (by decide) i_Names (B.2.2.2.1 _ k_149) rfl d_Weaver_addLet_18 ?_
    refine mv_i2l (pc := 21) B d_Weaver_addLet_21 ?_
    obtain ⟨v2, g1, eg1, hf⟩ := xhb_e hf
    refine mv_callVi (pc := 22) (n := 2) (ci := 7) (C := R_Program) B (mK_ok sk sv) hNs rfl rfl (ch_Program_emit_b l hi _ (hb) _ _ eg1) rfl (ma_goodc kc_Program_emit) (B.2.2.2.1 _ k_1384) (B.2.2.2.1 _ k_1385) (B.2.2.2.1 _ k_1386) (B.2.2.2.1 _ k_8) ⟨by decide +kernel, by decide +kernel, by decide +kernel⟩ rfl d_Weaver_addLet_22 rfl (Nat.le_of_ble_eq_true rfl) ⟨by decide, by decide⟩ ⟨by decide, by decide⟩ ⟨by decide, by decide⟩ (mv_noH hno _) (fun w22 σ22 h22 => ?_)
    obtain ⟨rfl, rfl, s_g1⟩ := h22
    have r_g1 : mv_r g1 = mv_r h := s_g1.trans rfl
    refine mv_pop (pc := 25) B d_Weaver_addLet_25 rfl ?_
    refine mv_aload_n (pc := 26) B d_Weaver_addLet_26 rfl 0 rfl ?_
    refine mv_getR (pc := 27) (ci := 1) (C := R_Weaver) (T := F_Weaver) (N := 16) B 1 rfl rfl (by decide) i_Weaver (B.2.2.2.1 _ k_229) rfl ((congrFun (congrFun r_g1 2) 1).trans (hb.1.1 2 1 _ rfl)) d_Weaver_addLet_27 ?_
    refine mv_aload_n (pc := 30) B d_Weaver_addLet_30 rfl 0 rfl ?_
    refine mv_getI (pc := 31) (ci := 1) (C := R_Weaver) (T := F_Weaver) (N := 16) B 9 rfl rfl (by decide) i_Weaver (B.2.2.2.1 _ k_239) rfl d_Weaver_addLet_31 ?_
    refine mv_iload_n (pc := 34) B d_Weaver_addLet_34 rfl 1 rfl ?_
    obtain ⟨g3, eg3, hf⟩ := xhv_e hf
    refine mv_callVv (pc := 35) (n := 2) (ci := 4) (C := R_Names) B (mK_ok sk sv) hNs rfl rfl (ch_Names_addLet l hi _ (xrw r_g1 hb.t) _ _ eg3) rfl (ma_goodc kc_Names_addLet) (B.2.2.2.1 _ k_1531) (B.2.2.2.1 _ k_1532) (B.2.2.2.1 _ k_1533) (B.2.2.2.1 _ k_5) ⟨by decide +kernel, by decide +kernel, by decide +kernel⟩ rfl d_Weaver_addLet_35 rfl (Nat.le_of_ble_eq_true rfl) ⟨by decide, by decide⟩ ⟨by decide, by decide⟩ ⟨by decide, by decide⟩ (mv_noH hno _) (fun σ35 h35 => ?_)
    obtain ⟨rfl, s_g3⟩ := h35
    have r_g3 : mv_r g3 = mv_r h := s_g3.trans r_g1
    exact mv_vret (pc := 38) B hr d_Weaver_addLet_38 (Nat.le_refl _) (Nat.le_refl _) ⟨rfl, xrh_v hf r_g3⟩
def f_Weaver_assign_63 (P : Nat) (y0 : Int32) (hz : mv_H) : Option mv_H := xhb (f_Program_emit P hz y0 (((mv_i hz 2 9)).toInt64)) fun v2 g1 => some g1
def f_Weaver_assign_42 (P : Nat) (hz : mv_H) : Option mv_H := if (mv_i hz 2 7) = (2 : Int32) then (f_Weaver_assign_63 P (314 : Int32) hz) else (f_Weaver_assign_63 P (315 : Int32) hz)
def f_Weaver_assign (P : Nat) (h : mv_H) (a0 : Int32) : Option mv_H := if (mv_i h 2 9) < (0 : Int32) then (some h) else (bif xvi (mv_i h 2 9) 64 then if a0 ≤ (0 : Int32) then (f_Weaver_assign_42 P  h) else (if (mv_a h (P + 1) ((mv_i h 2 9)).toNatClampNeg) ≤ (0 : Int32) then (f_Weaver_assign_42 P  h) else (if a0 = (mv_a h (P + 1) ((mv_i h 2 9)).toNatClampNeg) then (f_Weaver_assign_42 P  h) else (xhv (f_Weaver_tell h (mv_i h 2 8) (4 : Int32)) fun g4 => f_Weaver_assign_42 P  g4))) else none)
set_option maxHeartbeats 4000000 in
set_option maxRecDepth 100000 in
theorem ch_Weaver_assign_a (l : Launch) {dA : FieldType → ClassId} {D : va_G} {al : Nat → Nat} {ext : mv_Sh} {sk sv : Nat → Nat} (hi : mv_inj (mg dA D al ext)) (h : mv_H) (hb : xRP 32 (mv_r h))  (a0 : Int32) {rg : mv_H} (hf : f_Weaver_assign 32 h a0 = some rg) : mv_C l y_Weaver_assign (Cond.code y_Weaver_assign b_Weaver_assign 3 (Option.none : Option Jvm.ClassFile.FieldType) :: ma) ({ frames := 2, cells := 0, slots := 0, locals := 44 }) (mg dA D al ext) (mK sk sv) [.ref (al 2), .int a0] h (mv_Rv (fun σ1 => rg = σ1 ∧ mv_r σ1 = mv_r h)) := by
  refine mv_C.ofV (cc := b_Weaver_assign) (nL := 3) (ret := (Option.none : Option Jvm.ClassFile.FieldType)) (by decide +kernel) rfl hi (Nat.le_of_ble_eq_true rfl) ?_
  intro p e s m below meth c B hNs hr hnm hno
  have jn63 : ∀ (y0 : Int32) (hz : mv_H), mv_r hz = mv_r h → f_Weaver_assign_63 32 y0 hz = some rg → mv_V p l e ({ frames := 2, cells := 0, slots := 0, locals := 44 }) s m ([.ref (al 2), .int a0] : List Value).toArray below meth c (mg dA D al ext) 3 0 0 (mv_Q (mg dA D al ext) below s 0 0 (mv_Rv (fun σ1 => rg = σ1 ∧ mv_r σ1 = mv_r h))) hz 63 [(0, .ref (al 2))] [.int y0, .ref (al 32)] := by
    intro y0 hz r_hz hf
    unfold f_Weaver_assign_63 at hf
    refine mv_aload_n (pc := 63) B d_Weaver_assign_63 rfl 0 rfl ?_
    refine mv_getI (pc := 64) (ci := 1) (C := R_Weaver) (T := F_Weaver) (N := 16) B 9 rfl rfl (by decide) i_Weaver (B.2.2.2.1 _ k_239) rfl d_Weaver_assign_64 ?_
    refine mv_i2l (pc := 67) B d_Weaver_assign_67 ?_
    obtain ⟨v2, g1, eg1, hf⟩ := xhb_e hf
    refine mv_callVi (pc := 68) (n := 2) (ci := 7) (C := R_Program) B (mK_ok sk sv) hNs rfl rfl (ch_Program_emit_a l hi _ (xrw r_hz hb) _ _ eg1) rfl (ma_goodc kc_Program_emit) (B.2.2.2.1 _ k_1384) (B.2.2.2.1 _ k_1385) (B.2.2.2.1 _ k_1386) (B.2.2.2.1 _ k_8) ⟨by decide +kernel, by decide +kernel, by decide +kernel⟩ rfl d_Weaver_assign_68 rfl (Nat.le_of_ble_eq_true rfl) ⟨by decide, by decide⟩ ⟨by decide, by decide⟩ ⟨by decide, by decide⟩ (mv_noH hno _) (fun w68 σ68 h68 => ?_)
    obtain ⟨rfl, rfl, s_g1⟩ := h68
    have r_g1 : mv_r g1 = mv_r h := s_g1.trans r_hz
    refine mv_pop (pc := 71) B d_Weaver_assign_71 rfl ?_
    exact mv_vret (pc := 72) B hr d_Weaver_assign_72 (Nat.le_refl _) (Nat.le_refl _) ⟨rfl, xrh_v hf r_g1⟩
  have jn42 : ∀ (hz : mv_H), mv_r hz = mv_r h → f_Weaver_assign_42 32  hz = some rg → mv_V p l e ({ frames := 2, cells := 0, slots := 0, locals := 44 }) s m ([.ref (al 2), .int a0] : List Value).toArray below meth c (mg dA D al ext) 3 0 0 (mv_Q (mg dA D al ext) below s 0 0 (mv_Rv (fun σ1 => rg = σ1 ∧ mv_r σ1 = mv_r h))) hz 42 [(0, .ref (al 2))] [] := by
    intro  hz r_hz hf
    unfold f_Weaver_assign_42 at hf
    refine mv_aload_n (pc := 42) B d_Weaver_assign_42 rfl 0 rfl ?_
    refine mv_getR (pc := 43) (ci := 1) (C := R_Weaver) (T := F_Weaver) (N := 16) B 5 rfl rfl (by decide) i_Weaver (B.2.2.2.1 _ k_235) rfl ((congrFun (congrFun r_hz 2) 5).trans hb.1.2.2.1) d_Weaver_assign_43 ?_
    refine mv_aload_n (pc := 46) B d_Weaver_assign_46 rfl 0 rfl ?_
    refine mv_getI (pc := 47) (ci := 1) (C := R_Weaver) (T := F_Weaver) (N := 16) B 7 rfl rfl (by decide) i_Weaver (B.2.2.2.1 _ k_237) rfl d_Weaver_assign_47 ?_
    refine mv_iconst (pc := 50) (v := 2) B d_Weaver_assign_50 (by decide) ?_
    refine mv_icmp_ne (pc := 51) (tgt := 60) B d_Weaver_assign_51 rfl (fun h51 => ?_) (fun h51 => ?_)
    · skip
      have hf := xif_f h51 hf
      refine mv_sipush (pc := 60) (v := 315) B d_Weaver_assign_60 (by decide) ?_
      refine mv_lpick [0] rfl ?_
      exact jn63 _ _ r_hz hf
    · skip
      have hf := xif_t h51 hf
      refine mv_sipush (pc := 54) (v := 314) B d_Weaver_assign_54 (by decide) ?_
      refine mv_goto (pc := 57) (tgt := 63) B d_Weaver_assign_57 rfl ?_
      refine mv_lpick [0] rfl ?_
      exact jn63 _ _ r_hz hf
  unfold f_Weaver_assign at hf
  refine mv_aload_n (pc := 0) B d_Weaver_assign_0 rfl 0 rfl ?_
  refine mv_getI (pc := 1) (ci := 1) (C := R_Weaver) (T := F_Weaver) (N := 16) B 9 rfl rfl (by decide) i_Weaver (B.2.2.2.1 _ k_239) rfl d_Weaver_assign_1 ?_
  refine mv_if_lt (pc := 4) (tgt := 72) B d_Weaver_assign_4 rfl (fun h4 => ?_) (fun h4 => ?_)
  · skip
    have hf := xif_t h4 hf
    exact mv_vret (pc := 72) B hr d_Weaver_assign_72 (Nat.le_refl _) (Nat.le_refl _) ⟨rfl, xrh_v hf rfl⟩
  · skip
    have hf := xif_f h4 hf
    refine mv_aload_n (pc := 7) B d_Weaver_assign_7 rfl 0 rfl ?_
    refine mv_getR (pc := 8) (ci := 1) (C := R_Weaver) (T := F_Weaver) (N := 16) B 5 rfl rfl (by decide) i_Weaver (B.2.2.2.1 _ k_235) rfl hb.1.2.2.1 d_Weaver_assign_8 ?_
    refine mv_getR (pc := 11) (ci := 7) (C := R_Program) (T := F_Program) (N := 19) B 2 rfl rfl (by decide) i_Program (B.2.2.2.1 _ k_321) rfl (hb.1.2.1 32 2 33 rfl) d_Weaver_assign_11 ?_
    refine mv_aload_n (pc := 14) B d_Weaver_assign_14 rfl 0 rfl ?_
    refine mv_getI (pc := 15) (ci := 1) (C := R_Weaver) (T := F_Weaver) (N := 16) B 9 rfl rfl (by decide) i_Weaver (B.2.2.2.1 _ k_239) rfl d_Weaver_assign_15 ?_
    obtain ⟨q3, hf⟩ := xvi_e hf
    refine mv_iald (pc := 18) B rfl q3 d_Weaver_assign_18 ?_
    refine mv_istore_n (pc := 19) B d_Weaver_assign_19 rfl (by decide) rfl ?_
    refine mv_iload_n (pc := 20) B d_Weaver_assign_20 rfl 2 rfl ?_
    refine mv_if_le (pc := 21) (tgt := 42) B d_Weaver_assign_21 rfl (fun h21 => ?_) (fun h21 => ?_)
    · skip
      have hf := xif_t h21 hf
      refine mv_lpick [1] rfl ?_
      exact jn42  _ rfl hf
    · skip
      have hf := xif_f h21 hf
      refine mv_iload_n (pc := 24) B d_Weaver_assign_24 rfl 0 rfl ?_
      refine mv_if_le (pc := 25) (tgt := 42) B d_Weaver_assign_25 rfl (fun h25 => ?_) (fun h25 => ?_)
      · skip
        have hf := xif_t h25 hf
        refine mv_lpick [1] rfl ?_
        exact jn42  _ rfl hf
      · skip
        have hf := xif_f h25 hf
        refine mv_iload_n (pc := 28) B d_Weaver_assign_28 rfl 2 rfl ?_
        refine mv_iload_n (pc := 29) B d_Weaver_assign_29 rfl 0 rfl ?_
        refine mv_icmp_eq (pc := 30) (tgt := 42) B d_Weaver_assign_30 rfl (fun h30 => ?_) (fun h30 => ?_)
        · skip
          have hf := xif_t h30 hf
          refine mv_lpick [1] rfl ?_
          exact jn42  _ rfl hf
        · skip
          have hf := xif_f h30 hf
          refine mv_aload_n (pc := 33) B d_Weaver_assign_33 rfl 1 rfl ?_
          refine mv_aload_n (pc := 34) B d_Weaver_assign_34 rfl 1 rfl ?_
          refine mv_getI (pc := 35) (ci := 1) (C := R_Weaver) (T := F_Weaver) (N := 16) B 8 rfl rfl (by decide) i_Weaver (B.2.2.2.1 _ k_238) rfl d_Weaver_assign_35 ?_
          refine mv_iconst (pc := 38) (v := 4) B d_Weaver_assign_38 (by decide) ?_
          obtain ⟨g4, eg4, hf⟩ := xhv_e hf
          refine mv_callVv (pc := 39) (n := 2) (ci := 1) (C := R_Weaver) B (mK_ok sk sv) hNs rfl rfl (ch_Weaver_tell l hi _ (hb.t) _ _ eg4) rfl (ma_goodc kc_Weaver_tell) (B.2.2.2.1 _ k_1282) (B.2.2.2.1 _ k_1284) (B.2.2.2.1 _ ks_32) (B.2.2.2.1 _ k_2) ⟨by decide +kernel, by decide +kernel, by decide +kernel⟩ rfl d_Weaver_assign_39 rfl (Nat.le_of_ble_eq_true rfl) ⟨by decide, by decide⟩ ⟨by decide, by decide⟩ ⟨by decide, by decide⟩ (mv_noH hno _) (fun σ39 h39 => ?_)
          obtain ⟨rfl, s_g4⟩ := h39
          have r_g4 : mv_r g4 = mv_r h := s_g4.trans rfl
          refine mv_lpick [1] rfl ?_
          exact jn42  _ r_g4 hf
set_option maxHeartbeats 4000000 in
set_option maxRecDepth 100000 in
theorem ch_Weaver_assign_b (l : Launch) {dA : FieldType → ClassId} {D : va_G} {al : Nat → Nat} {ext : mv_Sh} {sk sv : Nat → Nat} (hi : mv_inj (mg dA D al ext)) (h : mv_H) (hb : xRP 48 (mv_r h))  (a0 : Int32) {rg : mv_H} (hf : f_Weaver_assign 48 h a0 = some rg) : mv_C l y_Weaver_assign (Cond.code y_Weaver_assign b_Weaver_assign 3 (Option.none : Option Jvm.ClassFile.FieldType) :: ma) ({ frames := 2, cells := 0, slots := 0, locals := 44 }) (mg dA D al ext) (mK sk sv) [.ref (al 2), .int a0] h (mv_Rv (fun σ1 => rg = σ1 ∧ mv_r σ1 = mv_r h)) := by
  refine mv_C.ofV (cc := b_Weaver_assign) (nL := 3) (ret := (Option.none : Option Jvm.ClassFile.FieldType)) (by decide +kernel) rfl hi (Nat.le_of_ble_eq_true rfl) ?_
  intro p e s m below meth c B hNs hr hnm hno
  have jn63 : ∀ (y0 : Int32) (hz : mv_H), mv_r hz = mv_r h → f_Weaver_assign_63 48 y0 hz = some rg → mv_V p l e ({ frames := 2, cells := 0, slots := 0, locals := 44 }) s m ([.ref (al 2), .int a0] : List Value).toArray below meth c (mg dA D al ext) 3 0 0 (mv_Q (mg dA D al ext) below s 0 0 (mv_Rv (fun σ1 => rg = σ1 ∧ mv_r σ1 = mv_r h))) hz 63 [(0, .ref (al 2))] [.int y0, .ref (al 48)] := by
    intro y0 hz r_hz hf
    unfold f_Weaver_assign_63 at hf
    refine mv_aload_n (pc := 63) B d_Weaver_assign_63 rfl 0 rfl ?_
    refine mv_getI (pc := 64) (ci := 1) (C := R_Weaver) (T := F_Weaver) (N := 16) B 9 rfl rfl (by decide) i_Weaver (B.2.2.2.1 _ k_239) rfl d_Weaver_assign_64 ?_
    refine mv_i2l (pc := 67) B d_Weaver_assign_67 ?_
    obtain ⟨v2, g1, eg1, hf⟩ := xhb_e hf
    refine mv_callVi (pc := 68) (n := 2) (ci := 7) (C := R_Program) B (mK_ok sk sv) hNs rfl rfl (ch_Program_emit_b l hi _ (xrw r_hz hb) _ _ eg1) rfl (ma_goodc kc_Program_emit) (B.2.2.2.1 _ k_1384) (B.2.2.2.1 _ k_1385) (B.2.2.2.1 _ k_1386) (B.2.2.2.1 _ k_8) ⟨by decide +kernel, by decide +kernel, by decide +kernel⟩ rfl d_Weaver_assign_68 rfl (Nat.le_of_ble_eq_true rfl) ⟨by decide, by decide⟩ ⟨by decide, by decide⟩ ⟨by decide, by decide⟩ (mv_noH hno _) (fun w68 σ68 h68 => ?_)
    obtain ⟨rfl, rfl, s_g1⟩ := h68
    have r_g1 : mv_r g1 = mv_r h := s_g1.trans r_hz
    refine mv_pop (pc := 71) B d_Weaver_assign_71 rfl ?_
    exact mv_vret (pc := 72) B hr d_Weaver_assign_72 (Nat.le_refl _) (Nat.le_refl _) ⟨rfl, xrh_v hf r_g1⟩
  have jn42 : ∀ (hz : mv_H), mv_r hz = mv_r h → f_Weaver_assign_42 48  hz = some rg → mv_V p l e ({ frames := 2, cells := 0, slots := 0, locals := 44 }) s m ([.ref (al 2), .int a0] : List Value).toArray below meth c (mg dA D al ext) 3 0 0 (mv_Q (mg dA D al ext) below s 0 0 (mv_Rv (fun σ1 => rg = σ1 ∧ mv_r σ1 = mv_r h))) hz 42 [(0, .ref (al 2))] [] := by
    intro  hz r_hz hf
    unfold f_Weaver_assign_42 at hf
    refine mv_aload_n (pc := 42) B d_Weaver_assign_42 rfl 0 rfl ?_
    refine mv_getR (pc := 43) (ci := 1) (C := R_Weaver) (T := F_Weaver) (N := 16) B 5 rfl rfl (by decide) i_Weaver (B.2.2.2.1 _ k_235) rfl ((congrFun (congrFun r_hz 2) 5).trans hb.1.2.2.1) d_Weaver_assign_43 ?_
    refine mv_aload_n (pc := 46) B d_Weaver_assign_46 rfl 0 rfl ?_
    refine mv_getI (pc := 47) (ci := 1) (C := R_Weaver) (T := F_Weaver) (N := 16) B 7 rfl rfl (by decide) i_Weaver (B.2.2.2.1 _ k_237) rfl d_Weaver_assign_47 ?_
    refine mv_iconst (pc := 50) (v := 2) B d_Weaver_assign_50 (by decide) ?_
    refine mv_icmp_ne (pc := 51) (tgt := 60) B d_Weaver_assign_51 rfl (fun h51 => ?_) (fun h51 => ?_)
    · skip
      have hf := xif_f h51 hf
      refine mv_sipush (pc := 60) (v := 315) B d_Weaver_assign_60 (by decide) ?_
      refine mv_lpick [0] rfl ?_
      exact jn63 _ _ r_hz hf
    · skip
      have hf := xif_t h51 hf
      refine mv_sipush (pc := 54) (v := 314) B d_Weaver_assign_54 (by decide) ?_
      refine mv_goto (pc := 57) (tgt := 63) B d_Weaver_assign_57 rfl ?_
      refine mv_lpick [0] rfl ?_
      exact jn63 _ _ r_hz hf
  unfold f_Weaver_assign at hf
  refine mv_aload_n (pc := 0) B d_Weaver_assign_0 rfl 0 rfl ?_
  refine mv_getI (pc := 1) (ci := 1) (C := R_Weaver) (T := F_Weaver) (N := 16) B 9 rfl rfl (by decide) i_Weaver (B.2.2.2.1 _ k_239) rfl d_Weaver_assign_1 ?_
  refine mv_if_lt (pc := 4) (tgt := 72) B d_Weaver_assign_4 rfl (fun h4 => ?_) (fun h4 => ?_)
  · skip
    have hf := xif_t h4 hf
    exact mv_vret (pc := 72) B hr d_Weaver_assign_72 (Nat.le_refl _) (Nat.le_refl _) ⟨rfl, xrh_v hf rfl⟩
  · skip
    have hf := xif_f h4 hf
    refine mv_aload_n (pc := 7) B d_Weaver_assign_7 rfl 0 rfl ?_
    refine mv_getR (pc := 8) (ci := 1) (C := R_Weaver) (T := F_Weaver) (N := 16) B 5 rfl rfl (by decide) i_Weaver (B.2.2.2.1 _ k_235) rfl hb.1.2.2.1 d_Weaver_assign_8 ?_
    refine mv_getR (pc := 11) (ci := 7) (C := R_Program) (T := F_Program) (N := 19) B 2 rfl rfl (by decide) i_Program (B.2.2.2.1 _ k_321) rfl (hb.1.2.1 48 2 49 rfl) d_Weaver_assign_11 ?_
    refine mv_aload_n (pc := 14) B d_Weaver_assign_14 rfl 0 rfl ?_
    refine mv_getI (pc := 15) (ci := 1) (C := R_Weaver) (T := F_Weaver) (N := 16) B 9 rfl rfl (by decide) i_Weaver (B.2.2.2.1 _ k_239) rfl d_Weaver_assign_15 ?_
    obtain ⟨q3, hf⟩ := xvi_e hf
    refine mv_iald (pc := 18) B rfl q3 d_Weaver_assign_18 ?_
    refine mv_istore_n (pc := 19) B d_Weaver_assign_19 rfl (by decide) rfl ?_
    refine mv_iload_n (pc := 20) B d_Weaver_assign_20 rfl 2 rfl ?_
    refine mv_if_le (pc := 21) (tgt := 42) B d_Weaver_assign_21 rfl (fun h21 => ?_) (fun h21 => ?_)
    · skip
      have hf := xif_t h21 hf
      refine mv_lpick [1] rfl ?_
      exact jn42  _ rfl hf
    · skip
      have hf := xif_f h21 hf
      refine mv_iload_n (pc := 24) B d_Weaver_assign_24 rfl 0 rfl ?_
      refine mv_if_le (pc := 25) (tgt := 42) B d_Weaver_assign_25 rfl (fun h25 => ?_) (fun h25 => ?_)
      · skip
        have hf := xif_t h25 hf
        refine mv_lpick [1] rfl ?_
        exact jn42  _ rfl hf
      · skip
        have hf := xif_f h25 hf
        refine mv_iload_n (pc := 28) B d_Weaver_assign_28 rfl 2 rfl ?_
        refine mv_iload_n (pc := 29) B d_Weaver_assign_29 rfl 0 rfl ?_
        refine mv_icmp_eq (pc := 30) (tgt := 42) B d_Weaver_assign_30 rfl (fun h30 => ?_) (fun h30 => ?_)
        · skip
          have hf := xif_t h30 hf
          refine mv_lpick [1] rfl ?_
          exact jn42  _ rfl hf
        · skip
          have hf := xif_f h30 hf
          refine mv_aload_n (pc := 33) B d_Weaver_assign_33 rfl 1 rfl ?_
          refine mv_aload_n (pc := 34) B d_Weaver_assign_34 rfl 1 rfl ?_
          refine mv_getI (pc := 35) (ci := 1) (C := R_Weaver) (T := F_Weaver) (N := 16) B 8 rfl rfl (by decide) i_Weaver (B.2.2.2.1 _ k_238) rfl d_Weaver_assign_35 ?_
          refine mv_iconst (pc := 38) (v := 4) B d_Weaver_assign_38 (by decide) ?_
          obtain ⟨g4, eg4, hf⟩ := xhv_e hf
          refine mv_callVv (pc := 39) (n := 2) (ci := 1) (C := R_Weaver) B (mK_ok sk sv) hNs rfl rfl (ch_Weaver_tell l hi _ (hb.t) _ _ eg4) rfl (ma_goodc kc_Weaver_tell) (B.2.2.2.1 _ k_1282) (B.2.2.2.1 _ k_1284) (B.2.2.2.1 _ ks_32) (B.2.2.2.1 _ k_2) ⟨by decide +kernel, by decide +kernel, by decide +kernel⟩ rfl d_Weaver_assign_39 rfl (Nat.le_of_ble_eq_true rfl) ⟨by decide, by decide⟩ ⟨by decide, by decide⟩ ⟨by decide, by decide⟩ (mv_noH hno _) (fun σ39 h39 => ?_)
          obtain ⟨rfl, s_g4⟩ := h39
          have r_g4 : mv_r g4 = mv_r h := s_g4.trans rfl
          refine mv_lpick [1] rfl ?_
          exact jn42  _ r_g4 hf
def f_Weaver_finish_115 (P : Nat) (hz : mv_H) : Option mv_H := xhb (f_Tokens_take hz (59 : Int32)) fun v2 g1 => some g1
def f_Weaver_finish_72 (P : Nat) (hz : mv_H) : Option mv_H := xhb (f_Program_emit P hz (312 : Int32) (0 : Int64)) fun v4 g3 => xhv (f_Weaver_openBlock g3 (209 : Int32) v4 (mv_i g3 2 10)) fun g5 => some g5
def f_Weaver_finish (P : Nat) (h : mv_H) : Option mv_H := xhb (f_Exprs_release h) fun v7 g6 => if (mv_i g6 2 7) = (1 : Int32) then (xhb (f_Tokens_close g6 (93 : Int32)) fun v13 g12 => xhb (f_Tokens_take g12 (61 : Int32)) fun v15 g14 => xk (mv_si g14 2 8 v15) fun g16 => xhv (f_Weaver_beginExpr g16 (3 : Int32)) fun g17 => some g17) else (xk (mv_si g6 2 6 (1 : Int32)) fun g8 => if (mv_i g8 2 7) = (4 : Int32) then (if v7 ≤ (1 : Int32) then (f_Weaver_finish_72 P  g8) else (xhv (f_Weaver_tell g8 (mv_i g8 2 8) (4 : Int32)) fun g11 => f_Weaver_finish_72 P  g11)) else (if (mv_i g8 2 7) = (0 : Int32) then (xhv (f_Weaver_addLet P g8 v7) fun g10 => f_Weaver_finish_115 P  g10) else (xhv (f_Weaver_assign P g8 v7) fun g9 => f_Weaver_finish_115 P  g9)))
set_option maxHeartbeats 4000000 in
set_option maxRecDepth 100000 in
theorem ch_Weaver_finish_a (l : Launch) {dA : FieldType → ClassId} {D : va_G} {al : Nat → Nat} {ext : mv_Sh} {sk sv : Nat → Nat} (hi : mv_inj (mg dA D al ext)) (h : mv_H) (hb : xRP 32 (mv_r h))  {rg : mv_H} (hf : f_Weaver_finish 32 h = some rg) : mv_C l y_Weaver_finish (Cond.code y_Weaver_finish b_Weaver_finish 2 (Option.none : Option Jvm.ClassFile.FieldType) :: ma) ({ frames := 4, cells := 0, slots := 0, locals := 86 }) (mg dA D al ext) (mK sk sv) [.ref (al 2)] h (mv_Rv (fun σ1 => rg = σ1 ∧ mv_r σ1 = mv_r h)) := by
  refine mv_C.ofV (cc := b_Weaver_finish) (nL := 2) (ret := (Option.none : Option Jvm.ClassFile.FieldType)) (by decide +kernel) rfl hi (Nat.le_of_ble_eq_true rfl) ?_
  intro p e s m below meth c B hNs hr hnm hno
  have jn115 : ∀ (hz : mv_H), mv_r hz = mv_r h → f_Weaver_finish_115 32  hz = some rg → mv_V p l e ({ frames := 4, cells := 0, slots := 0, locals := 86 }) s m ([.ref (al 2)] : List Value).toArray below meth c (mg dA D al ext) 2 0 0 (mv_Q (mg dA D al ext) below s 0 0 (mv_Rv (fun σ1 => rg = σ1 ∧ mv_r σ1 = mv_r h))) hz 115 [(0, .ref (al 2))] [] := by
    intro  hz r_hz hf
    unfold f_Weaver_finish_115 at hf
    refine mv_aload_n (pc := 115) B d_Weaver_finish_115 rfl 0 rfl ?_
    refine mv_getR (pc := 116) (ci := 1) (C := R_Weaver) (T := F_Weaver) (N := 16) B 0 rfl rfl (by decide) i_Weaver (B.2.2.2.1 _ k_228) rfl ((congrFun (congrFun r_hz 2) 0).trans (hb.1.1 2 0 _ rfl)) d_Weaver_finish_116 ?_
    refine mv_bipush (pc := 119) (v := 59) B d_Weaver_finish_119 (by decide) ?_
    obtain ⟨v2, g1, eg1, hf⟩ := xhb_e hf
    refine mv_callVi (pc := 121) (n := 1) (ci := 2) (C := R_Tokens) B (mK_ok sk sv) hNs rfl rfl (ch_Tokens_take l hi _ (xrw r_hz hb.t) _ eg1) rfl (ma_goodc kc_Tokens_take) (B.2.2.2.1 _ k_1266) (B.2.2.2.1 _ k_1267) (B.2.2.2.1 _ k_1268) (B.2.2.2.1 _ k_3) ⟨by decide +kernel, by decide +kernel, by decide +kernel⟩ rfl d_Weaver_finish_121 rfl (Nat.le_of_ble_eq_true rfl) ⟨by decide, by decide⟩ ⟨by decide, by decide⟩ ⟨by decide, by decide⟩ (mv_noH hno _) (fun w121 σ121 h121 => ?_)
    obtain ⟨rfl, rfl, s_g1⟩ := h121
    have r_g1 : mv_r g1 = mv_r h := s_g1.trans r_hz
    refine mv_pop (pc := 124) B d_Weaver_finish_124 rfl ?_
    exact mv_vret (pc := 125) B hr d_Weaver_finish_125 (Nat.le_refl _) (Nat.le_refl _) ⟨rfl, xrh_v hf r_g1⟩
  have jn72 : ∀ (hz : mv_H), mv_r hz = mv_r h → f_Weaver_finish_72 32  hz = some rg → mv_V p l e ({ frames := 4, cells := 0, slots := 0, locals := 86 }) s m ([.ref (al 2)] : List Value).toArray below meth c (mg dA D al ext) 2 0 0 (mv_Q (mg dA D al ext) below s 0 0 (mv_Rv (fun σ1 => rg = σ1 ∧ mv_r σ1 = mv_r h))) hz 72 [(0, .ref (al 2))] [] := by
    intro  hz r_hz hf
    unfold f_Weaver_finish_72 at hf
    refine mv_aload_n (pc := 72) B d_Weaver_finish_72 rfl 0 rfl ?_
    refine mv_sipush (pc := 73) (v := 209) B d_Weaver_finish_73 (by decide) ?_
    refine mv_aload_n (pc := 76) B d_Weaver_finish_76 rfl 0 rfl ?_
    refine mv_getR (pc := 77) (ci := 1) (C := R_Weaver) (T := F_Weaver) (N := 16) B 5 rfl rfl (by decide) i_Weaver (B.2.2.2.1 _ k_235) rfl ((congrFun (congrFun r_hz 2) 5).trans hb.1.2.2.1) d_Weaver_finish_77 ?_
    refine mv_sipush (pc := 80) (v := 312) B d_Weaver_finish_80 (by decide) ?_
    refine mv_lconst (pc := 83) (v := 0) B d_Weaver_finish_83 (by decide) ?_
    obtain ⟨v4, g3, eg3, hf⟩ := xhb_e hf
    refine mv_callVi (pc := 84) (n := 2) (ci := 7) (C := R_Program) B (mK_ok sk sv) hNs rfl rfl (ch_Program_emit_a l hi _ (xrw r_hz hb) _ _ eg3) rfl (ma_goodc kc_Program_emit) (B.2.2.2.1 _ k_1384) (B.2.2.2.1 _ k_1385) (B.2.2.2.1 _ k_1386) (B.2.2.2.1 _ k_8) ⟨by decide +kernel, by decide +kernel, by decide +kernel⟩ rfl d_Weaver_finish_84 rfl (Nat.le_of_ble_eq_true rfl) ⟨by decide, by decide⟩ ⟨by decide, by decide⟩ ⟨by decide, by decide⟩ (mv_noH hno _) (fun w84 σ84 h84 => ?_)
    obtain ⟨rfl, rfl, s_g3⟩ := h84
    have r_g3 : mv_r g3 = mv_r h := s_g3.trans r_hz
    refine mv_aload_n (pc := 87) B d_Weaver_finish_87 rfl 0 rfl ?_
    refine mv_getI (pc := 88) (ci := 1) (C := R_Weaver) (T := F_Weaver) (N := 16) B 10 rfl rfl (by decide) i_Weaver (B.2.2.2.1 _ k_240) rfl d_Weaver_finish_88 ?_
    obtain ⟨g5, eg5, hf⟩ := xhv_e hf
    refine mv_callVv (pc := 91) (n := 3) (ci := 1) (C := R_Weaver) B (mK_ok sk sv) hNs rfl rfl (ch_Weaver_openBlock l hi _ (xrw r_g3 hb.t) _ _ _ eg5) rfl (ma_goodc kc_Weaver_openBlock) (B.2.2.2.1 _ k_1345) (B.2.2.2.1 _ k_1347) (B.2.2.2.1 _ ks_41) (B.2.2.2.1 _ k_2) ⟨by decide +kernel, by decide +kernel, by decide +kernel⟩ rfl d_Weaver_finish_91 rfl (Nat.le_of_ble_eq_true rfl) ⟨by decide, by decide⟩ ⟨by decide, by decide⟩ ⟨by decide, by decide⟩ (mv_noH hno _) (fun σ91 h91 => ?_)
    obtain ⟨rfl, s_g5⟩ := h91
    have r_g5 : mv_r g5 = mv_r h := s_g5.trans r_g3
    exact mv_vret (pc := 94) B hr d_Weaver_finish_94 (Nat.le_refl _) (Nat.le_refl _) ⟨rfl, xrh_v hf r_g5⟩
  unfold f_Weaver_finish at hf
  refine mv_aload_n (pc := 0) B d_Weaver_finish_0 rfl 0 rfl ?_
  refine mv_getR (pc := 1) (ci := 1) (C := R_Weaver) (T := F_Weaver) (N := 16) B 3 rfl rfl (by decide) i_Weaver (B.2.2.2.1 _ k_232) rfl (hb.1.1 2 3 _ rfl) d_Weaver_finish_1 ?_
  obtain ⟨v7, g6, eg6, hf⟩ := xhb_e hf
  refine mv_callVi (pc := 4) (n := 0) (ci := 6) (C := R_Exprs) B (mK_ok sk sv) hNs rfl rfl (ch_Exprs_release l hi _ (hb.t) eg6) rfl (ma_goodc kc_Exprs_release) (B.2.2.2.1 _ k_1526) (B.2.2.2.1 _ k_1470) (B.2.2.2.1 _ k_1471) (B.2.2.2.1 _ k_7) ⟨by decide +kernel, by decide +kernel, by decide +kernel⟩ rfl d_Weaver_finish_4 rfl (Nat.le_of_ble_eq_true rfl) ⟨by decide, by decide⟩ ⟨by decide, by decide⟩ ⟨by decide, by decide⟩ (mv_noH hno _) (fun w4 σ4 h4 => ?_)
  obtain ⟨rfl, rfl, s_g6⟩ := h4
  have r_g6 : mv_r g6 = mv_r h := s_g6.trans rfl
  refine mv_istore_n (pc := 7) B d_Weaver_finish_7 rfl (by decide) rfl ?_
  refine mv_aload_n (pc := 8) B d_Weaver_finish_8 rfl 1 rfl ?_
  refine mv_getI (pc := 9) (ci := 1) (C := R_Weaver) (T := F_Weaver) (N := 16) B 7 rfl rfl (by decide) i_Weaver (B.2.2.2.1 _ k_237) rfl d_Weaver_finish_9 ?_
  refine mv_iconst (pc := 12) (v := 1) B d_Weaver_finish_12 (by decide) ?_
  refine mv_icmp_ne (pc := 13) (tgt := 45) B d_Weaver_finish_13 rfl (fun h13 => ?_) (fun h13 => ?_)
  · skip
    have hf := xif_f h13 hf
    refine mv_aload_n (pc := 45) B d_Weaver_finish_45 rfl 1 rfl ?_
    refine mv_iconst (pc := 46) (v := 1) B d_Weaver_finish_46 (by decide) ?_
    refine mv_putI (pc := 47) (ci := 1) (C := R_Weaver) (T := F_Weaver) (N := 16) B 6 rfl rfl (by decide) i_Weaver t_Weaver_ok n_Weaver (B.2.2.2.1 _ k_236) rfl rfl rfl rfl d_Weaver_finish_47 ?_
    refine mvh_hp (R9 := mv_r h) hf r_g6 (fun g8 hf r_g8 => ?_)
    refine mv_aload_n (pc := 50) B d_Weaver_finish_50 rfl 1 rfl ?_
    refine mv_getI (pc := 51) (ci := 1) (C := R_Weaver) (T := F_Weaver) (N := 16) B 7 rfl rfl (by decide) i_Weaver (B.2.2.2.1 _ k_237) rfl d_Weaver_finish_51 ?_
    refine mv_iconst (pc := 54) (v := 4) B d_Weaver_finish_54 (by decide) ?_
    refine mv_icmp_ne (pc := 55) (tgt := 95) B d_Weaver_finish_55 rfl (fun h55 => ?_) (fun h55 => ?_)
    · skip
      have hf := xif_f h55 hf
      refine mv_aload_n (pc := 95) B d_Weaver_finish_95 rfl 1 rfl ?_
      refine mv_getI (pc := 96) (ci := 1) (C := R_Weaver) (T := F_Weaver) (N := 16) B 7 rfl rfl (by decide) i_Weaver (B.2.2.2.1 _ k_237) rfl d_Weaver_finish_96 ?_
      refine mv_if_ne (pc := 99) (tgt := 110) B d_Weaver_finish_99 rfl (fun h99 => ?_) (fun h99 => ?_)
      · skip
        have hf := xif_f h99 hf
        refine mv_aload_n (pc := 110) B d_Weaver_finish_110 rfl 1 rfl ?_
        refine mv_iload_n (pc := 111) B d_Weaver_finish_111 rfl 0 rfl ?_
        obtain ⟨g9, eg9, hf⟩ := xhv_e hf
        refine mv_callVv (pc := 112) (n := 1) (ci := 1) (C := R_Weaver) B (mK_ok sk sv) hNs rfl rfl (ch_Weaver_assign_a l hi _ (xrw r_g8 hb) _ eg9) rfl (ma_goodc kc_Weaver_assign) (B.2.2.2.1 _ k_1536) (B.2.2.2.1 _ k_1538) (B.2.2.2.1 _ ks_67) (B.2.2.2.1 _ k_2) ⟨by decide +kernel, by decide +kernel, by decide +kernel⟩ rfl d_Weaver_finish_112 rfl (Nat.le_of_ble_eq_true rfl) ⟨by decide, by decide⟩ ⟨by decide, by decide⟩ ⟨by decide, by decide⟩ (mv_noH hno _) (fun σ112 h112 => ?_)
        obtain ⟨rfl, s_g9⟩ := h112
        have r_g9 : mv_r g9 = mv_r h := s_g9.trans r_g8
        refine mv_lpick [1] rfl ?_
        exact jn115  _ r_g9 hf
      · skip
        have hf := xif_t h99 hf
        refine mv_aload_n (pc := 102) B d_Weaver_finish_102 rfl 1 rfl ?_
        refine mv_iload_n (pc := 103) B d_Weaver_finish_103 rfl 0 rfl ?_
        obtain ⟨g10, eg10, hf⟩ := xhv_e hf
        refine mv_callVv (pc := 104) (n := 1) (ci := 1) (C := R_Weaver) B (mK_ok sk sv) hNs rfl rfl (ch_Weaver_addLet_a l hi _ (xrw r_g8 hb) _ eg10) rfl (ma_goodc kc_Weaver_addLet) (B.2.2.2.1 _ k_1527) (B.2.2.2.1 _ k_1529) (B.2.2.2.1 _ ks_66) (B.2.2.2.1 _ k_2) ⟨by decide +kernel, by decide +kernel, by decide +kernel⟩ rfl d_Weaver_finish_104 rfl (Nat.le_of_ble_eq_true rfl) ⟨by decide, by decide⟩ ⟨by decide, by decide⟩ ⟨by decide, by decide⟩ (mv_noH hno _) (fun σ104 h104 => ?_)
        obtain ⟨rfl, s_g10⟩ := h104
        have r_g10 : mv_r g10 = mv_r h := s_g10.trans r_g8
        refine mv_goto (pc := 107) (tgt := 115) B d_Weaver_finish_107 rfl ?_
        refine mv_lpick [1] rfl ?_
        exact jn115  _ r_g10 hf
    · skip
      have hf := xif_t h55 hf
      refine mv_iload_n (pc := 58) B d_Weaver_finish_58 rfl 0 rfl ?_
      refine mv_iconst (pc := 59) (v := 1) B d_Weaver_finish_59 (by decide) ?_
      refine mv_icmp_le (pc := 60) (tgt := 72) B d_Weaver_finish_60 rfl (fun h60 => ?_) (fun h60 => ?_)
      · skip
        have hf := xif_t h60 hf
        refine mv_lpick [1] rfl ?_
        exact jn72  _ r_g8 hf
      · skip
        have hf := xif_f h60 hf
        refine mv_aload_n (pc := 63) B d_Weaver_finish_63 rfl 1 rfl ?_
        refine mv_aload_n (pc := 64) B d_Weaver_finish_64 rfl 1 rfl ?_
        refine mv_getI (pc := 65) (ci := 1) (C := R_Weaver) (T := F_Weaver) (N := 16) B 8 rfl rfl (by decide) i_Weaver (B.2.2.2.1 _ k_238) rfl d_Weaver_finish_65 ?_
        refine mv_iconst (pc := 68) (v := 4) B d_Weaver_finish_68 (by decide) ?_
        obtain ⟨g11, eg11, hf⟩ := xhv_e hf
        refine mv_callVv (pc := 69) (n := 2) (ci := 1) (C := R_Weaver) B (mK_ok sk sv) hNs rfl rfl (ch_Weaver_tell l hi _ (xrw r_g8 hb.t) _ _ eg11) rfl (ma_goodc kc_Weaver_tell) (B.2.2.2.1 _ k_1282) (B.2.2.2.1 _ k_1284) (B.2.2.2.1 _ ks_32) (B.2.2.2.1 _ k_2) ⟨by decide +kernel, by decide +kernel, by decide +kernel⟩ rfl d_Weaver_finish_69 rfl (Nat.le_of_ble_eq_true rfl) ⟨by decide, by decide⟩ ⟨by decide, by decide⟩ ⟨by decide, by decide⟩ (mv_noH hno _) (fun σ69 h69 => ?_)
        obtain ⟨rfl, s_g11⟩ := h69
        have r_g11 : mv_r g11 = mv_r h := s_g11.trans r_g8
        refine mv_lpick [1] rfl ?_
        exact jn72  _ r_g11 hf
  · skip
    have hf := xif_t h13 hf
    refine mv_aload_n (pc := 16) B d_Weaver_finish_16 rfl 1 rfl ?_
    refine mv_getR (pc := 17) (ci := 1) (C := R_Weaver) (T := F_Weaver) (N := 16) B 0 rfl rfl (by decide) i_Weaver (B.2.2.2.1 _ k_228) rfl ((congrFun (congrFun r_g6 2) 0).trans (hb.1.1 2 0 _ rfl)) d_Weaver_finish_17 ?_
    refine mv_bipush (pc := 20) (v := 93) B d_Weaver_finish_20 (by decide) ?_
    obtain ⟨v13, g12, eg12, hf⟩ := xhb_e hf
    refine mv_callVi (pc := 22) (n := 1) (ci := 2) (C := R_Tokens) B (mK_ok sk sv) hNs rfl rfl (ch_Tokens_close l hi _ (xrw r_g6 hb.t) _ eg12) rfl (ma_goodc kc_Tokens_close) (B.2.2.2.1 _ k_1396) (B.2.2.2.1 _ k_1397) (B.2.2.2.1 _ k_1398) (B.2.2.2.1 _ k_3) ⟨by decide +kernel, by decide +kernel, by decide +kernel⟩ rfl d_Weaver_finish_22 rfl (Nat.le_of_ble_eq_true rfl) ⟨by decide, by decide⟩ ⟨by decide, by decide⟩ ⟨by decide, by decide⟩ (mv_noH hno _) (fun w22 σ22 h22 => ?_)
    obtain ⟨rfl, rfl, s_g12⟩ := h22
    have r_g12 : mv_r g12 = mv_r h := s_g12.trans r_g6
    refine mv_pop (pc := 25) B d_Weaver_finish_25 rfl ?_
    refine mv_aload_n (pc := 26) B d_Weaver_finish_26 rfl 1 rfl ?_
    refine mv_aload_n (pc := 27) B d_Weaver_finish_27 rfl 1 rfl ?_
    refine mv_getR (pc := 28) (ci := 1) (C := R_Weaver) (T := F_Weaver) (N := 16) B 0 rfl rfl (by decide) i_Weaver (B.2.2.2.1 _ k_228) rfl ((congrFun (congrFun r_g12 2) 0).trans (hb.1.1 2 0 _ rfl)) d_Weaver_finish_28 ?_
    refine mv_bipush (pc := 31) (v := 61) B d_Weaver_finish_31 (by decide) ?_
    obtain ⟨v15, g14, eg14, hf⟩ := xhb_e hf
    refine mv_callVi (pc := 33) (n := 1) (ci := 2) (C := R_Tokens) B (mK_ok sk sv) hNs rfl rfl (ch_Tokens_take l hi _ (xrw r_g12 hb.t) _ eg14) rfl (ma_goodc kc_Tokens_take) (B.2.2.2.1 _ k_1266) (B.2.2.2.1 _ k_1267) (B.2.2.2.1 _ k_1268) (B.2.2.2.1 _ k_3) ⟨by decide +kernel, by decide +kernel, by decide +kernel⟩ rfl d_Weaver_finish_33 rfl (Nat.le_of_ble_eq_true rfl) ⟨by decide, by decide⟩ ⟨by decide, by decide⟩ ⟨by decide, by decide⟩ (mv_noH hno _) (fun w33 σ33 h33 => ?_)
    obtain ⟨rfl, rfl, s_g14⟩ := h33
    have r_g14 : mv_r g14 = mv_r h := s_g14.trans r_g12
    refine mv_putI (pc := 36) (ci := 1) (C := R_Weaver) (T := F_Weaver) (N := 16) B 8 rfl rfl (by decide) i_Weaver t_Weaver_ok n_Weaver (B.2.2.2.1 _ k_238) rfl rfl rfl rfl d_Weaver_finish_36 ?_
    refine mvh_hp (R9 := mv_r h) hf r_g14 (fun g16 hf r_g16 => ?_)
    refine mv_aload_n (pc := 39) B d_Weaver_finish_39 rfl 1 rfl ?_
    refine mv_iconst (pc := 40) (v := 3) B d_Weaver_finish_40 (by decide) ?_
    obtain ⟨g17, eg17, hf⟩ := xhv_e hf
    refine mv_callVv (pc := 41) (n := 1) (ci := 1) (C := R_Weaver) B (mK_ok sk sv) hNs rfl rfl (ch_Weaver_beginExpr l hi _ (xrw r_g16 hb.t) _ eg17) rfl (ma_goodc kc_Weaver_beginExpr) (B.2.2.2.1 _ k_1371) (B.2.2.2.1 _ k_1373) (B.2.2.2.1 _ ks_44) (B.2.2.2.1 _ k_2) ⟨by decide +kernel, by decide +kernel, by decide +kernel⟩ rfl d_Weaver_finish_41 rfl (Nat.le_of_ble_eq_true rfl) ⟨by decide, by decide⟩ ⟨by decide, by decide⟩ ⟨by decide, by decide⟩ (mv_noH hno _) (fun σ41 h41 => ?_)
    obtain ⟨rfl, s_g17⟩ := h41
    have r_g17 : mv_r g17 = mv_r h := s_g17.trans r_g16
    exact mv_vret (pc := 44) B hr d_Weaver_finish_44 (Nat.le_refl _) (Nat.le_refl _) ⟨rfl, xrh_v hf r_g17⟩
set_option maxHeartbeats 4000000 in
set_option maxRecDepth 100000 in
theorem ch_Weaver_finish_b (l : Launch) {dA : FieldType → ClassId} {D : va_G} {al : Nat → Nat} {ext : mv_Sh} {sk sv : Nat → Nat} (hi : mv_inj (mg dA D al ext)) (h : mv_H) (hb : xRP 48 (mv_r h))  {rg : mv_H} (hf : f_Weaver_finish 48 h = some rg) : mv_C l y_Weaver_finish (Cond.code y_Weaver_finish b_Weaver_finish 2 (Option.none : Option Jvm.ClassFile.FieldType) :: ma) ({ frames := 4, cells := 0, slots := 0, locals := 86 }) (mg dA D al ext) (mK sk sv) [.ref (al 2)] h (mv_Rv (fun σ1 => rg = σ1 ∧ mv_r σ1 = mv_r h)) := by
  refine mv_C.ofV (cc := b_Weaver_finish) (nL := 2) (ret := (Option.none : Option Jvm.ClassFile.FieldType)) (by decide +kernel) rfl hi (Nat.le_of_ble_eq_true rfl) ?_
  intro p e s m below meth c B hNs hr hnm hno
  have jn115 : ∀ (hz : mv_H), mv_r hz = mv_r h → f_Weaver_finish_115 48  hz = some rg → mv_V p l e ({ frames := 4, cells := 0, slots := 0, locals := 86 }) s m ([.ref (al 2)] : List Value).toArray below meth c (mg dA D al ext) 2 0 0 (mv_Q (mg dA D al ext) below s 0 0 (mv_Rv (fun σ1 => rg = σ1 ∧ mv_r σ1 = mv_r h))) hz 115 [(0, .ref (al 2))] [] := by
    intro  hz r_hz hf
    unfold f_Weaver_finish_115 at hf
    refine mv_aload_n (pc := 115) B d_Weaver_finish_115 rfl 0 rfl ?_
    refine mv_getR (pc := 116) (ci := 1) (C := R_Weaver) (T := F_Weaver) (N := 16) B 0 rfl rfl (by decide) i_Weaver (B.2.2.2.1 _ k_228) rfl ((congrFun (congrFun r_hz 2) 0).trans (hb.1.1 2 0 _ rfl)) d_Weaver_finish_116 ?_
    refine mv_bipush (pc := 119) (v := 59) B d_Weaver_finish_119 (by decide) ?_
    obtain ⟨v2, g1, eg1, hf⟩ := xhb_e hf
    refine mv_callVi (pc := 121) (n := 1) (ci := 2) (C := R_Tokens) B (mK_ok sk sv) hNs rfl rfl (ch_Tokens_take l hi _ (xrw r_hz hb.t) _ eg1) rfl (ma_goodc kc_Tokens_take) (B.2.2.2.1 _ k_1266) (B.2.2.2.1 _ k_1267) (B.2.2.2.1 _ k_1268) (B.2.2.2.1 _ k_3) ⟨by decide +kernel, by decide +kernel, by decide +kernel⟩ rfl d_Weaver_finish_121 rfl (Nat.le_of_ble_eq_true rfl) ⟨by decide, by decide⟩ ⟨by decide, by decide⟩ ⟨by decide, by decide⟩ (mv_noH hno _) (fun w121 σ121 h121 => ?_)
    obtain ⟨rfl, rfl, s_g1⟩ := h121
    have r_g1 : mv_r g1 = mv_r h := s_g1.trans r_hz
    refine mv_pop (pc := 124) B d_Weaver_finish_124 rfl ?_
    exact mv_vret (pc := 125) B hr d_Weaver_finish_125 (Nat.le_refl _) (Nat.le_refl _) ⟨rfl, xrh_v hf r_g1⟩
  have jn72 : ∀ (hz : mv_H), mv_r hz = mv_r h → f_Weaver_finish_72 48  hz = some rg → mv_V p l e ({ frames := 4, cells := 0, slots := 0, locals := 86 }) s m ([.ref (al 2)] : List Value).toArray below meth c (mg dA D al ext) 2 0 0 (mv_Q (mg dA D al ext) below s 0 0 (mv_Rv (fun σ1 => rg = σ1 ∧ mv_r σ1 = mv_r h))) hz 72 [(0, .ref (al 2))] [] := by
    intro  hz r_hz hf
    unfold f_Weaver_finish_72 at hf
    refine mv_aload_n (pc := 72) B d_Weaver_finish_72 rfl 0 rfl ?_
    refine mv_sipush (pc := 73) (v := 209) B d_Weaver_finish_73 (by decide) ?_
    refine mv_aload_n (pc := 76) B d_Weaver_finish_76 rfl 0 rfl ?_
    refine mv_getR (pc := 77) (ci := 1) (C := R_Weaver) (T := F_Weaver) (N := 16) B 5 rfl rfl (by decide) i_Weaver (B.2.2.2.1 _ k_235) rfl ((congrFun (congrFun r_hz 2) 5).trans hb.1.2.2.1) d_Weaver_finish_77 ?_
    refine mv_sipush (pc := 80) (v := 312) B d_Weaver_finish_80 (by decide) ?_
    refine mv_lconst (pc := 83) (v := 0) B d_Weaver_finish_83 (by decide) ?_
    obtain ⟨v4, g3, eg3, hf⟩ := xhb_e hf
    refine mv_callVi (pc := 84) (n := 2) (ci := 7) (C := R_Program) B (mK_ok sk sv) hNs rfl rfl (ch_Program_emit_b l hi _ (xrw r_hz hb) _ _ eg3) rfl (ma_goodc kc_Program_emit) (B.2.2.2.1 _ k_1384) (B.2.2.2.1 _ k_1385) (B.2.2.2.1 _ k_1386) (B.2.2.2.1 _ k_8) ⟨by decide +kernel, by decide +kernel, by decide +kernel⟩ rfl d_Weaver_finish_84 rfl (Nat.le_of_ble_eq_true rfl) ⟨by decide, by decide⟩ ⟨by decide, by decide⟩ ⟨by decide, by decide⟩ (mv_noH hno _) (fun w84 σ84 h84 => ?_)
    obtain ⟨rfl, rfl, s_g3⟩ := h84
    have r_g3 : mv_r g3 = mv_r h := s_g3.trans r_hz
    refine mv_aload_n (pc := 87) B d_Weaver_finish_87 rfl 0 rfl ?_
    refine mv_getI (pc := 88) (ci := 1) (C := R_Weaver) (T := F_Weaver) (N := 16) B 10 rfl rfl (by decide) i_Weaver (B.2.2.2.1 _ k_240) rfl d_Weaver_finish_88 ?_
    obtain ⟨g5, eg5, hf⟩ := xhv_e hf
    refine mv_callVv (pc := 91) (n := 3) (ci := 1) (C := R_Weaver) B (mK_ok sk sv) hNs rfl rfl (ch_Weaver_openBlock l hi _ (xrw r_g3 hb.t) _ _ _ eg5) rfl (ma_goodc kc_Weaver_openBlock) (B.2.2.2.1 _ k_1345) (B.2.2.2.1 _ k_1347) (B.2.2.2.1 _ ks_41) (B.2.2.2.1 _ k_2) ⟨by decide +kernel, by decide +kernel, by decide +kernel⟩ rfl d_Weaver_finish_91 rfl (Nat.le_of_ble_eq_true rfl) ⟨by decide, by decide⟩ ⟨by decide, by decide⟩ ⟨by decide, by decide⟩ (mv_noH hno _) (fun σ91 h91 => ?_)
    obtain ⟨rfl, s_g5⟩ := h91
    have r_g5 : mv_r g5 = mv_r h := s_g5.trans r_g3
    exact mv_vret (pc := 94) B hr d_Weaver_finish_94 (Nat.le_refl _) (Nat.le_refl _) ⟨rfl, xrh_v hf r_g5⟩
  unfold f_Weaver_finish at hf
  refine mv_aload_n (pc := 0) B d_Weaver_finish_0 rfl 0 rfl ?_
  refine mv_getR (pc := 1) (ci := 1) (C := R_Weaver) (T := F_Weaver) (N := 16) B 3 rfl rfl (by decide) i_Weaver (B.2.2.2.1 _ k_232) rfl (hb.1.1 2 3 _ rfl) d_Weaver_finish_1 ?_
  obtain ⟨v7, g6, eg6, hf⟩ := xhb_e hf
  refine mv_callVi (pc := 4) (n := 0) (ci := 6) (C := R_Exprs) B (mK_ok sk sv) hNs rfl rfl (ch_Exprs_release l hi _ (hb.t) eg6) rfl (ma_goodc kc_Exprs_release) (B.2.2.2.1 _ k_1526) (B.2.2.2.1 _ k_1470) (B.2.2.2.1 _ k_1471) (B.2.2.2.1 _ k_7) ⟨by decide +kernel, by decide +kernel, by decide +kernel⟩ rfl d_Weaver_finish_4 rfl (Nat.le_of_ble_eq_true rfl) ⟨by decide, by decide⟩ ⟨by decide, by decide⟩ ⟨by decide, by decide⟩ (mv_noH hno _) (fun w4 σ4 h4 => ?_)
  obtain ⟨rfl, rfl, s_g6⟩ := h4
  have r_g6 : mv_r g6 = mv_r h := s_g6.trans rfl
  refine mv_istore_n (pc := 7) B d_Weaver_finish_7 rfl (by decide) rfl ?_
  refine mv_aload_n (pc := 8) B d_Weaver_finish_8 rfl 1 rfl ?_
  refine mv_getI (pc := 9) (ci := 1) (C := R_Weaver) (T := F_Weaver) (N := 16) B 7 rfl rfl (by decide) i_Weaver (B.2.2.2.1 _ k_237) rfl d_Weaver_finish_9 ?_
  refine mv_iconst (pc := 12) (v := 1) B d_Weaver_finish_12 (by decide) ?_
  refine mv_icmp_ne (pc := 13) (tgt := 45) B d_Weaver_finish_13 rfl (fun h13 => ?_) (fun h13 => ?_)
  · skip
    have hf := xif_f h13 hf
    refine mv_aload_n (pc := 45) B d_Weaver_finish_45 rfl 1 rfl ?_
    refine mv_iconst (pc := 46) (v := 1) B d_Weaver_finish_46 (by decide) ?_
    refine mv_putI (pc := 47) (ci := 1) (C := R_Weaver) (T := F_Weaver) (N := 16) B 6 rfl rfl (by decide) i_Weaver t_Weaver_ok n_Weaver (B.2.2.2.1 _ k_236) rfl rfl rfl rfl d_Weaver_finish_47 ?_
    refine mvh_hp (R9 := mv_r h) hf r_g6 (fun g8 hf r_g8 => ?_)
    refine mv_aload_n (pc := 50) B d_Weaver_finish_50 rfl 1 rfl ?_
    refine mv_getI (pc := 51) (ci := 1) (C := R_Weaver) (T := F_Weaver) (N := 16) B 7 rfl rfl (by decide) i_Weaver (B.2.2.2.1 _ k_237) rfl d_Weaver_finish_51 ?_
    refine mv_iconst (pc := 54) (v := 4) B d_Weaver_finish_54 (by decide) ?_
    refine mv_icmp_ne (pc := 55) (tgt := 95) B d_Weaver_finish_55 rfl (fun h55 => ?_) (fun h55 => ?_)
    · skip
      have hf := xif_f h55 hf
      refine mv_aload_n (pc := 95) B d_Weaver_finish_95 rfl 1 rfl ?_
      refine mv_getI (pc := 96) (ci := 1) (C := R_Weaver) (T := F_Weaver) (N := 16) B 7 rfl rfl (by decide) i_Weaver (B.2.2.2.1 _ k_237) rfl d_Weaver_finish_96 ?_
      refine mv_if_ne (pc := 99) (tgt := 110) B d_Weaver_finish_99 rfl (fun h99 => ?_) (fun h99 => ?_)
      · skip
        have hf := xif_f h99 hf
        refine mv_aload_n (pc := 110) B d_Weaver_finish_110 rfl 1 rfl ?_
        refine mv_iload_n (pc := 111) B d_Weaver_finish_111 rfl 0 rfl ?_
        obtain ⟨g9, eg9, hf⟩ := xhv_e hf
        refine mv_callVv (pc := 112) (n := 1) (ci := 1) (C := R_Weaver) B (mK_ok sk sv) hNs rfl rfl (ch_Weaver_assign_b l hi _ (xrw r_g8 hb) _ eg9) rfl (ma_goodc kc_Weaver_assign) (B.2.2.2.1 _ k_1536) (B.2.2.2.1 _ k_1538) (B.2.2.2.1 _ ks_67) (B.2.2.2.1 _ k_2) ⟨by decide +kernel, by decide +kernel, by decide +kernel⟩ rfl d_Weaver_finish_112 rfl (Nat.le_of_ble_eq_true rfl) ⟨by decide, by decide⟩ ⟨by decide, by decide⟩ ⟨by decide, by decide⟩ (mv_noH hno _) (fun σ112 h112 => ?_)
        obtain ⟨rfl, s_g9⟩ := h112
        have r_g9 : mv_r g9 = mv_r h := s_g9.trans r_g8
        refine mv_lpick [1] rfl ?_
        exact jn115  _ r_g9 hf
      · skip
        have hf := xif_t h99 hf
        refine mv_aload_n (pc := 102) B d_Weaver_finish_102 rfl 1 rfl ?_
        refine mv_iload_n (pc := 103) B d_Weaver_finish_103 rfl 0 rfl ?_
        obtain ⟨g10, eg10, hf⟩ := xhv_e hf
        refine mv_callVv (pc := 104) (n := 1) (ci := 1) (C := R_Weaver) B (mK_ok sk sv) hNs rfl rfl (ch_Weaver_addLet_b l hi _ (xrw r_g8 hb) _ eg10) rfl (ma_goodc kc_Weaver_addLet) (B.2.2.2.1 _ k_1527) (B.2.2.2.1 _ k_1529) (B.2.2.2.1 _ ks_66) (B.2.2.2.1 _ k_2) ⟨by decide +kernel, by decide +kernel, by decide +kernel⟩ rfl d_Weaver_finish_104 rfl (Nat.le_of_ble_eq_true rfl) ⟨by decide, by decide⟩ ⟨by decide, by decide⟩ ⟨by decide, by decide⟩ (mv_noH hno _) (fun σ104 h104 => ?_)
        obtain ⟨rfl, s_g10⟩ := h104
        have r_g10 : mv_r g10 = mv_r h := s_g10.trans r_g8
        refine mv_goto (pc := 107) (tgt := 115) B d_Weaver_finish_107 rfl ?_
        refine mv_lpick [1] rfl ?_
        exact jn115  _ r_g10 hf
    · skip
      have hf := xif_t h55 hf
      refine mv_iload_n (pc := 58) B d_Weaver_finish_58 rfl 0 rfl ?_
      refine mv_iconst (pc := 59) (v := 1) B d_Weaver_finish_59 (by decide) ?_
      refine mv_icmp_le (pc := 60) (tgt := 72) B d_Weaver_finish_60 rfl (fun h60 => ?_) (fun h60 => ?_)
      · skip
        have hf := xif_t h60 hf
        refine mv_lpick [1] rfl ?_
        exact jn72  _ r_g8 hf
      · skip
        have hf := xif_f h60 hf
        refine mv_aload_n (pc := 63) B d_Weaver_finish_63 rfl 1 rfl ?_
        refine mv_aload_n (pc := 64) B d_Weaver_finish_64 rfl 1 rfl ?_
        refine mv_getI (pc := 65) (ci := 1) (C := R_Weaver) (T := F_Weaver) (N := 16) B 8 rfl rfl (by decide) i_Weaver (B.2.2.2.1 _ k_238) rfl d_Weaver_finish_65 ?_
        refine mv_iconst (pc := 68) (v := 4) B d_Weaver_finish_68 (by decide) ?_
        obtain ⟨g11, eg11, hf⟩ := xhv_e hf
        refine mv_callVv (pc := 69) (n := 2) (ci := 1) (C := R_Weaver) B (mK_ok sk sv) hNs rfl rfl (ch_Weaver_tell l hi _ (xrw r_g8 hb.t) _ _ eg11) rfl (ma_goodc kc_Weaver_tell) (B.2.2.2.1 _ k_1282) (B.2.2.2.1 _ k_1284) (B.2.2.2.1 _ ks_32) (B.2.2.2.1 _ k_2) ⟨by decide +kernel, by decide +kernel, by decide +kernel⟩ rfl d_Weaver_finish_69 rfl (Nat.le_of_ble_eq_true rfl) ⟨by decide, by decide⟩ ⟨by decide, by decide⟩ ⟨by decide, by decide⟩ (mv_noH hno _) (fun σ69 h69 => ?_)
        obtain ⟨rfl, s_g11⟩ := h69
        have r_g11 : mv_r g11 = mv_r h := s_g11.trans r_g8
        refine mv_lpick [1] rfl ?_
        exact jn72  _ r_g11 hf
  · skip
    have hf := xif_t h13 hf
    refine mv_aload_n (pc := 16) B d_Weaver_finish_16 rfl 1 rfl ?_
    refine mv_getR (pc := 17) (ci := 1) (C := R_Weaver) (T := F_Weaver) (N := 16) B 0 rfl rfl (by decide) i_Weaver (B.2.2.2.1 _ k_228) rfl ((congrFun (congrFun r_g6 2) 0).trans (hb.1.1 2 0 _ rfl)) d_Weaver_finish_17 ?_
    refine mv_bipush (pc := 20) (v := 93) B d_Weaver_finish_20 (by decide) ?_
    obtain ⟨v13, g12, eg12, hf⟩ := xhb_e hf
    refine mv_callVi (pc := 22) (n := 1) (ci := 2) (C := R_Tokens) B (mK_ok sk sv) hNs rfl rfl (ch_Tokens_close l hi _ (xrw r_g6 hb.t) _ eg12) rfl (ma_goodc kc_Tokens_close) (B.2.2.2.1 _ k_1396) (B.2.2.2.1 _ k_1397) (B.2.2.2.1 _ k_1398) (B.2.2.2.1 _ k_3) ⟨by decide +kernel, by decide +kernel, by decide +kernel⟩ rfl d_Weaver_finish_22 rfl (Nat.le_of_ble_eq_true rfl) ⟨by decide, by decide⟩ ⟨by decide, by decide⟩ ⟨by decide, by decide⟩ (mv_noH hno _) (fun w22 σ22 h22 => ?_)
    obtain ⟨rfl, rfl, s_g12⟩ := h22
    have r_g12 : mv_r g12 = mv_r h := s_g12.trans r_g6
    refine mv_pop (pc := 25) B d_Weaver_finish_25 rfl ?_
    refine mv_aload_n (pc := 26) B d_Weaver_finish_26 rfl 1 rfl ?_
    refine mv_aload_n (pc := 27) B d_Weaver_finish_27 rfl 1 rfl ?_
    refine mv_getR (pc := 28) (ci := 1) (C := R_Weaver) (T := F_Weaver) (N := 16) B 0 rfl rfl (by decide) i_Weaver (B.2.2.2.1 _ k_228) rfl ((congrFun (congrFun r_g12 2) 0).trans (hb.1.1 2 0 _ rfl)) d_Weaver_finish_28 ?_
    refine mv_bipush (pc := 31) (v := 61) B d_Weaver_finish_31 (by decide) ?_
    obtain ⟨v15, g14, eg14, hf⟩ := xhb_e hf
    refine mv_callVi (pc := 33) (n := 1) (ci := 2) (C := R_Tokens) B (mK_ok sk sv) hNs rfl rfl (ch_Tokens_take l hi _ (xrw r_g12 hb.t) _ eg14) rfl (ma_goodc kc_Tokens_take) (B.2.2.2.1 _ k_1266) (B.2.2.2.1 _ k_1267) (B.2.2.2.1 _ k_1268) (B.2.2.2.1 _ k_3) ⟨by decide +kernel, by decide +kernel, by decide +kernel⟩ rfl d_Weaver_finish_33 rfl (Nat.le_of_ble_eq_true rfl) ⟨by decide, by decide⟩ ⟨by decide, by decide⟩ ⟨by decide, by decide⟩ (mv_noH hno _) (fun w33 σ33 h33 => ?_)
    obtain ⟨rfl, rfl, s_g14⟩ := h33
    have r_g14 : mv_r g14 = mv_r h := s_g14.trans r_g12
    refine mv_putI (pc := 36) (ci := 1) (C := R_Weaver) (T := F_Weaver) (N := 16) B 8 rfl rfl (by decide) i_Weaver t_Weaver_ok n_Weaver (B.2.2.2.1 _ k_238) rfl rfl rfl rfl d_Weaver_finish_36 ?_
    refine mvh_hp (R9 := mv_r h) hf r_g14 (fun g16 hf r_g16 => ?_)
    refine mv_aload_n (pc := 39) B d_Weaver_finish_39 rfl 1 rfl ?_
    refine mv_iconst (pc := 40) (v := 3) B d_Weaver_finish_40 (by decide) ?_
    obtain ⟨g17, eg17, hf⟩ := xhv_e hf
    refine mv_callVv (pc := 41) (n := 1) (ci := 1) (C := R_Weaver) B (mK_ok sk sv) hNs rfl rfl (ch_Weaver_beginExpr l hi _ (xrw r_g16 hb.t) _ eg17) rfl (ma_goodc kc_Weaver_beginExpr) (B.2.2.2.1 _ k_1371) (B.2.2.2.1 _ k_1373) (B.2.2.2.1 _ ks_44) (B.2.2.2.1 _ k_2) ⟨by decide +kernel, by decide +kernel, by decide +kernel⟩ rfl d_Weaver_finish_41 rfl (Nat.le_of_ble_eq_true rfl) ⟨by decide, by decide⟩ ⟨by decide, by decide⟩ ⟨by decide, by decide⟩ (mv_noH hno _) (fun σ41 h41 => ?_)
    obtain ⟨rfl, s_g17⟩ := h41
    have r_g17 : mv_r g17 = mv_r h := s_g17.trans r_g16
    exact mv_vret (pc := 44) B hr d_Weaver_finish_44 (Nat.le_refl _) (Nat.le_refl _) ⟨rfl, xrh_v hf r_g17⟩
def f_Weaver_readBits_72 (P : Nat) (x2 : Int64) (hz : mv_H) : Option mv_H := xk (mv_si hz P 0 ((x2).toInt32)) fun g1 => some g1
def f_Weaver_readBits (P : Nat) (h : mv_H) : Option mv_H := xhb (f_Tokens_take h (200 : Int32)) fun v3 g2 => xhb (f_Tokens_take g2 (4 : Int32)) fun v5 g4 => xhb (f_Tokens_take g4 (59 : Int32)) fun v7 g6 => bif xvi v5 32770 then if (lg_cmp (mv_b g6 6 (v5).toNatClampNeg) (8 : Int64)) = (0 : Int32) then (f_Weaver_readBits_72 P (mv_b g6 6 (v5).toNatClampNeg) g6) else (if (lg_cmp (mv_b g6 6 (v5).toNatClampNeg) (16 : Int64)) = (0 : Int32) then (f_Weaver_readBits_72 P (mv_b g6 6 (v5).toNatClampNeg) g6) else (if (lg_cmp (mv_b g6 6 (v5).toNatClampNeg) (32 : Int64)) = (0 : Int32) then (f_Weaver_readBits_72 P (mv_b g6 6 (v5).toNatClampNeg) g6) else (if (lg_cmp (mv_b g6 6 (v5).toNatClampNeg) (64 : Int64)) = (0 : Int32) then (f_Weaver_readBits_72 P (mv_b g6 6 (v5).toNatClampNeg) g6) else (xhv (f_Weaver_tell g6 v5 (3 : Int32)) fun g9 => some g9)))) else none
set_option maxHeartbeats 4000000 in
set_option maxRecDepth 100000 in
theorem ch_Weaver_readBits_a (l : Launch) {dA : FieldType → ClassId} {D : va_G} {al : Nat → Nat} {ext : mv_Sh} {sk sv : Nat → Nat} (hi : mv_inj (mg dA D al ext)) (h : mv_H) (hb : xRP 32 (mv_r h))  {rg : mv_H} (hf : f_Weaver_readBits 32 h = some rg) : mv_C l y_Weaver_readBits (Cond.code y_Weaver_readBits b_Weaver_readBits 4 (Option.none : Option Jvm.ClassFile.FieldType) :: ma) ({ frames := 2, cells := 0, slots := 0, locals := 44 }) (mg dA D al ext) (mK sk sv) [.ref (al 2)] h (mv_Rv (fun σ1 => rg = σ1 ∧ mv_r σ1 = mv_r h)) := by
  refine mv_C.ofV (cc := b_Weaver_readBits) (nL := 4) (ret := (Option.none : Option Jvm.ClassFile.FieldType)) (by decide +kernel) rfl hi (Nat.le_of_ble_eq_true rfl) ?_
  intro p e s m below meth c B hNs hr hnm hno
  have jn72 : ∀ (x2 : Int64) (hz : mv_H), mv_r hz = mv_r h → f_Weaver_readBits_72 32 x2 hz = some rg → mv_V p l e ({ frames := 2, cells := 0, slots := 0, locals := 44 }) s m ([.ref (al 2)] : List Value).toArray below meth c (mg dA D al ext) 4 0 0 (mv_Q (mg dA D al ext) below s 0 0 (mv_Rv (fun σ1 => rg = σ1 ∧ mv_r σ1 = mv_r h))) hz 72 [(0, .ref (al 2)), (2, .long x2)] [] := by
    intro x2 hz r_hz hf
    unfold f_Weaver_readBits_72 at hf
    refine mv_aload_n (pc := 72) B d_Weaver_readBits_72 rfl 0 rfl ?_
    refine mv_getR (pc := 73) (ci := 1) (C := R_Weaver) (T := F_Weaver) (N := 16) B 5 rfl rfl (by decide) i_Weaver (B.2.2.2.1 _ k_235) rfl ((congrFun (congrFun r_hz 2) 5).trans hb.1.2.2.1) d_Weaver_readBits_73 ?_
    refine mv_lload_n (pc := 76) B d_Weaver_readBits_76 rfl 1 rfl ?_
    refine mv_l2i (pc := 77) B d_Weaver_readBits_77 ?_
    refine mv_putI (pc := 78) (ci := 7) (C := R_Program) (T := F_Program) (N := 19) B 0 rfl rfl (by decide) i_Program t_Program_ok n_Program (B.2.2.2.1 _ k_313) rfl rfl rfl rfl d_Weaver_readBits_78 ?_
    refine mvh_hp (R9 := mv_r h) hf r_hz (fun g1 hf r_g1 => ?_)
    refine mv_goto (pc := 81) (tgt := 90) B d_Weaver_readBits_81 rfl ?_
    exact mv_vret (pc := 90) B hr d_Weaver_readBits_90 (Nat.le_refl _) (Nat.le_refl _) ⟨rfl, xrh_v hf r_g1⟩
  unfold f_Weaver_readBits at hf
  refine mv_aload_n (pc := 0) B d_Weaver_readBits_0 rfl 0 rfl ?_
  refine mv_getR (pc := 1) (ci := 1) (C := R_Weaver) (T := F_Weaver) (N := 16) B 0 rfl rfl (by decide) i_Weaver (B.2.2.2.1 _ k_228) rfl (hb.1.1 2 0 _ rfl) d_Weaver_readBits_1 ?_
  refine mv_sipush (pc := 4) (v := 200) B d_Weaver_readBits_4 (by decide) ?_
  obtain ⟨v3, g2, eg2, hf⟩ := xhb_e hf
  refine mv_callVi (pc := 7) (n := 1) (ci := 2) (C := R_Tokens) B (mK_ok sk sv) hNs rfl rfl (ch_Tokens_take l hi _ (hb.t) _ eg2) rfl (ma_goodc kc_Tokens_take) (B.2.2.2.1 _ k_1266) (B.2.2.2.1 _ k_1267) (B.2.2.2.1 _ k_1268) (B.2.2.2.1 _ k_3) ⟨by decide +kernel, by decide +kernel, by decide +kernel⟩ rfl d_Weaver_readBits_7 rfl (Nat.le_of_ble_eq_true rfl) ⟨by decide, by decide⟩ ⟨by decide, by decide⟩ ⟨by decide, by decide⟩ (mv_noH hno _) (fun w7 σ7 h7 => ?_)
  obtain ⟨rfl, rfl, s_g2⟩ := h7
  have r_g2 : mv_r g2 = mv_r h := s_g2.trans rfl
  refine mv_pop (pc := 10) B d_Weaver_readBits_10 rfl ?_
  refine mv_aload_n (pc := 11) B d_Weaver_readBits_11 rfl 0 rfl ?_
  refine mv_getR (pc := 12) (ci := 1) (C := R_Weaver) (T := F_Weaver) (N := 16) B 0 rfl rfl (by decide) i_Weaver (B.2.2.2.1 _ k_228) rfl ((congrFun (congrFun r_g2 2) 0).trans (hb.1.1 2 0 _ rfl)) d_Weaver_readBits_12 ?_
  refine mv_iconst (pc := 15) (v := 4) B d_Weaver_readBits_15 (by decide) ?_
  obtain ⟨v5, g4, eg4, hf⟩ := xhb_e hf
  refine mv_callVi (pc := 16) (n := 1) (ci := 2) (C := R_Tokens) B (mK_ok sk sv) hNs rfl rfl (ch_Tokens_take l hi _ (xrw r_g2 hb.t) _ eg4) rfl (ma_goodc kc_Tokens_take) (B.2.2.2.1 _ k_1266) (B.2.2.2.1 _ k_1267) (B.2.2.2.1 _ k_1268) (B.2.2.2.1 _ k_3) ⟨by decide +kernel, by decide +kernel, by decide +kernel⟩ rfl d_Weaver_readBits_16 rfl (Nat.le_of_ble_eq_true rfl) ⟨by decide, by decide⟩ ⟨by decide, by decide⟩ ⟨by decide, by decide⟩ (mv_noH hno _) (fun w16 σ16 h16 => ?_)
  obtain ⟨rfl, rfl, s_g4⟩ := h16
  have r_g4 : mv_r g4 = mv_r h := s_g4.trans r_g2
  refine mv_istore_n (pc := 19) B d_Weaver_readBits_19 rfl (by decide) rfl ?_
  refine mv_aload_n (pc := 20) B d_Weaver_readBits_20 rfl 1 rfl ?_
  refine mv_getR (pc := 21) (ci := 1) (C := R_Weaver) (T := F_Weaver) (N := 16) B 0 rfl rfl (by decide) i_Weaver (B.2.2.2.1 _ k_228) rfl ((congrFun (congrFun r_g4 2) 0).trans (hb.1.1 2 0 _ rfl)) d_Weaver_readBits_21 ?_
  refine mv_bipush (pc := 24) (v := 59) B d_Weaver_readBits_24 (by decide) ?_
  obtain ⟨v7, g6, eg6, hf⟩ := xhb_e hf
  refine mv_callVi (pc := 26) (n := 1) (ci := 2) (C := R_Tokens) B (mK_ok sk sv) hNs rfl rfl (ch_Tokens_take l hi _ (xrw r_g4 hb.t) _ eg6) rfl (ma_goodc kc_Tokens_take) (B.2.2.2.1 _ k_1266) (B.2.2.2.1 _ k_1267) (B.2.2.2.1 _ k_1268) (B.2.2.2.1 _ k_3) ⟨by decide +kernel, by decide +kernel, by decide +kernel⟩ rfl d_Weaver_readBits_26 rfl (Nat.le_of_ble_eq_true rfl) ⟨by decide, by decide⟩ ⟨by decide, by decide⟩ ⟨by decide, by decide⟩ (mv_noH hno _) (fun w26 σ26 h26 => ?_)
  obtain ⟨rfl, rfl, s_g6⟩ := h26
  have r_g6 : mv_r g6 = mv_r h := s_g6.trans r_g4
  refine mv_pop (pc := 29) B d_Weaver_readBits_29 rfl ?_
  refine mv_aload_n (pc := 30) B d_Weaver_readBits_30 rfl 1 rfl ?_
  refine mv_getR (pc := 31) (ci := 1) (C := R_Weaver) (T := F_Weaver) (N := 16) B 0 rfl rfl (by decide) i_Weaver (B.2.2.2.1 _ k_228) rfl ((congrFun (congrFun r_g6 2) 0).trans (hb.1.1 2 0 _ rfl)) d_Weaver_readBits_31 ?_
  refine mv_getR (pc := 34) (ci := 2) (C := R_Tokens) (T := F_Tokens) (N := 10) B 2 rfl rfl (by decide) i_Tokens (B.2.2.2.1 _ k_94) rfl ((congrFun (congrFun r_g6 3) 2).trans (hb.1.1 3 2 _ rfl)) d_Weaver_readBits_34 ?_
  refine mv_iload_n (pc := 37) B d_Weaver_readBits_37 rfl 0 rfl ?_
  obtain ⟨q8, hf⟩ := xvi_e hf
  refine mv_lald (pc := 38) B rfl q8 d_Weaver_readBits_38 ?_
  refine mv_lstore_n (pc := 39) B d_Weaver_readBits_39 rfl (by decide) rfl ?_
  refine mv_lload_n (pc := 40) B d_Weaver_readBits_40 rfl 0 rfl ?_
  refine mv_ldc2 (pc := 41) (v := 8) B (B.2.2.2.1 _ k_1278) d_Weaver_readBits_41 ?_
  refine mv_lcmp (pc := 44) B d_Weaver_readBits_44 ?_
  refine mv_if_eq (pc := 45) (tgt := 72) B d_Weaver_readBits_45 rfl (fun h45 => ?_) (fun h45 => ?_)
  · skip
    have hf := xif_t h45 hf
    refine mv_lpick [2, 0] rfl ?_
    exact jn72 _ _ r_g6 hf
  · skip
    have hf := xif_f h45 hf
    refine mv_lload_n (pc := 48) B d_Weaver_readBits_48 rfl 0 rfl ?_
    refine mv_ldc2 (pc := 49) (v := 16) B (B.2.2.2.1 _ k_1279) d_Weaver_readBits_49 ?_
    refine mv_lcmp (pc := 52) B d_Weaver_readBits_52 ?_
    refine mv_if_eq (pc := 53) (tgt := 72) B d_Weaver_readBits_53 rfl (fun h53 => ?_) (fun h53 => ?_)
    · skip
      have hf := xif_t h53 hf
      refine mv_lpick [2, 0] rfl ?_
      exact jn72 _ _ r_g6 hf
    · skip
      have hf := xif_f h53 hf
      refine mv_lload_n (pc := 56) B d_Weaver_readBits_56 rfl 0 rfl ?_
      refine mv_ldc2 (pc := 57) (v := 32) B (B.2.2.2.1 _ k_1280) d_Weaver_readBits_57 ?_
      refine mv_lcmp (pc := 60) B d_Weaver_readBits_60 ?_
      refine mv_if_eq (pc := 61) (tgt := 72) B d_Weaver_readBits_61 rfl (fun h61 => ?_) (fun h61 => ?_)
      · skip
        have hf := xif_t h61 hf
        refine mv_lpick [2, 0] rfl ?_
        exact jn72 _ _ r_g6 hf
      · skip
        have hf := xif_f h61 hf
        refine mv_lload_n (pc := 64) B d_Weaver_readBits_64 rfl 0 rfl ?_
        refine mv_ldc2 (pc := 65) (v := 64) B (B.2.2.2.1 _ k_1281) d_Weaver_readBits_65 ?_
        refine mv_lcmp (pc := 68) B d_Weaver_readBits_68 ?_
        refine mv_if_ne (pc := 69) (tgt := 84) B d_Weaver_readBits_69 rfl (fun h69 => ?_) (fun h69 => ?_)
        · skip
          have hf := xif_f h69 hf
          refine mv_aload_n (pc := 84) B d_Weaver_readBits_84 rfl 2 rfl ?_
          refine mv_iload_n (pc := 85) B d_Weaver_readBits_85 rfl 1 rfl ?_
          refine mv_iconst (pc := 86) (v := 3) B d_Weaver_readBits_86 (by decide) ?_
          obtain ⟨g9, eg9, hf⟩ := xhv_e hf
          refine mv_callVv (pc := 87) (n := 2) (ci := 1) (C := R_Weaver) B (mK_ok sk sv) hNs rfl rfl (ch_Weaver_tell l hi _ (xrw r_g6 hb.t) _ _ eg9) rfl (ma_goodc kc_Weaver_tell) (B.2.2.2.1 _ k_1282) (B.2.2.2.1 _ k_1284) (B.2.2.2.1 _ ks_32) (B.2.2.2.1 _ k_2) ⟨by decide +kernel, by decide +kernel, by decide +kernel⟩ rfl d_Weaver_readBits_87 rfl (Nat.le_of_ble_eq_true rfl) ⟨by decide, by decide⟩ ⟨by decide, by decide⟩ ⟨by decide, by decide⟩ (mv_noH hno _) (fun σ87 h87 => ?_)
          obtain ⟨rfl, s_g9⟩ := h87
          have r_g9 : mv_r g9 = mv_r h := s_g9.trans r_g6
          exact mv_vret (pc := 90) B hr d_Weaver_readBits_90 (Nat.le_refl _) (Nat.le_refl _) ⟨rfl, xrh_v hf r_g9⟩
        · skip
          have hf := xif_t h69 hf
          refine mv_lpick [2, 0] rfl ?_
          exact jn72 _ _ r_g6 hf
set_option maxHeartbeats 4000000 in
set_option maxRecDepth 100000 in
theorem ch_Weaver_readBits_b (l : Launch) {dA : FieldType → ClassId} {D : va_G} {al : Nat → Nat} {ext : mv_Sh} {sk sv : Nat → Nat} (hi : mv_inj (mg dA D al ext)) (h : mv_H) (hb : xRP 48 (mv_r h))  {rg : mv_H} (hf : f_Weaver_readBits 48 h = some rg) : mv_C l y_Weaver_readBits (Cond.code y_Weaver_readBits b_Weaver_readBits 4 (Option.none : Option Jvm.ClassFile.FieldType) :: ma) ({ frames := 2, cells := 0, slots := 0, locals := 44 }) (mg dA D al ext) (mK sk sv) [.ref (al 2)] h (mv_Rv (fun σ1 => rg = σ1 ∧ mv_r σ1 = mv_r h)) := by
  refine mv_C.ofV (cc := b_Weaver_readBits) (nL := 4) (ret := (Option.none : Option Jvm.ClassFile.FieldType)) (by decide +kernel) rfl hi (Nat.le_of_ble_eq_true rfl) ?_
  intro p e s m below meth c B hNs hr hnm hno
  have jn72 : ∀ (x2 : Int64) (hz : mv_H), mv_r hz = mv_r h → f_Weaver_readBits_72 48 x2 hz = some rg → mv_V p l e ({ frames := 2, cells := 0, slots := 0, locals := 44 }) s m ([.ref (al 2)] : List Value).toArray below meth c (mg dA D al ext) 4 0 0 (mv_Q (mg dA D al ext) below s 0 0 (mv_Rv (fun σ1 => rg = σ1 ∧ mv_r σ1 = mv_r h))) hz 72 [(0, .ref (al 2)), (2, .long x2)] [] := by
    intro x2 hz r_hz hf
    unfold f_Weaver_readBits_72 at hf
    refine mv_aload_n (pc := 72) B d_Weaver_readBits_72 rfl 0 rfl ?_
    refine mv_getR (pc := 73) (ci := 1) (C := R_Weaver) (T := F_Weaver) (N := 16) B 5 rfl rfl (by decide) i_Weaver (B.2.2.2.1 _ k_235) rfl ((congrFun (congrFun r_hz 2) 5).trans hb.1.2.2.1) d_Weaver_readBits_73 ?_
    refine mv_lload_n (pc := 76) B d_Weaver_readBits_76 rfl 1 rfl ?_
    refine mv_l2i (pc := 77) B d_Weaver_readBits_77 ?_
    refine mv_putI (pc := 78) (ci := 7) (C := R_Program) (T := F_Program) (N := 19) B 0 rfl rfl (by decide) i_Program t_Program_ok n_Program (B.2.2.2.1 _ k_313) rfl rfl rfl rfl d_Weaver_readBits_78 ?_
    refine mvh_hp (R9 := mv_r h) hf r_hz (fun g1 hf r_g1 => ?_)
    refine mv_goto (pc := 81) (tgt := 90) B d_Weaver_readBits_81 rfl ?_
    exact mv_vret (pc := 90) B hr d_Weaver_readBits_90 (Nat.le_refl _) (Nat.le_refl _) ⟨rfl, xrh_v hf r_g1⟩
  unfold f_Weaver_readBits at hf
  refine mv_aload_n (pc := 0) B d_Weaver_readBits_0 rfl 0 rfl ?_
  refine mv_getR (pc := 1) (ci := 1) (C := R_Weaver) (T := F_Weaver) (N := 16) B 0 rfl rfl (by decide) i_Weaver (B.2.2.2.1 _ k_228) rfl (hb.1.1 2 0 _ rfl) d_Weaver_readBits_1 ?_
  refine mv_sipush (pc := 4) (v := 200) B d_Weaver_readBits_4 (by decide) ?_
  obtain ⟨v3, g2, eg2, hf⟩ := xhb_e hf
  refine mv_callVi (pc := 7) (n := 1) (ci := 2) (C := R_Tokens) B (mK_ok sk sv) hNs rfl rfl (ch_Tokens_take l hi _ (hb.t) _ eg2) rfl (ma_goodc kc_Tokens_take) (B.2.2.2.1 _ k_1266) (B.2.2.2.1 _ k_1267) (B.2.2.2.1 _ k_1268) (B.2.2.2.1 _ k_3) ⟨by decide +kernel, by decide +kernel, by decide +kernel⟩ rfl d_Weaver_readBits_7 rfl (Nat.le_of_ble_eq_true rfl) ⟨by decide, by decide⟩ ⟨by decide, by decide⟩ ⟨by decide, by decide⟩ (mv_noH hno _) (fun w7 σ7 h7 => ?_)
  obtain ⟨rfl, rfl, s_g2⟩ := h7
  have r_g2 : mv_r g2 = mv_r h := s_g2.trans rfl
  refine mv_pop (pc := 10) B d_Weaver_readBits_10 rfl ?_
  refine mv_aload_n (pc := 11) B d_Weaver_readBits_11 rfl 0 rfl ?_
  refine mv_getR (pc := 12) (ci := 1) (C := R_Weaver) (T := F_Weaver) (N := 16) B 0 rfl rfl (by decide) i_Weaver (B.2.2.2.1 _ k_228) rfl ((congrFun (congrFun r_g2 2) 0).trans (hb.1.1 2 0 _ rfl)) d_Weaver_readBits_12 ?_
  refine mv_iconst (pc := 15) (v := 4) B d_Weaver_readBits_15 (by decide) ?_
  obtain ⟨v5, g4, eg4, hf⟩ := xhb_e hf
  refine mv_callVi (pc := 16) (n := 1) (ci := 2) (C := R_Tokens) B (mK_ok sk sv) hNs rfl rfl (ch_Tokens_take l hi _ (xrw r_g2 hb.t) _ eg4) rfl (ma_goodc kc_Tokens_take) (B.2.2.2.1 _ k_1266) (B.2.2.2.1 _ k_1267) (B.2.2.2.1 _ k_1268) (B.2.2.2.1 _ k_3) ⟨by decide +kernel, by decide +kernel, by decide +kernel⟩ rfl d_Weaver_readBits_16 rfl (Nat.le_of_ble_eq_true rfl) ⟨by decide, by decide⟩ ⟨by decide, by decide⟩ ⟨by decide, by decide⟩ (mv_noH hno _) (fun w16 σ16 h16 => ?_)
  obtain ⟨rfl, rfl, s_g4⟩ := h16
  have r_g4 : mv_r g4 = mv_r h := s_g4.trans r_g2
  refine mv_istore_n (pc := 19) B d_Weaver_readBits_19 rfl (by decide) rfl ?_
  refine mv_aload_n (pc := 20) B d_Weaver_readBits_20 rfl 1 rfl ?_
  refine mv_getR (pc := 21) (ci := 1) (C := R_Weaver) (T := F_Weaver) (N := 16) B 0 rfl rfl (by decide) i_Weaver (B.2.2.2.1 _ k_228) rfl ((congrFun (congrFun r_g4 2) 0).trans (hb.1.1 2 0 _ rfl)) d_Weaver_readBits_21 ?_
  refine mv_bipush (pc := 24) (v := 59) B d_Weaver_readBits_24 (by decide) ?_
  obtain ⟨v7, g6, eg6, hf⟩ := xhb_e hf
  refine mv_callVi (pc := 26) (n := 1) (ci := 2) (C := R_Tokens) B (mK_ok sk sv) hNs rfl rfl (ch_Tokens_take l hi _ (xrw r_g4 hb.t) _ eg6) rfl (ma_goodc kc_Tokens_take) (B.2.2.2.1 _ k_1266) (B.2.2.2.1 _ k_1267) (B.2.2.2.1 _ k_1268) (B.2.2.2.1 _ k_3) ⟨by decide +kernel, by decide +kernel, by decide +kernel⟩ rfl d_Weaver_readBits_26 rfl (Nat.le_of_ble_eq_true rfl) ⟨by decide, by decide⟩ ⟨by decide, by decide⟩ ⟨by decide, by decide⟩ (mv_noH hno _) (fun w26 σ26 h26 => ?_)
  obtain ⟨rfl, rfl, s_g6⟩ := h26
  have r_g6 : mv_r g6 = mv_r h := s_g6.trans r_g4
  refine mv_pop (pc := 29) B d_Weaver_readBits_29 rfl ?_
  refine mv_aload_n (pc := 30) B d_Weaver_readBits_30 rfl 1 rfl ?_
  refine mv_getR (pc := 31) (ci := 1) (C := R_Weaver) (T := F_Weaver) (N := 16) B 0 rfl rfl (by decide) i_Weaver (B.2.2.2.1 _ k_228) rfl ((congrFun (congrFun r_g6 2) 0).trans (hb.1.1 2 0 _ rfl)) d_Weaver_readBits_31 ?_
  refine mv_getR (pc := 34) (ci := 2) (C := R_Tokens) (T := F_Tokens) (N := 10) B 2 rfl rfl (by decide) i_Tokens (B.2.2.2.1 _ k_94) rfl ((congrFun (congrFun r_g6 3) 2).trans (hb.1.1 3 2 _ rfl)) d_Weaver_readBits_34 ?_
  refine mv_iload_n (pc := 37) B d_Weaver_readBits_37 rfl 0 rfl ?_
  obtain ⟨q8, hf⟩ := xvi_e hf
  refine mv_lald (pc := 38) B rfl q8 d_Weaver_readBits_38 ?_
  refine mv_lstore_n (pc := 39) B d_Weaver_readBits_39 rfl (by decide) rfl ?_
  refine mv_lload_n (pc := 40) B d_Weaver_readBits_40 rfl 0 rfl ?_
  refine mv_ldc2 (pc := 41) (v := 8) B (B.2.2.2.1 _ k_1278) d_Weaver_readBits_41 ?_
  refine mv_lcmp (pc := 44) B d_Weaver_readBits_44 ?_
  refine mv_if_eq (pc := 45) (tgt := 72) B d_Weaver_readBits_45 rfl (fun h45 => ?_) (fun h45 => ?_)
  · skip
    have hf := xif_t h45 hf
    refine mv_lpick [2, 0] rfl ?_
    exact jn72 _ _ r_g6 hf
  · skip
    have hf := xif_f h45 hf
    refine mv_lload_n (pc := 48) B d_Weaver_readBits_48 rfl 0 rfl ?_
    refine mv_ldc2 (pc := 49) (v := 16) B (B.2.2.2.1 _ k_1279) d_Weaver_readBits_49 ?_
    refine mv_lcmp (pc := 52) B d_Weaver_readBits_52 ?_
    refine mv_if_eq (pc := 53) (tgt := 72) B d_Weaver_readBits_53 rfl (fun h53 => ?_) (fun h53 => ?_)
    · skip
      have hf := xif_t h53 hf
      refine mv_lpick [2, 0] rfl ?_
      exact jn72 _ _ r_g6 hf
    · skip
      have hf := xif_f h53 hf
      refine mv_lload_n (pc := 56) B d_Weaver_readBits_56 rfl 0 rfl ?_
      refine mv_ldc2 (pc := 57) (v := 32) B (B.2.2.2.1 _ k_1280) d_Weaver_readBits_57 ?_
      refine mv_lcmp (pc := 60) B d_Weaver_readBits_60 ?_
      refine mv_if_eq (pc := 61) (tgt := 72) B d_Weaver_readBits_61 rfl (fun h61 => ?_) (fun h61 => ?_)
      · skip
        have hf := xif_t h61 hf
        refine mv_lpick [2, 0] rfl ?_
        exact jn72 _ _ r_g6 hf
      · skip
        have hf := xif_f h61 hf
        refine mv_lload_n (pc := 64) B d_Weaver_readBits_64 rfl 0 rfl ?_
        refine mv_ldc2 (pc := 65) (v := 64) B (B.2.2.2.1 _ k_1281) d_Weaver_readBits_65 ?_
        refine mv_lcmp (pc := 68) B d_Weaver_readBits_68 ?_
        refine mv_if_ne (pc := 69) (tgt := 84) B d_Weaver_readBits_69 rfl (fun h69 => ?_) (fun h69 => ?_)
        · skip
          have hf := xif_f h69 hf
          refine mv_aload_n (pc := 84) B d_Weaver_readBits_84 rfl 2 rfl ?_
          refine mv_iload_n (pc := 85) B d_Weaver_readBits_85 rfl 1 rfl ?_
          refine mv_iconst (pc := 86) (v := 3) B d_Weaver_readBits_86 (by decide) ?_
          obtain ⟨g9, eg9, hf⟩ := xhv_e hf
          refine mv_callVv (pc := 87) (n := 2) (ci := 1) (C := R_Weaver) B (mK_ok sk sv) hNs rfl rfl (ch_Weaver_tell l hi _ (xrw r_g6 hb.t) _ _ eg9) rfl (ma_goodc kc_Weaver_tell) (B.2.2.2.1 _ k_1282) (B.2.2.2.1 _ k_1284) (B.2.2.2.1 _ ks_32) (B.2.2.2.1 _ k_2) ⟨by decide +kernel, by decide +kernel, by decide +kernel⟩ rfl d_Weaver_readBits_87 rfl (Nat.le_of_ble_eq_true rfl) ⟨by decide, by decide⟩ ⟨by decide, by decide⟩ ⟨by decide, by decide⟩ (mv_noH hno _) (fun σ87 h87 => ?_)
          obtain ⟨rfl, s_g9⟩ := h87
          have r_g9 : mv_r g9 = mv_r h := s_g9.trans r_g6
          exact mv_vret (pc := 90) B hr d_Weaver_readBits_90 (Nat.le_refl _) (Nat.le_refl _) ⟨rfl, xrh_v hf r_g9⟩
        · skip
          have hf := xif_t h69 hf
          refine mv_lpick [2, 0] rfl ?_
          exact jn72 _ _ r_g6 hf
def fF_Weaver_areApart_15 (P : Nat) (k2 : Int32 → mv_H → Option (Int32 × mv_H)) (k15 : Int32 → Int32 → mv_H → Option (Int32 × mv_H)) (x1 : Int32) (x2 : Int32) (hz : mv_H) : Option (Int32 × mv_H) := if x1 ≤ x2 then (k2 (x1 + 1) hz) else (xhb (f_Program_apart P hz x2 x1) fun v2 g1 => if v2 = (0 : Int32) then (xhv (f_Faults_tell g1 x1 (7 : Int32)) fun g3 => xk (mv_si g3 2 4 x2) fun g4 => bif xzb (0 : Int32) then some ((0 : Int32), g4) else none) else (k15 x1 (x2 + 1) g1))
def f_Weaver_areApart_15 (P : Nat) (k2 : Int32 → mv_H → Option (Int32 × mv_H)) : Nat → Int32 → Int32 → mv_H → Option (Int32 × mv_H)
  | 0 => fun _ _ _ => none
  | nn + 1 => fF_Weaver_areApart_15 P k2 (f_Weaver_areApart_15 P k2 nn)
def fF_Weaver_areApart_2 (P : Nat) (k2 : Int32 → mv_H → Option (Int32 × mv_H)) (x1 : Int32) (hz : mv_H) : Option (Int32 × mv_H) := if (mv_i hz P 10) ≤ x1 then (bif xzb (1 : Int32) then some ((1 : Int32), hz) else none) else (f_Weaver_areApart_15 P k2 200000 x1 (0 : Int32) hz)
def f_Weaver_areApart_2 (P : Nat) : Nat → Int32 → mv_H → Option (Int32 × mv_H)
  | 0 => fun _ _ => none
  | nn + 1 => fF_Weaver_areApart_2 P (f_Weaver_areApart_2 P nn)
def f_Weaver_areApart (P : Nat) (h : mv_H) : Option (Int32 × mv_H) := f_Weaver_areApart_2 P 200000 (1 : Int32) h
set_option maxHeartbeats 4000000 in
set_option maxRecDepth 100000 in
theorem ch_Weaver_areApart_a (l : Launch) {dA : FieldType → ClassId} {D : va_G} {al : Nat → Nat} {ext : mv_Sh} {sk sv : Nat → Nat} (hi : mv_inj (mg dA D al ext)) (h : mv_H) (hb : xRP 32 (mv_r h))  {rv : Int32} {rg : mv_H} (hf : f_Weaver_areApart 32 h = some (rv, rg)) : mv_C l y_Weaver_areApart (Cond.code y_Weaver_areApart b_Weaver_areApart 3 (Option.some Jvm.ClassFile.FieldType.boolean) :: ma) ({ frames := 1, cells := 0, slots := 0, locals := 22 }) (mg dA D al ext) (mK sk sv) [.ref (al 2)] h (mv_Ri (fun v σ1 => rv = v ∧ rg = σ1 ∧ mv_r σ1 = mv_r h)) := by
  refine mv_C.ofV (cc := b_Weaver_areApart) (nL := 3) (ret := (Option.some Jvm.ClassFile.FieldType.boolean)) (by decide +kernel) rfl hi (Nat.le_of_ble_eq_true rfl) ?_
  intro p e s m below meth c B hNs hr hnm hno
  have lp2 : ∀ (nn2 : Nat) (x1 : Int32) (hz : mv_H), mv_r hz = mv_r h → f_Weaver_areApart_2 32 nn2 x1 hz = some (rv, rg) → mv_V p l e ({ frames := 1, cells := 0, slots := 0, locals := 22 }) s m ([.ref (al 2)] : List Value).toArray below meth c (mg dA D al ext) 3 0 0 (mv_Q (mg dA D al ext) below s 0 0 (mv_Ri (fun v σ1 => rv = v ∧ rg = σ1 ∧ mv_r σ1 = mv_r h))) hz 2 [(0, .ref (al 2)), (1, .int x1)] [] := by
    intro nn2
    induction nn2 with
    | zero => intro x1 hz r_hz hf; cases hf
    | succ nn2 ih2 =>
      intro x1 hz r_hz hf
      have lp15 : ∀ (nn15 : Nat) (x1 : Int32) (x2 : Int32) (hz : mv_H), mv_r hz = mv_r h → f_Weaver_areApart_15 32 (f_Weaver_areApart_2 32 nn2) nn15 x1 x2 hz = some (rv, rg) → mv_V p l e ({ frames := 1, cells := 0, slots := 0, locals := 22 }) s m ([.ref (al 2)] : List Value).toArray below meth c (mg dA D al ext) 3 0 0 (mv_Q (mg dA D al ext) below s 0 0 (mv_Ri (fun v σ1 => rv = v ∧ rg = σ1 ∧ mv_r σ1 = mv_r h))) hz 15 [(0, .ref (al 2)), (1, .int x1), (2, .int x2)] [] := by
        intro nn15
        induction nn15 with
        | zero => intro x1 x2 hz r_hz hf; cases hf
        | succ nn15 ih15 =>
          intro x1 x2 hz r_hz hf
          have hf : fF_Weaver_areApart_15 32 (f_Weaver_areApart_2 32 nn2) (f_Weaver_areApart_15 32 (f_Weaver_areApart_2 32 nn2) nn15) x1 x2 hz = some (rv, rg) := hf
          unfold fF_Weaver_areApart_15 at hf
          refine mv_iload_n (pc := 15) B d_Weaver_areApart_15 rfl 2 rfl ?_
          refine mv_iload_n (pc := 16) B d_Weaver_areApart_16 rfl 1 rfl ?_
          refine mv_icmp_ge (pc := 17) (tgt := 55) B d_Weaver_areApart_17 rfl (fun h17 => ?_) (fun h17 => ?_)
          · skip
            have hf := xif_t h17 hf
            refine mv_iinc (pc := 55) (j := 1) (v := 1) B d_Weaver_areApart_55 rfl (by decide) (by decide) rfl ?_
            refine mv_goto (pc := 58) (tgt := 2) B d_Weaver_areApart_58 rfl ?_
            refine mv_lpick [1, 0] rfl ?_
            exact ih2 _ _ r_hz hf
          · skip
            have hf := xif_f h17 hf
            refine mv_aload_n (pc := 20) B d_Weaver_areApart_20 rfl 0 rfl ?_
            refine mv_getR (pc := 21) (ci := 1) (C := R_Weaver) (T := F_Weaver) (N := 16) B 5 rfl rfl (by decide) i_Weaver (B.2.2.2.1 _ k_235) rfl ((congrFun (congrFun r_hz 2) 5).trans hb.1.2.2.1) d_Weaver_areApart_21 ?_
            refine mv_iload_n (pc := 24) B d_Weaver_areApart_24 rfl 2 rfl ?_
            refine mv_iload_n (pc := 25) B d_Weaver_areApart_25 rfl 1 rfl ?_
            obtain ⟨v2, g1, eg1, hf⟩ := xhb_e hf
            refine mv_callVi (pc := 26) (n := 2) (ci := 7) (C := R_Program) B (mK_ok sk sv) hNs rfl rfl (ch_Program_apart_a l hi _ (xrw r_hz hb) _ _ eg1) rfl (ma_goodc kc_Program_apart) (B.2.2.2.1 _ k_1544) (B.2.2.2.1 _ k_1545) (B.2.2.2.1 _ k_1546) (B.2.2.2.1 _ k_8) ⟨by decide +kernel, by decide +kernel, by decide +kernel⟩ rfl d_Weaver_areApart_26 rfl (Nat.le_of_ble_eq_true rfl) ⟨by decide, by decide⟩ ⟨by decide, by decide⟩ ⟨by decide, by decide⟩ (mv_noH hno _) (fun w26 σ26 h26 => ?_)
            obtain ⟨rfl, rfl, s_g1⟩ := h26
            have r_g1 : mv_r g1 = mv_r h := s_g1.trans r_hz
            refine mv_if_ne (pc := 29) (tgt := 49) B d_Weaver_areApart_29 rfl (fun h29 => ?_) (fun h29 => ?_)
            · skip
              have hf := xif_f h29 hf
              refine mv_iinc (pc := 49) (j := 2) (v := 1) B d_Weaver_areApart_49 rfl (by decide) (by decide) rfl ?_
              refine mv_goto (pc := 52) (tgt := 15) B d_Weaver_areApart_52 rfl ?_
              refine mv_lpick [1, 2, 0] rfl ?_
              exact ih15 _ _ _ r_g1 hf
            · skip
              have hf := xif_t h29 hf
              refine mv_aload_n (pc := 32) B d_Weaver_areApart_32 rfl 0 rfl ?_
              refine mv_getR (pc := 33) (ci := 1) (C := R_Weaver) (T := F_Weaver) (N := 16) B 2 rfl rfl (by decide) i_Weaver (B.2.2.2.1 _ k_230) rfl ((congrFun (congrFun r_g1 2) 2).trans (hb.1.1 2 2 _ rfl)) d_Weaver_areApart_33 ?_
              refine mv_iload_n (pc := 36) B d_Weaver_areApart_36 rfl 1 rfl ?_
              refine mv_bipush (pc := 37) (v := 7) B d_Weaver_areApart_37 (by decide) ?_
              obtain ⟨g3, eg3, hf⟩ := xhv_e hf
              refine mv_callVv (pc := 39) (n := 2) (ci := 5) (C := R_Faults) B (mK_ok sk sv) hNs rfl rfl (ch_Faults_tell l hi _ _ _ eg3) rfl (ma_goodc kc_Faults_tell) (B.2.2.2.1 _ k_1286) (B.2.2.2.1 _ k_1287) (B.2.2.2.1 _ k_1288) (B.2.2.2.1 _ k_6) ⟨by decide +kernel, by decide +kernel, by decide +kernel⟩ rfl d_Weaver_areApart_39 rfl (Nat.le_of_ble_eq_true rfl) ⟨by decide, by decide⟩ ⟨by decide, by decide⟩ ⟨by decide, by decide⟩ (mv_noH hno _) (fun σ39 h39 => ?_)
              obtain ⟨rfl, s_g3⟩ := h39
              have r_g3 : mv_r g3 = mv_r h := s_g3.trans r_g1
              refine mv_aload_n (pc := 42) B d_Weaver_areApart_42 rfl 0 rfl ?_
              refine mv_iload_n (pc := 43) B d_Weaver_areApart_43 rfl 2 rfl ?_
              refine mv_putI (pc := 44) (ci := 1) (C := R_Weaver) (T := F_Weaver) (N := 16) B 4 rfl rfl (by decide) i_Weaver t_Weaver_ok n_Weaver (B.2.2.2.1 _ k_233) rfl rfl rfl rfl d_Weaver_areApart_44 ?_
              refine mvh_hp (R9 := mv_r h) hf r_g3 (fun g4 hf r_g4 => ?_)
              refine mv_iconst (pc := 47) (v := 0) B d_Weaver_areApart_47 (by decide) ?_
              obtain ⟨q5, hf⟩ := xzb_e hf
              exact mv_iret (pc := 48) B hr (xzb_n q5) d_Weaver_areApart_48 (Nat.le_refl _) (Nat.le_refl _) ⟨_, rfl, xrh_i hf r_g4⟩
      have hf : fF_Weaver_areApart_2 32 (f_Weaver_areApart_2 32 nn2) x1 hz = some (rv, rg) := hf
      unfold fF_Weaver_areApart_2 at hf
      refine mv_iload_n (pc := 2) B d_Weaver_areApart_2 rfl 1 rfl ?_
      refine mv_aload_n (pc := 3) B d_Weaver_areApart_3 rfl 0 rfl ?_
      refine mv_getR (pc := 4) (ci := 1) (C := R_Weaver) (T := F_Weaver) (N := 16) B 5 rfl rfl (by decide) i_Weaver (B.2.2.2.1 _ k_235) rfl ((congrFun (congrFun r_hz 2) 5).trans hb.1.2.2.1) d_Weaver_areApart_4 ?_
      refine mv_getI (pc := 7) (ci := 7) (C := R_Program) (T := F_Program) (N := 19) B 10 rfl rfl (by decide) i_Program (B.2.2.2.1 _ k_347) rfl d_Weaver_areApart_7 ?_
      refine mv_icmp_ge (pc := 10) (tgt := 61) B d_Weaver_areApart_10 rfl (fun h10 => ?_) (fun h10 => ?_)
      · skip
        have hf := xif_t h10 hf
        refine mv_iconst (pc := 61) (v := 1) B d_Weaver_areApart_61 (by decide) ?_
        obtain ⟨q6, hf⟩ := xzb_e hf
        exact mv_iret (pc := 62) B hr (xzb_n q6) d_Weaver_areApart_62 (Nat.le_refl _) (Nat.le_refl _) ⟨_, rfl, xrh_i hf r_hz⟩
      · skip
        have hf := xif_f h10 hf
        refine mv_iconst (pc := 13) (v := 0) B d_Weaver_areApart_13 (by decide) ?_
        refine mv_istore_n (pc := 14) B d_Weaver_areApart_14 rfl (by decide) rfl ?_
        refine mv_lpick [1, 2, 0] rfl ?_
        exact lp15 _ _ _ _ r_hz hf
  unfold f_Weaver_areApart at hf
  refine mv_iconst (pc := 0) (v := 1) B d_Weaver_areApart_0 (by decide) ?_
  refine mv_istore_n (pc := 1) B d_Weaver_areApart_1 rfl (by decide) rfl ?_
  refine mv_lpick [1, 0] rfl ?_
  exact lp2 _ _ _ rfl hf
set_option maxHeartbeats 4000000 in
set_option maxRecDepth 100000 in
theorem ch_Weaver_areApart_b (l : Launch) {dA : FieldType → ClassId} {D : va_G} {al : Nat → Nat} {ext : mv_Sh} {sk sv : Nat → Nat} (hi : mv_inj (mg dA D al ext)) (h : mv_H) (hb : xRP 48 (mv_r h))  {rv : Int32} {rg : mv_H} (hf : f_Weaver_areApart 48 h = some (rv, rg)) : mv_C l y_Weaver_areApart (Cond.code y_Weaver_areApart b_Weaver_areApart 3 (Option.some Jvm.ClassFile.FieldType.boolean) :: ma) ({ frames := 1, cells := 0, slots := 0, locals := 22 }) (mg dA D al ext) (mK sk sv) [.ref (al 2)] h (mv_Ri (fun v σ1 => rv = v ∧ rg = σ1 ∧ mv_r σ1 = mv_r h)) := by
  refine mv_C.ofV (cc := b_Weaver_areApart) (nL := 3) (ret := (Option.some Jvm.ClassFile.FieldType.boolean)) (by decide +kernel) rfl hi (Nat.le_of_ble_eq_true rfl) ?_
  intro p e s m below meth c B hNs hr hnm hno
  have lp2 : ∀ (nn2 : Nat) (x1 : Int32) (hz : mv_H), mv_r hz = mv_r h → f_Weaver_areApart_2 48 nn2 x1 hz = some (rv, rg) → mv_V p l e ({ frames := 1, cells := 0, slots := 0, locals := 22 }) s m ([.ref (al 2)] : List Value).toArray below meth c (mg dA D al ext) 3 0 0 (mv_Q (mg dA D al ext) below s 0 0 (mv_Ri (fun v σ1 => rv = v ∧ rg = σ1 ∧ mv_r σ1 = mv_r h))) hz 2 [(0, .ref (al 2)), (1, .int x1)] [] := by
    intro nn2
    induction nn2 with
    | zero => intro x1 hz r_hz hf; cases hf
    | succ nn2 ih2 =>
      intro x1 hz r_hz hf
      have lp15 : ∀ (nn15 : Nat) (x1 : Int32) (x2 : Int32) (hz : mv_H), mv_r hz = mv_r h → f_Weaver_areApart_15 48 (f_Weaver_areApart_2 48 nn2) nn15 x1 x2 hz = some (rv, rg) → mv_V p l e ({ frames := 1, cells := 0, slots := 0, locals := 22 }) s m ([.ref (al 2)] : List Value).toArray below meth c (mg dA D al ext) 3 0 0 (mv_Q (mg dA D al ext) below s 0 0 (mv_Ri (fun v σ1 => rv = v ∧ rg = σ1 ∧ mv_r σ1 = mv_r h))) hz 15 [(0, .ref (al 2)), (1, .int x1), (2, .int x2)] [] := by
        intro nn15
        induction nn15 with
        | zero => intro x1 x2 hz r_hz hf; cases hf
        | succ nn15 ih15 =>
          intro x1 x2 hz r_hz hf
          have hf : fF_Weaver_areApart_15 48 (f_Weaver_areApart_2 48 nn2) (f_Weaver_areApart_15 48 (f_Weaver_areApart_2 48 nn2) nn15) x1 x2 hz = some (rv, rg) := hf
          unfold fF_Weaver_areApart_15 at hf
          refine mv_iload_n (pc := 15) B d_Weaver_areApart_15 rfl 2 rfl ?_
          refine mv_iload_n (pc := 16) B d_Weaver_areApart_16 rfl 1 rfl ?_
          refine mv_icmp_ge (pc := 17) (tgt := 55) B d_Weaver_areApart_17 rfl (fun h17 => ?_) (fun h17 => ?_)
          · skip
            have hf := xif_t h17 hf
            refine mv_iinc (pc := 55) (j := 1) (v := 1) B d_Weaver_areApart_55 rfl (by decide) (by decide) rfl ?_
            refine mv_goto (pc := 58) (tgt := 2) B d_Weaver_areApart_58 rfl ?_
            refine mv_lpick [1, 0] rfl ?_
            exact ih2 _ _ r_hz hf
          · skip
            have hf := xif_f h17 hf
            refine mv_aload_n (pc := 20) B d_Weaver_areApart_20 rfl 0 rfl ?_
            refine mv_getR (pc := 21) (ci := 1) (C := R_Weaver) (T := F_Weaver) (N := 16) B 5 rfl rfl (by decide) i_Weaver (B.2.2.2.1 _ k_235) rfl ((congrFun (congrFun r_hz 2) 5).trans hb.1.2.2.1) d_Weaver_areApart_21 ?_
            refine mv_iload_n (pc := 24) B d_Weaver_areApart_24 rfl 2 rfl ?_
            refine mv_iload_n (pc := 25) B d_Weaver_areApart_25 rfl 1 rfl ?_
            obtain ⟨v2, g1, eg1, hf⟩ := xhb_e hf
            refine mv_callVi (pc := 26) (n := 2) (ci := 7) (C := R_Program) B (mK_ok sk sv) hNs rfl rfl (ch_Program_apart_b l hi _ (xrw r_hz hb) _ _ eg1) rfl (ma_goodc kc_Program_apart) (B.2.2.2.1 _ k_1544) (B.2.2.2.1 _ k_1545) (B.2.2.2.1 _ k_1546) (B.2.2.2.1 _ k_8) ⟨by decide +kernel, by decide +kernel, by decide +kernel⟩ rfl d_Weaver_areApart_26 rfl (Nat.le_of_ble_eq_true rfl) ⟨by decide, by decide⟩ ⟨by decide, by decide⟩ ⟨by decide, by decide⟩ (mv_noH hno _) (fun w26 σ26 h26 => ?_)
            obtain ⟨rfl, rfl, s_g1⟩ := h26
            have r_g1 : mv_r g1 = mv_r h := s_g1.trans r_hz
            refine mv_if_ne (pc := 29) (tgt := 49) B d_Weaver_areApart_29 rfl (fun h29 => ?_) (fun h29 => ?_)
            · skip
              have hf := xif_f h29 hf
              refine mv_iinc (pc := 49) (j := 2) (v := 1) B d_Weaver_areApart_49 rfl (by decide) (by decide) rfl ?_
              refine mv_goto (pc := 52) (tgt := 15) B d_Weaver_areApart_52 rfl ?_
              refine mv_lpick [1, 2, 0] rfl ?_
              exact ih15 _ _ _ r_g1 hf
            · skip
              have hf := xif_t h29 hf
              refine mv_aload_n (pc := 32) B d_Weaver_areApart_32 rfl 0 rfl ?_
              refine mv_getR (pc := 33) (ci := 1) (C := R_Weaver) (T := F_Weaver) (N := 16) B 2 rfl rfl (by decide) i_Weaver (B.2.2.2.1 _ k_230) rfl ((congrFun (congrFun r_g1 2) 2).trans (hb.1.1 2 2 _ rfl)) d_Weaver_areApart_33 ?_
              refine mv_iload_n (pc := 36) B d_Weaver_areApart_36 rfl 1 rfl ?_
              refine mv_bipush (pc := 37) (v := 7) B d_Weaver_areApart_37 (by decide) ?_
              obtain ⟨g3, eg3, hf⟩ := xhv_e hf
              refine mv_callVv (pc := 39) (n := 2) (ci := 5) (C := R_Faults) B (mK_ok sk sv) hNs rfl rfl (ch_Faults_tell l hi _ _ _ eg3) rfl (ma_goodc kc_Faults_tell) (B.2.2.2.1 _ k_1286) (B.2.2.2.1 _ k_1287) (B.2.2.2.1 _ k_1288) (B.2.2.2.1 _ k_6) ⟨by decide +kernel, by decide +kernel, by decide +kernel⟩ rfl d_Weaver_areApart_39 rfl (Nat.le_of_ble_eq_true rfl) ⟨by decide, by decide⟩ ⟨by decide, by decide⟩ ⟨by decide, by decide⟩ (mv_noH hno _) (fun σ39 h39 => ?_)
              obtain ⟨rfl, s_g3⟩ := h39
              have r_g3 : mv_r g3 = mv_r h := s_g3.trans r_g1
              refine mv_aload_n (pc := 42) B d_Weaver_areApart_42 rfl 0 rfl ?_
              refine mv_iload_n (pc := 43) B d_Weaver_areApart_43 rfl 2 rfl ?_
              refine mv_putI (pc := 44) (ci := 1) (C := R_Weaver) (T := F_Weaver) (N := 16) B 4 rfl rfl (by decide) i_Weaver t_Weaver_ok n_Weaver (B.2.2.2.1 _ k_233) rfl rfl rfl rfl d_Weaver_areApart_44 ?_
              refine mvh_hp (R9 := mv_r h) hf r_g3 (fun g4 hf r_g4 => ?_)
              refine mv_iconst (pc := 47) (v := 0) B d_Weaver_areApart_47 (by decide) ?_
              obtain ⟨q5, hf⟩ := xzb_e hf
              exact mv_iret (pc := 48) B hr (xzb_n q5) d_Weaver_areApart_48 (Nat.le_refl _) (Nat.le_refl _) ⟨_, rfl, xrh_i hf r_g4⟩
      have hf : fF_Weaver_areApart_2 48 (f_Weaver_areApart_2 48 nn2) x1 hz = some (rv, rg) := hf
      unfold fF_Weaver_areApart_2 at hf
      refine mv_iload_n (pc := 2) B d_Weaver_areApart_2 rfl 1 rfl ?_
      refine mv_aload_n (pc := 3) B d_Weaver_areApart_3 rfl 0 rfl ?_
      refine mv_getR (pc := 4) (ci := 1) (C := R_Weaver) (T := F_Weaver) (N := 16) B 5 rfl rfl (by decide) i_Weaver (B.2.2.2.1 _ k_235) rfl ((congrFun (congrFun r_hz 2) 5).trans hb.1.2.2.1) d_Weaver_areApart_4 ?_
      refine mv_getI (pc := 7) (ci := 7) (C := R_Program) (T := F_Program) (N := 19) B 10 rfl rfl (by decide) i_Program (B.2.2.2.1 _ k_347) rfl d_Weaver_areApart_7 ?_
      refine mv_icmp_ge (pc := 10) (tgt := 61) B d_Weaver_areApart_10 rfl (fun h10 => ?_) (fun h10 => ?_)
      · skip
        have hf := xif_t h10 hf
        refine mv_iconst (pc := 61) (v := 1) B d_Weaver_areApart_61 (by decide) ?_
        obtain ⟨q6, hf⟩ := xzb_e hf
        exact mv_iret (pc := 62) B hr (xzb_n q6) d_Weaver_areApart_62 (Nat.le_refl _) (Nat.le_refl _) ⟨_, rfl, xrh_i hf r_hz⟩
      · skip
        have hf := xif_f h10 hf
        refine mv_iconst (pc := 13) (v := 0) B d_Weaver_areApart_13 (by decide) ?_
        refine mv_istore_n (pc := 14) B d_Weaver_areApart_14 rfl (by decide) rfl ?_
        refine mv_lpick [1, 2, 0] rfl ?_
        exact lp15 _ _ _ _ r_hz hf
  unfold f_Weaver_areApart at hf
  refine mv_iconst (pc := 0) (v := 1) B d_Weaver_areApart_0 (by decide) ?_
  refine mv_istore_n (pc := 1) B d_Weaver_areApart_1 rfl (by decide) rfl ?_
  refine mv_lpick [1, 0] rfl ?_
  exact lp2 _ _ _ rfl hf
