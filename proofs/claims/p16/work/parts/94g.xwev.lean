/-! exact runs: Weaver -/
def g_Weaver_begin (h : xE) : Option xE := xev (g_Program_clear h) fun h1 => xev (g_Faults_clear h1) fun h2 => xwi h2 0 4294967295 fun h3 => xwi h3 6 0 fun h4 => xwi h4 1 0 fun h5 => some h5
set_option maxHeartbeats 4000000 in
set_option maxRecDepth 100000 in
theorem cx_Weaver_begin (l : Launch) {dA : FieldType → ClassId} {D : va_G} {al : Nat → Nat} {sk sv : Nat → Nat} (hi : mv_inj (mg dA D al me)) (b : mv_H) (hb : mh (mv_r b)) (h : xE) {rg : xE} (hf : g_Weaver_begin h = some rg) : mv_C l y_Weaver_begin (Cond.code y_Weaver_begin b_Weaver_begin 2 (Option.none : Option Jvm.ClassFile.FieldType) :: ma) ({ frames := 1, cells := 0, slots := 0, locals := 20 }) (mg dA D al me) (mK sk sv) [.ref (al 2), .ref (al 145)] (ab b h) (mv_Rv (fun σ1 => σ1 = ab (mv_sr (mv_sr b 2 5 (some 145)) 22 3 (some 145)) rg)) := by
  refine mv_C.ofV (cc := b_Weaver_begin) (nL := 2) (ret := (Option.none : Option Jvm.ClassFile.FieldType)) (by decide +kernel) rfl hi (Nat.le_of_ble_eq_true rfl) ?_
  intro p e s m below meth c B hNs hr hnm hno
  unfold g_Weaver_begin at hf
  refine mv_aload_n (pc := 0) B d_Weaver_begin_0 rfl 0 rfl ?_
  refine mv_aload_n (pc := 1) B d_Weaver_begin_1 rfl 1 rfl ?_
  refine mv_putR (pc := 2) (ci := 1) (C := R_Weaver) (T := F_Weaver) (N := 16) B 5 rfl rfl (by decide) i_Weaver t_Weaver_ok n_Weaver (B.2.2.2.1 _ k_235) rfl rfl d_Weaver_begin_2 ?_
  show mv_V _ _ _ _ _ _ _ _ _ _ _ _ _ _ _ (ab (mv_sr b 2 5 (some 145)) h) _ _ _
  have hb : mh (mv_r (mv_sr b 2 5 (some 145))) := mh_sr hb rfl
  refine mv_aload_n (pc := 5) B d_Weaver_begin_5 rfl 0 rfl ?_
  refine mv_getR (pc := 6) (ci := 1) (C := R_Weaver) (T := F_Weaver) (N := 16) B 5 rfl rfl (by decide) i_Weaver (B.2.2.2.1 _ k_235) rfl rfl d_Weaver_begin_6 ?_
  obtain ⟨h1, eh1, hf⟩ := xev_e hf
  refine mv_callVv (pc := 9) (n := 0) (ci := 7) (C := R_Program) B (mK_ok sk sv) hNs rfl rfl (cx_Program_clear l hi _ _ eh1) rfl (ma_goodc kc_Program_clear) (B.2.2.2.1 _ k_784) (B.2.2.2.1 _ k_407) (B.2.2.2.1 _ k_408) (B.2.2.2.1 _ k_8) ⟨by decide +kernel, by decide +kernel, by decide +kernel⟩ rfl d_Weaver_begin_9 rfl (Nat.le_of_ble_eq_true rfl) ⟨by decide, by decide⟩ ⟨by decide, by decide⟩ ⟨by decide, by decide⟩ (mv_noH hno _) (fun σ9 h9 => ?_)
  subst h9
  refine mv_aload_n (pc := 12) B d_Weaver_begin_12 rfl 0 rfl ?_
  refine mv_getR (pc := 13) (ci := 1) (C := R_Weaver) (T := F_Weaver) (N := 16) B 3 rfl rfl (by decide) i_Weaver (B.2.2.2.1 _ k_232) rfl (hb 2 3 _ rfl) d_Weaver_begin_13 ?_
  refine mv_aload_n (pc := 16) B d_Weaver_begin_16 rfl 1 rfl ?_
  refine mv_putR (pc := 17) (ci := 6) (C := R_Exprs) (T := F_Exprs) (N := 11) B 3 rfl rfl (by decide) i_Exprs t_Exprs_ok n_Exprs (B.2.2.2.1 _ k_196) rfl rfl d_Weaver_begin_17 ?_
  show mv_V _ _ _ _ _ _ _ _ _ _ _ _ _ _ _ (ab (mv_sr (mv_sr b 2 5 (some 145)) 22 3 (some 145)) h1) _ _ _
  have hb : mh (mv_r (mv_sr (mv_sr b 2 5 (some 145)) 22 3 (some 145))) := mh_sr hb rfl
  refine mv_aload_n (pc := 20) B d_Weaver_begin_20 rfl 0 rfl ?_
  refine mv_getR (pc := 21) (ci := 1) (C := R_Weaver) (T := F_Weaver) (N := 16) B 2 rfl rfl (by decide) i_Weaver (B.2.2.2.1 _ k_230) rfl (hb 2 2 _ rfl) d_Weaver_begin_21 ?_
  obtain ⟨h2, eh2, hf⟩ := xev_e hf
  refine mv_callVv (pc := 24) (n := 0) (ci := 5) (C := R_Faults) B (mK_ok sk sv) hNs rfl rfl (cx_Faults_clear l hi _ _ eh2) rfl (ma_goodc kc_Faults_clear) (B.2.2.2.1 _ k_785) (B.2.2.2.1 _ k_786) (B.2.2.2.1 _ k_787) (B.2.2.2.1 _ k_6) ⟨by decide +kernel, by decide +kernel, by decide +kernel⟩ rfl d_Weaver_begin_24 rfl (Nat.le_of_ble_eq_true rfl) ⟨by decide, by decide⟩ ⟨by decide, by decide⟩ ⟨by decide, by decide⟩ (mv_noH hno _) (fun σ24 h24 => ?_)
  subst h24
  refine mv_aload_n (pc := 27) B d_Weaver_begin_27 rfl 0 rfl ?_
  refine mv_iconst (pc := 28) (v := nI 4294967295) B d_Weaver_begin_28 (by decide) ?_
  refine mv_putI (pc := 29) (ci := 1) (C := R_Weaver) (T := F_Weaver) (N := 16) B 4 rfl rfl (by decide) i_Weaver t_Weaver_ok n_Weaver (B.2.2.2.1 _ k_233) rfl rfl rfl rfl d_Weaver_begin_29 ?_
  refine mvn_hp (xwi_2_4 _ _ _) (xwi_f hf) (fun h3 hf => ?_)
  refine mv_aload_n (pc := 32) B d_Weaver_begin_32 rfl 0 rfl ?_
  refine mv_iconst (pc := 33) (v := nI 0) B d_Weaver_begin_33 (by decide) ?_
  refine mv_putI (pc := 34) (ci := 1) (C := R_Weaver) (T := F_Weaver) (N := 16) B 15 rfl rfl (by decide) i_Weaver t_Weaver_ok n_Weaver (B.2.2.2.1 _ k_245) rfl rfl rfl rfl d_Weaver_begin_34 ?_
  refine mvn_hp (xwi_2_15 _ _ _) (xwi_f hf) (fun h4 hf => ?_)
  refine mv_aload_n (pc := 37) B d_Weaver_begin_37 rfl 0 rfl ?_
  refine mv_iconst (pc := 38) (v := nI 0) B d_Weaver_begin_38 (by decide) ?_
  refine mv_putI (pc := 39) (ci := 1) (C := R_Weaver) (T := F_Weaver) (N := 16) B 6 rfl rfl (by decide) i_Weaver t_Weaver_ok n_Weaver (B.2.2.2.1 _ k_236) rfl rfl rfl rfl d_Weaver_begin_39 ?_
  refine mvn_hp (xwi_2_6 _ _ _) (xwi_f hf) (fun h5 hf => ?_)
  exact mv_vret (pc := 42) B hr d_Weaver_begin_42 (Nat.le_refl _) (Nat.le_refl _) ⟨rfl, xret_v hf⟩
def g_Weaver_tell (h : xE) (a0 : Nat) (a1 : Nat) : Option xE := bif Nat.blt a0 32770 then xer (ep_g (xL_5 h.2) a0) fun v2 => xev (g_Faults_tell h v2 a1) fun h3 => some h3 else none
set_option maxHeartbeats 4000000 in
set_option maxRecDepth 100000 in
theorem cx_Weaver_tell (l : Launch) {dA : FieldType → ClassId} {D : va_G} {al : Nat → Nat} {sk sv : Nat → Nat} (hi : mv_inj (mg dA D al me)) (b : mv_H) (hb : xR (mv_r b)) (h : xE) (a0 : Nat) (a1 : Nat) {rg : xE} (hf : g_Weaver_tell h a0 a1 = some rg) : mv_C l y_Weaver_tell (Cond.code y_Weaver_tell b_Weaver_tell 3 (Option.none : Option Jvm.ClassFile.FieldType) :: ma) ({ frames := 1, cells := 0, slots := 0, locals := 22 }) (mg dA D al me) (mK sk sv) [.ref (al 2), .int (nI a0), .int (nI a1)] (ab b h) (mv_Rv (fun σ1 => σ1 = ab b rg)) := by
  refine mv_C.ofV (cc := b_Weaver_tell) (nL := 3) (ret := (Option.none : Option Jvm.ClassFile.FieldType)) (by decide +kernel) rfl hi (Nat.le_of_ble_eq_true rfl) ?_
  intro p e s m below meth c B hNs hr hnm hno
  unfold g_Weaver_tell at hf
  refine mv_aload_n (pc := 0) B d_Weaver_tell_0 rfl 0 rfl ?_
  refine mv_getR (pc := 1) (ci := 1) (C := R_Weaver) (T := F_Weaver) (N := 16) B 2 rfl rfl (by decide) i_Weaver (B.2.2.2.1 _ k_230) rfl (hb.1.1 2 2 _ rfl) d_Weaver_tell_1 ?_
  refine mv_aload_n (pc := 4) B d_Weaver_tell_4 rfl 0 rfl ?_
  refine mv_getR (pc := 5) (ci := 1) (C := R_Weaver) (T := F_Weaver) (N := 16) B 0 rfl rfl (by decide) i_Weaver (B.2.2.2.1 _ k_228) rfl (hb.1.1 2 0 _ rfl) d_Weaver_tell_5 ?_
  refine mv_getR (pc := 8) (ci := 2) (C := R_Tokens) (T := F_Tokens) (N := 10) B 1 rfl rfl (by decide) i_Tokens (B.2.2.2.1 _ k_91) rfl (hb.1.1 3 1 _ rfl) d_Weaver_tell_8 ?_
  refine mv_iload_n (pc := 11) B d_Weaver_tell_11 rfl 1 rfl ?_
  obtain ⟨q1, hf⟩ := xix_e hf
  refine mv_iald (pc := 12) B rfl (xin q1 (by decide)) d_Weaver_tell_12 ?_
  obtain ⟨v2, ev2, hf⟩ := xer_e hf
  refine mvn_top (xfa_5 q1 ev2) ?_
  refine mv_iload_n (pc := 13) B d_Weaver_tell_13 rfl 2 rfl ?_
  obtain ⟨h3, eh3, hf⟩ := xev_e hf
  refine mv_callVv (pc := 14) (n := 2) (ci := 5) (C := R_Faults) B (mK_ok sk sv) hNs rfl rfl (cx_Faults_tell l hi _ _ _ _ eh3) rfl (ma_goodc kc_Faults_tell) (B.2.2.2.1 _ k_1286) (B.2.2.2.1 _ k_1287) (B.2.2.2.1 _ k_1288) (B.2.2.2.1 _ k_6) ⟨by decide +kernel, by decide +kernel, by decide +kernel⟩ rfl d_Weaver_tell_14 rfl (Nat.le_of_ble_eq_true rfl) ⟨by decide, by decide⟩ ⟨by decide, by decide⟩ ⟨by decide, by decide⟩ (mv_noH hno _) (fun σ14 h14 => ?_)
  subst h14
  exact mv_vret (pc := 17) B hr d_Weaver_tell_17 (Nat.le_refl _) (Nat.le_refl _) ⟨rfl, xret_v hf⟩
def g_Weaver_symbolOf (h : xE) (a0 : Nat) : Option (Nat × xE) := bif Nat.blt a0 32770 then xer (ep_g (xL_6 h.2) a0) fun v2 => some ((v2 % 4294967296), h) else none
set_option maxHeartbeats 4000000 in
set_option maxRecDepth 100000 in
theorem cx_Weaver_symbolOf (l : Launch) {dA : FieldType → ClassId} {D : va_G} {al : Nat → Nat} {sk sv : Nat → Nat} (hi : mv_inj (mg dA D al me)) (b : mv_H) (hb : xR (mv_r b)) (h : xE) (a0 : Nat) {rv : Nat} {rg : xE} (hf : g_Weaver_symbolOf h a0 = some (rv, rg)) : mv_C l y_Weaver_symbolOf (Cond.code y_Weaver_symbolOf b_Weaver_symbolOf 2 (Option.some Jvm.ClassFile.FieldType.int) :: ma) ({ frames := 0, cells := 0, slots := 0, locals := 0 }) (mg dA D al me) (mK sk sv) [.ref (al 2), .int (nI a0)] (ab b h) (mv_Ri (fun v σ1 => v = nI rv ∧ σ1 = ab b rg)) := by
  refine mv_C.ofV (cc := b_Weaver_symbolOf) (nL := 2) (ret := (Option.some Jvm.ClassFile.FieldType.int)) (by decide +kernel) rfl hi (Nat.le_of_ble_eq_true rfl) ?_
  intro p e s m below meth c B hNs hr hnm hno
  unfold g_Weaver_symbolOf at hf
  refine mv_aload_n (pc := 0) B d_Weaver_symbolOf_0 rfl 0 rfl ?_
  refine mv_getR (pc := 1) (ci := 1) (C := R_Weaver) (T := F_Weaver) (N := 16) B 0 rfl rfl (by decide) i_Weaver (B.2.2.2.1 _ k_228) rfl (hb.1.1 2 0 _ rfl) d_Weaver_symbolOf_1 ?_
  refine mv_getR (pc := 4) (ci := 2) (C := R_Tokens) (T := F_Tokens) (N := 10) B 2 rfl rfl (by decide) i_Tokens (B.2.2.2.1 _ k_94) rfl (hb.1.1 3 2 _ rfl) d_Weaver_symbolOf_4 ?_
  refine mv_iload_n (pc := 7) B d_Weaver_symbolOf_7 rfl 1 rfl ?_
  obtain ⟨q1, hf⟩ := xix_e hf
  refine mv_lald (pc := 8) B rfl (xin q1 (by decide)) d_Weaver_symbolOf_8 ?_
  obtain ⟨v2, ev2, hf⟩ := xer_e hf
  refine mvn_topl (xfb_6 q1 ev2) ?_
  refine mvn_l2i (pc := 9) B d_Weaver_symbolOf_9 ?_
  exact mv_iret (pc := 10) B hr rfl d_Weaver_symbolOf_10 (Nat.le_refl _) (Nat.le_refl _) ⟨_, rfl, xret_i hf⟩
def g_Weaver_numberUpTo_23 (x1 : Nat) (h : xE) : Option (Nat × xE) := xev (g_Weaver_tell h x1 3) fun h1 => some (0, h1)
def g_Weaver_numberUpTo (h : xE) (a0 : Nat) (a1 : Nat) : Option (Nat × xE) := bif Nat.blt a0 32770 then xer (ep_g (xL_6 h.2) a0) fun v3 => bif xlt (ycmp v3 1) 0 then (g_Weaver_numberUpTo_23 a0 h) else (bif xlt 0 (ycmp v3 (xi2l a1)) then (g_Weaver_numberUpTo_23 a0 h) else (some ((v3 % 4294967296), h))) else none
set_option maxHeartbeats 4000000 in
set_option maxRecDepth 100000 in
theorem cx_Weaver_numberUpTo (l : Launch) {dA : FieldType → ClassId} {D : va_G} {al : Nat → Nat} {sk sv : Nat → Nat} (hi : mv_inj (mg dA D al me)) (b : mv_H) (hb : xR (mv_r b)) (h : xE) (a0 : Nat) (a1 : Nat) {rv : Nat} {rg : xE} (hf : g_Weaver_numberUpTo h a0 a1 = some (rv, rg)) : mv_C l y_Weaver_numberUpTo (Cond.code y_Weaver_numberUpTo b_Weaver_numberUpTo 5 (Option.some Jvm.ClassFile.FieldType.int) :: ma) ({ frames := 2, cells := 0, slots := 0, locals := 44 }) (mg dA D al me) (mK sk sv) [.ref (al 2), .int (nI a0), .int (nI a1)] (ab b h) (mv_Ri (fun v σ1 => v = nI rv ∧ σ1 = ab b rg)) := by
  refine mv_C.ofV (cc := b_Weaver_numberUpTo) (nL := 5) (ret := (Option.some Jvm.ClassFile.FieldType.int)) (by decide +kernel) rfl hi (Nat.le_of_ble_eq_true rfl) ?_
  intro p e s m below meth c B hNs hr hnm hno
  have jn23 : ∀ (x1 : Nat) (h : xE), g_Weaver_numberUpTo_23 x1 h = some (rv, rg) → mv_V p l e ({ frames := 2, cells := 0, slots := 0, locals := 44 }) s m ([.ref (al 2), .int (nI a0), .int (nI a1)] : List Value).toArray below meth c (mg dA D al me) 5 0 0 (mv_Q (mg dA D al me) below s 0 0 (mv_Ri (fun v σ1 => v = nI rv ∧ σ1 = ab b rg))) (ab b h) 23 [(0, .ref (al 2)), (1, .int (nI x1))] [] := by
    intro x1 h hf
    unfold g_Weaver_numberUpTo_23 at hf
    refine mv_aload_n (pc := 23) B d_Weaver_numberUpTo_23 rfl 0 rfl ?_
    refine mv_iload_n (pc := 24) B d_Weaver_numberUpTo_24 rfl 1 rfl ?_
    refine mv_iconst (pc := 25) (v := nI 3) B d_Weaver_numberUpTo_25 (by decide) ?_
    obtain ⟨h1, eh1, hf⟩ := xev_e hf
    refine mv_callVv (pc := 26) (n := 2) (ci := 1) (C := R_Weaver) B (mK_ok sk sv) hNs rfl rfl (cx_Weaver_tell l hi _ hb _ _ _ eh1) rfl (ma_goodc kc_Weaver_tell) (B.2.2.2.1 _ k_1282) (B.2.2.2.1 _ k_1284) (B.2.2.2.1 _ ks_32) (B.2.2.2.1 _ k_2) ⟨by decide +kernel, by decide +kernel, by decide +kernel⟩ rfl d_Weaver_numberUpTo_26 rfl (Nat.le_of_ble_eq_true rfl) ⟨by decide, by decide⟩ ⟨by decide, by decide⟩ ⟨by decide, by decide⟩ (mv_noH hno _) (fun σ26 h26 => ?_)
    subst h26
    refine mv_iconst (pc := 29) (v := nI 0) B d_Weaver_numberUpTo_29 (by decide) ?_
    exact mv_iret (pc := 30) B hr rfl d_Weaver_numberUpTo_30 (Nat.le_refl _) (Nat.le_refl _) ⟨_, rfl, xret_i hf⟩
  unfold g_Weaver_numberUpTo at hf
  refine mv_aload_n (pc := 0) B d_Weaver_numberUpTo_0 rfl 0 rfl ?_
  refine mv_getR (pc := 1) (ci := 1) (C := R_Weaver) (T := F_Weaver) (N := 16) B 0 rfl rfl (by decide) i_Weaver (B.2.2.2.1 _ k_228) rfl (hb.1.1 2 0 _ rfl) d_Weaver_numberUpTo_1 ?_
  refine mv_getR (pc := 4) (ci := 2) (C := R_Tokens) (T := F_Tokens) (N := 10) B 2 rfl rfl (by decide) i_Tokens (B.2.2.2.1 _ k_94) rfl (hb.1.1 3 2 _ rfl) d_Weaver_numberUpTo_4 ?_
  refine mv_iload_n (pc := 7) B d_Weaver_numberUpTo_7 rfl 1 rfl ?_
  obtain ⟨q2, hf⟩ := xix_e hf
  refine mv_lald (pc := 8) B rfl (xin q2 (by decide)) d_Weaver_numberUpTo_8 ?_
  obtain ⟨v3, ev3, hf⟩ := xer_e hf
  refine mvn_topl (xfb_6 q2 ev3) ?_
  refine mv_lstore_n (pc := 9) B d_Weaver_numberUpTo_9 rfl (by decide) rfl ?_
  refine mv_lload_n (pc := 10) B d_Weaver_numberUpTo_10 rfl 0 rfl ?_
  refine mv_lconst (pc := 11) (v := nJ 1) B d_Weaver_numberUpTo_11 (by decide) ?_
  refine mvn_lcmp (pc := 12) B d_Weaver_numberUpTo_12 ?_
  refine mv_if_lt (pc := 13) (tgt := 23) B d_Weaver_numberUpTo_13 rfl (fun h13 => ?_) (fun h13 => ?_)
  · skip
    have hf := x_lt_t (y := 0) h13 hf
    refine mv_lpick [1, 2] rfl ?_
    exact jn23 _ _ hf
  · skip
    have hf := x_lt_f (y := 0) h13 hf
    refine mv_lload_n (pc := 16) B d_Weaver_numberUpTo_16 rfl 0 rfl ?_
    refine mv_iload_n (pc := 17) B d_Weaver_numberUpTo_17 rfl 3 rfl ?_
    refine mvn_i2l (pc := 18) B d_Weaver_numberUpTo_18 ?_
    refine mvn_lcmp (pc := 19) B d_Weaver_numberUpTo_19 ?_
    refine mv_if_le (pc := 20) (tgt := 31) B d_Weaver_numberUpTo_20 rfl (fun h20 => ?_) (fun h20 => ?_)
    · skip
      have hf := x_le_t (y := 0) h20 hf
      refine mv_lload_n (pc := 31) B d_Weaver_numberUpTo_31 rfl 0 rfl ?_
      refine mvn_l2i (pc := 32) B d_Weaver_numberUpTo_32 ?_
      exact mv_iret (pc := 33) B hr rfl d_Weaver_numberUpTo_33 (Nat.le_refl _) (Nat.le_refl _) ⟨_, rfl, xret_i hf⟩
    · skip
      have hf := x_le_f (y := 0) h20 hf
      refine mv_lpick [1, 2] rfl ?_
      exact jn23 _ _ hf
def g_Weaver_isNew_49 (x1 : Nat) (h : xE) : Option (Nat × xE) := xev (g_Weaver_tell h x1 6) fun h1 => bif Nat.blt 0 2 then some (0, h1) else none
def g_Weaver_isNew (h : xE) (a0 : Nat) (a1 : Nat) : Option (Nat × xE) := xeb (g_Weaver_symbolOf h a0) fun v4 h3 => xeb (g_Names_kindOf h3 v4) fun v6 h5 => bif xeq v6 0 then (xer (ep_g h5.1 21) fun v7 => bif xeq v7 64 then (g_Weaver_isNew_49 a0 h5) else (xer (ep_g h5.1 23) fun v8 => bif xlt 65536 (xadd v8 a1) then (g_Weaver_isNew_49 a0 h5) else (bif Nat.blt 1 2 then some (1, h5) else none))) else (xev (g_Weaver_tell h5 a0 2) fun h10 => bif Nat.blt 0 2 then some (0, h10) else none)
set_option maxHeartbeats 4000000 in
set_option maxRecDepth 100000 in
theorem cx_Weaver_isNew (l : Launch) {dA : FieldType → ClassId} {D : va_G} {al : Nat → Nat} {sk sv : Nat → Nat} (hi : mv_inj (mg dA D al me)) (b : mv_H) (hb : xR (mv_r b)) (h : xE) (a0 : Nat) (a1 : Nat) {rv : Nat} {rg : xE} (hf : g_Weaver_isNew h a0 a1 = some (rv, rg)) : mv_C l y_Weaver_isNew (Cond.code y_Weaver_isNew b_Weaver_isNew 3 (Option.some Jvm.ClassFile.FieldType.boolean) :: ma) ({ frames := 2, cells := 0, slots := 0, locals := 44 }) (mg dA D al me) (mK sk sv) [.ref (al 2), .int (nI a0), .int (nI a1)] (ab b h) (mv_Ri (fun v σ1 => v = nI rv ∧ σ1 = ab b rg)) := by
  refine mv_C.ofV (cc := b_Weaver_isNew) (nL := 3) (ret := (Option.some Jvm.ClassFile.FieldType.boolean)) (by decide +kernel) rfl hi (Nat.le_of_ble_eq_true rfl) ?_
  intro p e s m below meth c B hNs hr hnm hno
  have jn49 : ∀ (x1 : Nat) (h : xE), g_Weaver_isNew_49 x1 h = some (rv, rg) → mv_V p l e ({ frames := 2, cells := 0, slots := 0, locals := 44 }) s m ([.ref (al 2), .int (nI a0), .int (nI a1)] : List Value).toArray below meth c (mg dA D al me) 3 0 0 (mv_Q (mg dA D al me) below s 0 0 (mv_Ri (fun v σ1 => v = nI rv ∧ σ1 = ab b rg))) (ab b h) 49 [(0, .ref (al 2)), (1, .int (nI x1))] [] := by
    intro x1 h hf
    unfold g_Weaver_isNew_49 at hf
    refine mv_aload_n (pc := 49) B d_Weaver_isNew_49 rfl 0 rfl ?_
    refine mv_iload_n (pc := 50) B d_Weaver_isNew_50 rfl 1 rfl ?_
    refine mv_bipush (pc := 51) (v := nI 6) B d_Weaver_isNew_51 (by decide) ?_
    obtain ⟨h1, eh1, hf⟩ := xev_e hf
    refine mv_callVv (pc := 53) (n := 2) (ci := 1) (C := R_Weaver) B (mK_ok sk sv) hNs rfl rfl (cx_Weaver_tell l hi _ hb _ _ _ eh1) rfl (ma_goodc kc_Weaver_tell) (B.2.2.2.1 _ k_1282) (B.2.2.2.1 _ k_1284) (B.2.2.2.1 _ ks_32) (B.2.2.2.1 _ k_2) ⟨by decide +kernel, by decide +kernel, by decide +kernel⟩ rfl d_Weaver_isNew_53 rfl (Nat.le_of_ble_eq_true rfl) ⟨by decide, by decide⟩ ⟨by decide, by decide⟩ ⟨by decide, by decide⟩ (mv_noH hno _) (fun σ53 h53 => ?_)
    subst h53
    refine mv_iconst (pc := 56) (v := nI 0) B d_Weaver_isNew_56 (by decide) ?_
    obtain ⟨q2, hf⟩ := xix_e hf
    exact mv_iret (pc := 57) B hr (xz1 q2) d_Weaver_isNew_57 (Nat.le_refl _) (Nat.le_refl _) ⟨_, rfl, xret_i hf⟩
  unfold g_Weaver_isNew at hf
  refine mv_aload_n (pc := 0) B d_Weaver_isNew_0 rfl 0 rfl ?_
  refine mv_getR (pc := 1) (ci := 1) (C := R_Weaver) (T := F_Weaver) (N := 16) B 1 rfl rfl (by decide) i_Weaver (B.2.2.2.1 _ k_229) rfl (hb.1.1 2 1 _ rfl) d_Weaver_isNew_1 ?_
  refine mv_aload_n (pc := 4) B d_Weaver_isNew_4 rfl 0 rfl ?_
  refine mv_iload_n (pc := 5) B d_Weaver_isNew_5 rfl 1 rfl ?_
  obtain ⟨v4, h3, eh3, hf⟩ := xeb_e hf
  refine mv_callVi (pc := 6) (n := 1) (ci := 1) (C := R_Weaver) B (mK_ok sk sv) hNs rfl rfl (cx_Weaver_symbolOf l hi _ hb _ _ eh3) rfl (ma_goodc kc_Weaver_symbolOf) (B.2.2.2.1 _ k_1312) (B.2.2.2.1 _ k_1314) (B.2.2.2.1 _ ks_37) (B.2.2.2.1 _ k_2) ⟨by decide +kernel, by decide +kernel, by decide +kernel⟩ rfl d_Weaver_isNew_6 rfl (Nat.le_of_ble_eq_true rfl) ⟨by decide, by decide⟩ ⟨by decide, by decide⟩ ⟨by decide, by decide⟩ (mv_noH hno _) (fun w6 σ6 h6 => ?_)
  obtain ⟨rfl, rfl⟩ := h6
  obtain ⟨v6, h5, eh5, hf⟩ := xeb_e hf
  refine mv_callVi (pc := 9) (n := 1) (ci := 4) (C := R_Names) B (mK_ok sk sv) hNs rfl rfl (cx_Names_kindOf l hi _ hb _ _ eh5) rfl (ma_goodc kc_Names_kindOf) (B.2.2.2.1 _ k_1316) (B.2.2.2.1 _ k_1317) (B.2.2.2.1 _ k_1318) (B.2.2.2.1 _ k_5) ⟨by decide +kernel, by decide +kernel, by decide +kernel⟩ rfl d_Weaver_isNew_9 rfl (Nat.le_of_ble_eq_true rfl) ⟨by decide, by decide⟩ ⟨by decide, by decide⟩ ⟨by decide, by decide⟩ (mv_noH hno _) (fun w9 σ9 h9 => ?_)
  obtain ⟨rfl, rfl⟩ := h9
  refine mv_if_eq (pc := 12) (tgt := 23) B d_Weaver_isNew_12 rfl (fun h12 => ?_) (fun h12 => ?_)
  · skip
    have hf := x_eq_t (y := 0) h12 hf
    refine mv_aload_n (pc := 23) B d_Weaver_isNew_23 rfl 0 rfl ?_
    refine mv_getR (pc := 24) (ci := 1) (C := R_Weaver) (T := F_Weaver) (N := 16) B 5 rfl rfl (by decide) i_Weaver (B.2.2.2.1 _ k_235) rfl hb.1.2.2.1 d_Weaver_isNew_24 ?_
    refine mv_getI (pc := 27) (ci := 7) (C := R_Program) (T := F_Program) (N := 19) B 1 rfl rfl (by decide) i_Program (B.2.2.2.1 _ k_316) rfl d_Weaver_isNew_27 ?_
    obtain ⟨v7, ev7, hf⟩ := xer_e hf
    refine mvn_top (xfi_145_1 ev7) ?_
    refine mv_bipush (pc := 30) (v := nI 64) B d_Weaver_isNew_30 (by decide) ?_
    refine mv_icmp_eq (pc := 32) (tgt := 49) B d_Weaver_isNew_32 rfl (fun h32 => ?_) (fun h32 => ?_)
    · skip
      have hf := x_eq_t h32 hf
      refine mv_lpick [0, 1] rfl ?_
      exact jn49 _ _ hf
    · skip
      have hf := x_eq_f h32 hf
      refine mv_aload_n (pc := 35) B d_Weaver_isNew_35 rfl 0 rfl ?_
      refine mv_getR (pc := 36) (ci := 1) (C := R_Weaver) (T := F_Weaver) (N := 16) B 5 rfl rfl (by decide) i_Weaver (B.2.2.2.1 _ k_235) rfl hb.1.2.2.1 d_Weaver_isNew_36 ?_
      refine mv_getI (pc := 39) (ci := 7) (C := R_Program) (T := F_Program) (N := 19) B 7 rfl rfl (by decide) i_Program (B.2.2.2.1 _ k_335) rfl d_Weaver_isNew_39 ?_
      obtain ⟨v8, ev8, hf⟩ := xer_e hf
      refine mvn_top (xfi_145_7 ev8) ?_
      refine mv_iload_n (pc := 42) B d_Weaver_isNew_42 rfl 2 rfl ?_
      refine mvn_iadd (pc := 43) B d_Weaver_isNew_43 ?_
      refine mv_ldc (pc := 44) (v := 65536) B (B.2.2.2.1 _ k_1324) d_Weaver_isNew_44 ?_
      refine mvn_top (n := 65536) (by decide) ?_
      refine mv_icmp_le (pc := 46) (tgt := 58) B d_Weaver_isNew_46 rfl (fun h46 => ?_) (fun h46 => ?_)
      · skip
        have hf := x_le_t h46 hf
        refine mv_iconst (pc := 58) (v := nI 1) B d_Weaver_isNew_58 (by decide) ?_
        obtain ⟨q9, hf⟩ := xix_e hf
        exact mv_iret (pc := 59) B hr (xz1 q9) d_Weaver_isNew_59 (Nat.le_refl _) (Nat.le_refl _) ⟨_, rfl, xret_i hf⟩
      · skip
        have hf := x_le_f h46 hf
        refine mv_lpick [0, 1] rfl ?_
        exact jn49 _ _ hf
  · skip
    have hf := x_eq_f (y := 0) h12 hf
    refine mv_aload_n (pc := 15) B d_Weaver_isNew_15 rfl 0 rfl ?_
    refine mv_iload_n (pc := 16) B d_Weaver_isNew_16 rfl 1 rfl ?_
    refine mv_iconst (pc := 17) (v := nI 2) B d_Weaver_isNew_17 (by decide) ?_
    obtain ⟨h10, eh10, hf⟩ := xev_e hf
    refine mv_callVv (pc := 18) (n := 2) (ci := 1) (C := R_Weaver) B (mK_ok sk sv) hNs rfl rfl (cx_Weaver_tell l hi _ hb _ _ _ eh10) rfl (ma_goodc kc_Weaver_tell) (B.2.2.2.1 _ k_1282) (B.2.2.2.1 _ k_1284) (B.2.2.2.1 _ ks_32) (B.2.2.2.1 _ k_2) ⟨by decide +kernel, by decide +kernel, by decide +kernel⟩ rfl d_Weaver_isNew_18 rfl (Nat.le_of_ble_eq_true rfl) ⟨by decide, by decide⟩ ⟨by decide, by decide⟩ ⟨by decide, by decide⟩ (mv_noH hno _) (fun σ18 h18 => ?_)
    subst h18
    refine mv_iconst (pc := 21) (v := nI 0) B d_Weaver_isNew_21 (by decide) ?_
    obtain ⟨q11, hf⟩ := xix_e hf
    exact mv_iret (pc := 22) B hr (xz1 q11) d_Weaver_isNew_22 (Nat.le_refl _) (Nat.le_refl _) ⟨_, rfl, xret_i hf⟩
def g_Weaver_register (h : xE) : Option xE := xeb (g_Tokens_take h 201) fun v2 h1 => xeb (g_Tokens_take h1 3) fun v4 h3 => xeb (g_Tokens_take h3 58) fun v6 h5 => xeb (g_Tokens_take h5 4) fun v8 h7 => xeb (g_Weaver_numberUpTo h7 v8 64) fun v10 h9 => xeb (g_Tokens_take h9 59) fun v12 h11 => xeb (g_Tokens_right h11) fun v14 h13 => bif xeq v14 0 then (some h13) else (xeb (g_Weaver_isNew h13 v4 0) fun v16 h15 => bif xeq v16 0 then (some h15) else (xeb (g_Weaver_symbolOf h15 v4) fun v18 h17 => xer (ep_g h17.1 21) fun v19 => xev (g_Names_know h17 v18 1 v19) fun h20 => xev (g_Program_addThing h20 v10 0 0) fun h21 => some h21))
set_option maxHeartbeats 4000000 in
set_option maxRecDepth 100000 in
theorem cx_Weaver_register (l : Launch) {dA : FieldType → ClassId} {D : va_G} {al : Nat → Nat} {sk sv : Nat → Nat} (hi : mv_inj (mg dA D al me)) (b : mv_H) (hb : xR (mv_r b)) (h : xE) {rg : xE} (hf : g_Weaver_register h = some rg) : mv_C l y_Weaver_register (Cond.code y_Weaver_register b_Weaver_register 3 (Option.none : Option Jvm.ClassFile.FieldType) :: ma) ({ frames := 3, cells := 0, slots := 0, locals := 68 }) (mg dA D al me) (mK sk sv) [.ref (al 2)] (ab b h) (mv_Rv (fun σ1 => σ1 = ab b rg)) := by
  refine mv_C.ofV (cc := b_Weaver_register) (nL := 3) (ret := (Option.none : Option Jvm.ClassFile.FieldType)) (by decide +kernel) rfl hi (Nat.le_of_ble_eq_true rfl) ?_
  intro p e s m below meth c B hNs hr hnm hno
  unfold g_Weaver_register at hf
  refine mv_aload_n (pc := 0) B d_Weaver_register_0 rfl 0 rfl ?_
  refine mv_getR (pc := 1) (ci := 1) (C := R_Weaver) (T := F_Weaver) (N := 16) B 0 rfl rfl (by decide) i_Weaver (B.2.2.2.1 _ k_228) rfl (hb.1.1 2 0 _ rfl) d_Weaver_register_1 ?_
  refine mv_sipush (pc := 4) (v := nI 201) B d_Weaver_register_4 (by decide) ?_
  obtain ⟨v2, h1, eh1, hf⟩ := xeb_e hf
  refine mv_callVi (pc := 7) (n := 1) (ci := 2) (C := R_Tokens) B (mK_ok sk sv) hNs rfl rfl (cx_Tokens_take l hi _ hb _ _ eh1) rfl (ma_goodc kc_Tokens_take) (B.2.2.2.1 _ k_1266) (B.2.2.2.1 _ k_1267) (B.2.2.2.1 _ k_1268) (B.2.2.2.1 _ k_3) ⟨by decide +kernel, by decide +kernel, by decide +kernel⟩ rfl d_Weaver_register_7 rfl (Nat.le_of_ble_eq_true rfl) ⟨by decide, by decide⟩ ⟨by decide, by decide⟩ ⟨by decide, by decide⟩ (mv_noH hno _) (fun w7 σ7 h7 => ?_)
  obtain ⟨rfl, rfl⟩ := h7
  refine mv_pop (pc := 10) B d_Weaver_register_10 rfl ?_
  refine mv_aload_n (pc := 11) B d_Weaver_register_11 rfl 0 rfl ?_
  refine mv_getR (pc := 12) (ci := 1) (C := R_Weaver) (T := F_Weaver) (N := 16) B 0 rfl rfl (by decide) i_Weaver (B.2.2.2.1 _ k_228) rfl (hb.1.1 2 0 _ rfl) d_Weaver_register_12 ?_
  refine mv_iconst (pc := 15) (v := nI 3) B d_Weaver_register_15 (by decide) ?_
  obtain ⟨v4, h3, eh3, hf⟩ := xeb_e hf
  refine mv_callVi (pc := 16) (n := 1) (ci := 2) (C := R_Tokens) B (mK_ok sk sv) hNs rfl rfl (cx_Tokens_take l hi _ hb _ _ eh3) rfl (ma_goodc kc_Tokens_take) (B.2.2.2.1 _ k_1266) (B.2.2.2.1 _ k_1267) (B.2.2.2.1 _ k_1268) (B.2.2.2.1 _ k_3) ⟨by decide +kernel, by decide +kernel, by decide +kernel⟩ rfl d_Weaver_register_16 rfl (Nat.le_of_ble_eq_true rfl) ⟨by decide, by decide⟩ ⟨by decide, by decide⟩ ⟨by decide, by decide⟩ (mv_noH hno _) (fun w16 σ16 h16 => ?_)
  obtain ⟨rfl, rfl⟩ := h16
  refine mv_istore_n (pc := 19) B d_Weaver_register_19 rfl (by decide) rfl ?_
  refine mv_aload_n (pc := 20) B d_Weaver_register_20 rfl 1 rfl ?_
  refine mv_getR (pc := 21) (ci := 1) (C := R_Weaver) (T := F_Weaver) (N := 16) B 0 rfl rfl (by decide) i_Weaver (B.2.2.2.1 _ k_228) rfl (hb.1.1 2 0 _ rfl) d_Weaver_register_21 ?_
  refine mv_bipush (pc := 24) (v := nI 58) B d_Weaver_register_24 (by decide) ?_
  obtain ⟨v6, h5, eh5, hf⟩ := xeb_e hf
  refine mv_callVi (pc := 26) (n := 1) (ci := 2) (C := R_Tokens) B (mK_ok sk sv) hNs rfl rfl (cx_Tokens_take l hi _ hb _ _ eh5) rfl (ma_goodc kc_Tokens_take) (B.2.2.2.1 _ k_1266) (B.2.2.2.1 _ k_1267) (B.2.2.2.1 _ k_1268) (B.2.2.2.1 _ k_3) ⟨by decide +kernel, by decide +kernel, by decide +kernel⟩ rfl d_Weaver_register_26 rfl (Nat.le_of_ble_eq_true rfl) ⟨by decide, by decide⟩ ⟨by decide, by decide⟩ ⟨by decide, by decide⟩ (mv_noH hno _) (fun w26 σ26 h26 => ?_)
  obtain ⟨rfl, rfl⟩ := h26
  refine mv_pop (pc := 29) B d_Weaver_register_29 rfl ?_
  refine mv_aload_n (pc := 30) B d_Weaver_register_30 rfl 1 rfl ?_
  refine mv_aload_n (pc := 31) B d_Weaver_register_31 rfl 1 rfl ?_
  refine mv_getR (pc := 32) (ci := 1) (C := R_Weaver) (T := F_Weaver) (N := 16) B 0 rfl rfl (by decide) i_Weaver (B.2.2.2.1 _ k_228) rfl (hb.1.1 2 0 _ rfl) d_Weaver_register_32 ?_
  refine mv_iconst (pc := 35) (v := nI 4) B d_Weaver_register_35 (by decide) ?_
  obtain ⟨v8, h7, eh7, hf⟩ := xeb_e hf
  refine mv_callVi (pc := 36) (n := 1) (ci := 2) (C := R_Tokens) B (mK_ok sk sv) hNs rfl rfl (cx_Tokens_take l hi _ hb _ _ eh7) rfl (ma_goodc kc_Tokens_take) (B.2.2.2.1 _ k_1266) (B.2.2.2.1 _ k_1267) (B.2.2.2.1 _ k_1268) (B.2.2.2.1 _ k_3) ⟨by decide +kernel, by decide +kernel, by decide +kernel⟩ rfl d_Weaver_register_36 rfl (Nat.le_of_ble_eq_true rfl) ⟨by decide, by decide⟩ ⟨by decide, by decide⟩ ⟨by decide, by decide⟩ (mv_noH hno _) (fun w36 σ36 h36 => ?_)
  obtain ⟨rfl, rfl⟩ := h36
  refine mv_bipush (pc := 39) (v := nI 64) B d_Weaver_register_39 (by decide) ?_
  obtain ⟨v10, h9, eh9, hf⟩ := xeb_e hf
  refine mv_callVi (pc := 41) (n := 2) (ci := 1) (C := R_Weaver) B (mK_ok sk sv) hNs rfl rfl (cx_Weaver_numberUpTo l hi _ hb _ _ _ eh9) rfl (ma_goodc kc_Weaver_numberUpTo) (B.2.2.2.1 _ k_1304) (B.2.2.2.1 _ k_1306) (B.2.2.2.1 _ ks_35) (B.2.2.2.1 _ k_2) ⟨by decide +kernel, by decide +kernel, by decide +kernel⟩ rfl d_Weaver_register_41 rfl (Nat.le_of_ble_eq_true rfl) ⟨by decide, by decide⟩ ⟨by decide, by decide⟩ ⟨by decide, by decide⟩ (mv_noH hno _) (fun w41 σ41 h41 => ?_)
  obtain ⟨rfl, rfl⟩ := h41
  refine mv_istore_n (pc := 44) B d_Weaver_register_44 rfl (by decide) rfl ?_
  refine mv_aload_n (pc := 45) B d_Weaver_register_45 rfl 2 rfl ?_
  refine mv_getR (pc := 46) (ci := 1) (C := R_Weaver) (T := F_Weaver) (N := 16) B 0 rfl rfl (by decide) i_Weaver (B.2.2.2.1 _ k_228) rfl (hb.1.1 2 0 _ rfl) d_Weaver_register_46 ?_
  refine mv_bipush (pc := 49) (v := nI 59) B d_Weaver_register_49 (by decide) ?_
  obtain ⟨v12, h11, eh11, hf⟩ := xeb_e hf
  refine mv_callVi (pc := 51) (n := 1) (ci := 2) (C := R_Tokens) B (mK_ok sk sv) hNs rfl rfl (cx_Tokens_take l hi _ hb _ _ eh11) rfl (ma_goodc kc_Tokens_take) (B.2.2.2.1 _ k_1266) (B.2.2.2.1 _ k_1267) (B.2.2.2.1 _ k_1268) (B.2.2.2.1 _ k_3) ⟨by decide +kernel, by decide +kernel, by decide +kernel⟩ rfl d_Weaver_register_51 rfl (Nat.le_of_ble_eq_true rfl) ⟨by decide, by decide⟩ ⟨by decide, by decide⟩ ⟨by decide, by decide⟩ (mv_noH hno _) (fun w51 σ51 h51 => ?_)
  obtain ⟨rfl, rfl⟩ := h51
  refine mv_pop (pc := 54) B d_Weaver_register_54 rfl ?_
  refine mv_aload_n (pc := 55) B d_Weaver_register_55 rfl 2 rfl ?_
  refine mv_getR (pc := 56) (ci := 1) (C := R_Weaver) (T := F_Weaver) (N := 16) B 0 rfl rfl (by decide) i_Weaver (B.2.2.2.1 _ k_228) rfl (hb.1.1 2 0 _ rfl) d_Weaver_register_56 ?_
  obtain ⟨v14, h13, eh13, hf⟩ := xeb_e hf
  refine mv_callVi (pc := 59) (n := 0) (ci := 2) (C := R_Tokens) B (mK_ok sk sv) hNs rfl rfl (cx_Tokens_right l hi _ _ eh13) rfl (ma_goodc kc_Tokens_right) (B.2.2.2.1 _ k_1291) (B.2.2.2.1 _ k_1292) (B.2.2.2.1 _ k_1293) (B.2.2.2.1 _ k_3) ⟨by decide +kernel, by decide +kernel, by decide +kernel⟩ rfl d_Weaver_register_59 rfl (Nat.le_of_ble_eq_true rfl) ⟨by decide, by decide⟩ ⟨by decide, by decide⟩ ⟨by decide, by decide⟩ (mv_noH hno _) (fun w59 σ59 h59 => ?_)
  obtain ⟨rfl, rfl⟩ := h59
  refine mv_if_eq (pc := 62) (tgt := 104) B d_Weaver_register_62 rfl (fun h62 => ?_) (fun h62 => ?_)
  · skip
    have hf := x_eq_t (y := 0) h62 hf
    exact mv_vret (pc := 104) B hr d_Weaver_register_104 (Nat.le_refl _) (Nat.le_refl _) ⟨rfl, xret_v hf⟩
  · skip
    have hf := x_eq_f (y := 0) h62 hf
    refine mv_aload_n (pc := 65) B d_Weaver_register_65 rfl 2 rfl ?_
    refine mv_iload_n (pc := 66) B d_Weaver_register_66 rfl 1 rfl ?_
    refine mv_iconst (pc := 67) (v := nI 0) B d_Weaver_register_67 (by decide) ?_
    obtain ⟨v16, h15, eh15, hf⟩ := xeb_e hf
    refine mv_callVi (pc := 68) (n := 2) (ci := 1) (C := R_Weaver) B (mK_ok sk sv) hNs rfl rfl (cx_Weaver_isNew l hi _ hb _ _ _ eh15) rfl (ma_goodc kc_Weaver_isNew) (B.2.2.2.1 _ k_1308) (B.2.2.2.1 _ k_1310) (B.2.2.2.1 _ ks_36) (B.2.2.2.1 _ k_2) ⟨by decide +kernel, by decide +kernel, by decide +kernel⟩ rfl d_Weaver_register_68 rfl (Nat.le_of_ble_eq_true rfl) ⟨by decide, by decide⟩ ⟨by decide, by decide⟩ ⟨by decide, by decide⟩ (mv_noH hno _) (fun w68 σ68 h68 => ?_)
    obtain ⟨rfl, rfl⟩ := h68
    refine mv_if_eq (pc := 71) (tgt := 104) B d_Weaver_register_71 rfl (fun h71 => ?_) (fun h71 => ?_)
    · skip
      have hf := x_eq_t (y := 0) h71 hf
      exact mv_vret (pc := 104) B hr d_Weaver_register_104 (Nat.le_refl _) (Nat.le_refl _) ⟨rfl, xret_v hf⟩
    · skip
      have hf := x_eq_f (y := 0) h71 hf
      refine mv_aload_n (pc := 74) B d_Weaver_register_74 rfl 2 rfl ?_
      refine mv_getR (pc := 75) (ci := 1) (C := R_Weaver) (T := F_Weaver) (N := 16) B 1 rfl rfl (by decide) i_Weaver (B.2.2.2.1 _ k_229) rfl (hb.1.1 2 1 _ rfl) d_Weaver_register_75 ?_
      refine mv_aload_n (pc := 78) B d_Weaver_register_78 rfl 2 rfl ?_
      refine mv_iload_n (pc := 79) B d_Weaver_register_79 rfl 1 rfl ?_
      obtain ⟨v18, h17, eh17, hf⟩ := xeb_e hf
      refine mv_callVi (pc := 80) (n := 1) (ci := 1) (C := R_Weaver) B (mK_ok sk sv) hNs rfl rfl (cx_Weaver_symbolOf l hi _ hb _ _ eh17) rfl (ma_goodc kc_Weaver_symbolOf) (B.2.2.2.1 _ k_1312) (B.2.2.2.1 _ k_1314) (B.2.2.2.1 _ ks_37) (B.2.2.2.1 _ k_2) ⟨by decide +kernel, by decide +kernel, by decide +kernel⟩ rfl d_Weaver_register_80 rfl (Nat.le_of_ble_eq_true rfl) ⟨by decide, by decide⟩ ⟨by decide, by decide⟩ ⟨by decide, by decide⟩ (mv_noH hno _) (fun w80 σ80 h80 => ?_)
      obtain ⟨rfl, rfl⟩ := h80
      refine mv_iconst (pc := 83) (v := nI 1) B d_Weaver_register_83 (by decide) ?_
      refine mv_aload_n (pc := 84) B d_Weaver_register_84 rfl 2 rfl ?_
      refine mv_getR (pc := 85) (ci := 1) (C := R_Weaver) (T := F_Weaver) (N := 16) B 5 rfl rfl (by decide) i_Weaver (B.2.2.2.1 _ k_235) rfl hb.1.2.2.1 d_Weaver_register_85 ?_
      refine mv_getI (pc := 88) (ci := 7) (C := R_Program) (T := F_Program) (N := 19) B 1 rfl rfl (by decide) i_Program (B.2.2.2.1 _ k_316) rfl d_Weaver_register_88 ?_
      obtain ⟨v19, ev19, hf⟩ := xer_e hf
      refine mvn_top (xfi_145_1 ev19) ?_
      obtain ⟨h20, eh20, hf⟩ := xev_e hf
      refine mv_callVv (pc := 91) (n := 3) (ci := 4) (C := R_Names) B (mK_ok sk sv) hNs rfl rfl (cx_Names_know l hi _ hb _ _ _ _ eh20) rfl (ma_goodc kc_Names_know) (B.2.2.2.1 _ k_1325) (B.2.2.2.1 _ k_1326) (B.2.2.2.1 _ k_1327) (B.2.2.2.1 _ k_5) ⟨by decide +kernel, by decide +kernel, by decide +kernel⟩ rfl d_Weaver_register_91 rfl (Nat.le_of_ble_eq_true rfl) ⟨by decide, by decide⟩ ⟨by decide, by decide⟩ ⟨by decide, by decide⟩ (mv_noH hno _) (fun σ91 h91 => ?_)
      subst h91
      refine mv_aload_n (pc := 94) B d_Weaver_register_94 rfl 2 rfl ?_
      refine mv_getR (pc := 95) (ci := 1) (C := R_Weaver) (T := F_Weaver) (N := 16) B 5 rfl rfl (by decide) i_Weaver (B.2.2.2.1 _ k_235) rfl hb.1.2.2.1 d_Weaver_register_95 ?_
      refine mv_iload_n (pc := 98) B d_Weaver_register_98 rfl 0 rfl ?_
      refine mv_iconst (pc := 99) (v := nI 0) B d_Weaver_register_99 (by decide) ?_
      refine mv_iconst (pc := 100) (v := nI 0) B d_Weaver_register_100 (by decide) ?_
      obtain ⟨h21, eh21, hf⟩ := xev_e hf
      refine mv_callVv (pc := 101) (n := 3) (ci := 7) (C := R_Program) B (mK_ok sk sv) hNs rfl rfl (cx_Program_addThing l hi _ hb _ _ _ _ eh21) rfl (ma_goodc kc_Program_addThing) (B.2.2.2.1 _ k_1329) (B.2.2.2.1 _ k_1330) (B.2.2.2.1 _ k_1331) (B.2.2.2.1 _ k_8) ⟨by decide +kernel, by decide +kernel, by decide +kernel⟩ rfl d_Weaver_register_101 rfl (Nat.le_of_ble_eq_true rfl) ⟨by decide, by decide⟩ ⟨by decide, by decide⟩ ⟨by decide, by decide⟩ (mv_noH hno _) (fun σ101 h101 => ?_)
      subst h101
      exact mv_vret (pc := 104) B hr d_Weaver_register_104 (Nat.le_refl _) (Nat.le_refl _) ⟨rfl, xret_v hf⟩
def g_Weaver_file_138 (x1 : Nat) (x2 : Nat) (x3 : Nat) (x4 : Nat) (h : xE) : Option xE := xeb (g_Tokens_right h) fun v2 h1 => bif xeq v2 0 then (some h1) else (xeb (g_Weaver_isNew h1 x1 x3) fun v4 h3 => bif xeq v4 0 then (some h3) else (xeb (g_Weaver_symbolOf h3 x1) fun v6 h5 => xer (ep_g h5.1 21) fun v7 => xev (g_Names_know h5 v6 2 v7) fun h8 => xev (g_Program_addThing h8 x2 x3 x4) fun h9 => some h9))
def g_Weaver_file_134 (x1 : Nat) (x4 : Nat) (h : xE) : Option xE := g_Weaver_file_138 x1 0 0 x4 h
def g_Weaver_file_116 (x1 : Nat) (x2 : Nat) (x3 : Nat) (x4 : Nat) (h : xE) : Option xE := xeb (g_Tokens_take h 59) fun v11 h10 => bif xeq x2 0 then (g_Weaver_file_134 x1 x4 h10) else (bif xeq x3 0 then (g_Weaver_file_134 x1 x4 h10) else (g_Weaver_file_138 x1 x2 x3 x4 h10))
def g_Weaver_file_98 (x1 : Nat) (x2 : Nat) (x3 : Nat) (y0 : Nat) (h : xE) : Option xE := bif xeq y0 0 then (g_Weaver_file_116 x1 x2 x3 y0 h) else (xeb (g_Tokens_take h 203) fun v13 h12 => g_Weaver_file_116 x1 x2 x3 y0 h12)
def g_Weaver_file (h : xE) : Option xE := xeb (g_Tokens_take h 202) fun v15 h14 => xeb (g_Tokens_take h14 3) fun v17 h16 => xeb (g_Tokens_take h16 58) fun v19 h18 => xeb (g_Tokens_take h18 4) fun v21 h20 => xeb (g_Weaver_numberUpTo h20 v21 64) fun v23 h22 => xeb (g_Tokens_take h22 91) fun v25 h24 => xeb (g_Tokens_take h24 4) fun v27 h26 => xeb (g_Weaver_numberUpTo h26 v27 65536) fun v29 h28 => xeb (g_Tokens_take h28 93) fun v31 h30 => xeb (g_Tokens_kind h30) fun v33 h32 => bif xeq v33 203 then (g_Weaver_file_98 v17 v23 v29 1 h32) else (g_Weaver_file_98 v17 v23 v29 0 h32)
set_option maxHeartbeats 4000000 in
set_option maxRecDepth 100000 in
theorem cx_Weaver_file (l : Launch) {dA : FieldType → ClassId} {D : va_G} {al : Nat → Nat} {sk sv : Nat → Nat} (hi : mv_inj (mg dA D al me)) (b : mv_H) (hb : xR (mv_r b)) (h : xE) {rg : xE} (hf : g_Weaver_file h = some rg) : mv_C l y_Weaver_file (Cond.code y_Weaver_file b_Weaver_file 5 (Option.none : Option Jvm.ClassFile.FieldType) :: ma) ({ frames := 3, cells := 0, slots := 0, locals := 68 }) (mg dA D al me) (mK sk sv) [.ref (al 2)] (ab b h) (mv_Rv (fun σ1 => σ1 = ab b rg)) := by
  refine mv_C.ofV (cc := b_Weaver_file) (nL := 5) (ret := (Option.none : Option Jvm.ClassFile.FieldType)) (by decide +kernel) rfl hi (Nat.le_of_ble_eq_true rfl) ?_
  intro p e s m below meth c B hNs hr hnm hno
  have jn138 : ∀ (x1 : Nat) (x2 : Nat) (x3 : Nat) (x4 : Nat) (h : xE), g_Weaver_file_138 x1 x2 x3 x4 h = some rg → mv_V p l e ({ frames := 3, cells := 0, slots := 0, locals := 68 }) s m ([.ref (al 2)] : List Value).toArray below meth c (mg dA D al me) 5 0 0 (mv_Q (mg dA D al me) below s 0 0 (mv_Rv (fun σ1 => σ1 = ab b rg))) (ab b h) 138 [(0, .ref (al 2)), (1, .int (nI x1)), (2, .int (nI x2)), (3, .int (nI x3)), (4, .int (nI x4))] [] := by
    intro x1 x2 x3 x4 h hf
    unfold g_Weaver_file_138 at hf
    refine mv_aload_n (pc := 138) B d_Weaver_file_138 rfl 0 rfl ?_
    refine mv_getR (pc := 139) (ci := 1) (C := R_Weaver) (T := F_Weaver) (N := 16) B 0 rfl rfl (by decide) i_Weaver (B.2.2.2.1 _ k_228) rfl (hb.1.1 2 0 _ rfl) d_Weaver_file_139 ?_
    obtain ⟨v2, h1, eh1, hf⟩ := xeb_e hf
    refine mv_callVi (pc := 142) (n := 0) (ci := 2) (C := R_Tokens) B (mK_ok sk sv) hNs rfl rfl (cx_Tokens_right l hi _ _ eh1) rfl (ma_goodc kc_Tokens_right) (B.2.2.2.1 _ k_1291) (B.2.2.2.1 _ k_1292) (B.2.2.2.1 _ k_1293) (B.2.2.2.1 _ k_3) ⟨by decide +kernel, by decide +kernel, by decide +kernel⟩ rfl d_Weaver_file_142 rfl (Nat.le_of_ble_eq_true rfl) ⟨by decide, by decide⟩ ⟨by decide, by decide⟩ ⟨by decide, by decide⟩ (mv_noH hno _) (fun w142 σ142 h142 => ?_)
    obtain ⟨rfl, rfl⟩ := h142
    refine mv_if_eq (pc := 145) (tgt := 188) B d_Weaver_file_145 rfl (fun h145 => ?_) (fun h145 => ?_)
    · skip
      have hf := x_eq_t (y := 0) h145 hf
      exact mv_vret (pc := 188) B hr d_Weaver_file_188 (Nat.le_refl _) (Nat.le_refl _) ⟨rfl, xret_v hf⟩
    · skip
      have hf := x_eq_f (y := 0) h145 hf
      refine mv_aload_n (pc := 148) B d_Weaver_file_148 rfl 0 rfl ?_
      refine mv_iload_n (pc := 149) B d_Weaver_file_149 rfl 1 rfl ?_
      refine mv_iload_n (pc := 150) B d_Weaver_file_150 rfl 3 rfl ?_
      obtain ⟨v4, h3, eh3, hf⟩ := xeb_e hf
      refine mv_callVi (pc := 151) (n := 2) (ci := 1) (C := R_Weaver) B (mK_ok sk sv) hNs rfl rfl (cx_Weaver_isNew l hi _ hb _ _ _ eh3) rfl (ma_goodc kc_Weaver_isNew) (B.2.2.2.1 _ k_1308) (B.2.2.2.1 _ k_1310) (B.2.2.2.1 _ ks_36) (B.2.2.2.1 _ k_2) ⟨by decide +kernel, by decide +kernel, by decide +kernel⟩ rfl d_Weaver_file_151 rfl (Nat.le_of_ble_eq_true rfl) ⟨by decide, by decide⟩ ⟨by decide, by decide⟩ ⟨by decide, by decide⟩ (mv_noH hno _) (fun w151 σ151 h151 => ?_)
      obtain ⟨rfl, rfl⟩ := h151
      refine mv_if_eq (pc := 154) (tgt := 188) B d_Weaver_file_154 rfl (fun h154 => ?_) (fun h154 => ?_)
      · skip
        have hf := x_eq_t (y := 0) h154 hf
        exact mv_vret (pc := 188) B hr d_Weaver_file_188 (Nat.le_refl _) (Nat.le_refl _) ⟨rfl, xret_v hf⟩
      · skip
        have hf := x_eq_f (y := 0) h154 hf
        refine mv_aload_n (pc := 157) B d_Weaver_file_157 rfl 0 rfl ?_
        refine mv_getR (pc := 158) (ci := 1) (C := R_Weaver) (T := F_Weaver) (N := 16) B 1 rfl rfl (by decide) i_Weaver (B.2.2.2.1 _ k_229) rfl (hb.1.1 2 1 _ rfl) d_Weaver_file_158 ?_
        refine mv_aload_n (pc := 161) B d_Weaver_file_161 rfl 0 rfl ?_
        refine mv_iload_n (pc := 162) B d_Weaver_file_162 rfl 1 rfl ?_
        obtain ⟨v6, h5, eh5, hf⟩ := xeb_e hf
        refine mv_callVi (pc := 163) (n := 1) (ci := 1) (C := R_Weaver) B (mK_ok sk sv) hNs rfl rfl (cx_Weaver_symbolOf l hi _ hb _ _ eh5) rfl (ma_goodc kc_Weaver_symbolOf) (B.2.2.2.1 _ k_1312) (B.2.2.2.1 _ k_1314) (B.2.2.2.1 _ ks_37) (B.2.2.2.1 _ k_2) ⟨by decide +kernel, by decide +kernel, by decide +kernel⟩ rfl d_Weaver_file_163 rfl (Nat.le_of_ble_eq_true rfl) ⟨by decide, by decide⟩ ⟨by decide, by decide⟩ ⟨by decide, by decide⟩ (mv_noH hno _) (fun w163 σ163 h163 => ?_)
        obtain ⟨rfl, rfl⟩ := h163
        refine mv_iconst (pc := 166) (v := nI 2) B d_Weaver_file_166 (by decide) ?_
        refine mv_aload_n (pc := 167) B d_Weaver_file_167 rfl 0 rfl ?_
        refine mv_getR (pc := 168) (ci := 1) (C := R_Weaver) (T := F_Weaver) (N := 16) B 5 rfl rfl (by decide) i_Weaver (B.2.2.2.1 _ k_235) rfl hb.1.2.2.1 d_Weaver_file_168 ?_
        refine mv_getI (pc := 171) (ci := 7) (C := R_Program) (T := F_Program) (N := 19) B 1 rfl rfl (by decide) i_Program (B.2.2.2.1 _ k_316) rfl d_Weaver_file_171 ?_
        obtain ⟨v7, ev7, hf⟩ := xer_e hf
        refine mvn_top (xfi_145_1 ev7) ?_
        obtain ⟨h8, eh8, hf⟩ := xev_e hf
        refine mv_callVv (pc := 174) (n := 3) (ci := 4) (C := R_Names) B (mK_ok sk sv) hNs rfl rfl (cx_Names_know l hi _ hb _ _ _ _ eh8) rfl (ma_goodc kc_Names_know) (B.2.2.2.1 _ k_1325) (B.2.2.2.1 _ k_1326) (B.2.2.2.1 _ k_1327) (B.2.2.2.1 _ k_5) ⟨by decide +kernel, by decide +kernel, by decide +kernel⟩ rfl d_Weaver_file_174 rfl (Nat.le_of_ble_eq_true rfl) ⟨by decide, by decide⟩ ⟨by decide, by decide⟩ ⟨by decide, by decide⟩ (mv_noH hno _) (fun σ174 h174 => ?_)
        subst h174
        refine mv_aload_n (pc := 177) B d_Weaver_file_177 rfl 0 rfl ?_
        refine mv_getR (pc := 178) (ci := 1) (C := R_Weaver) (T := F_Weaver) (N := 16) B 5 rfl rfl (by decide) i_Weaver (B.2.2.2.1 _ k_235) rfl hb.1.2.2.1 d_Weaver_file_178 ?_
        refine mv_iload_n (pc := 181) B d_Weaver_file_181 rfl 2 rfl ?_
        refine mv_iload_n (pc := 182) B d_Weaver_file_182 rfl 3 rfl ?_
        refine mv_iload (pc := 183) B d_Weaver_file_183 4 rfl ?_
        obtain ⟨h9, eh9, hf⟩ := xev_e hf
        refine mv_callVv (pc := 185) (n := 3) (ci := 7) (C := R_Program) B (mK_ok sk sv) hNs rfl rfl (cx_Program_addThing l hi _ hb _ _ _ _ eh9) rfl (ma_goodc kc_Program_addThing) (B.2.2.2.1 _ k_1329) (B.2.2.2.1 _ k_1330) (B.2.2.2.1 _ k_1331) (B.2.2.2.1 _ k_8) ⟨by decide +kernel, by decide +kernel, by decide +kernel⟩ rfl d_Weaver_file_185 rfl (Nat.le_of_ble_eq_true rfl) ⟨by decide, by decide⟩ ⟨by decide, by decide⟩ ⟨by decide, by decide⟩ (mv_noH hno _) (fun σ185 h185 => ?_)
        subst h185
        exact mv_vret (pc := 188) B hr d_Weaver_file_188 (Nat.le_refl _) (Nat.le_refl _) ⟨rfl, xret_v hf⟩
  have jn134 : ∀ (x1 : Nat) (x4 : Nat) (h : xE), g_Weaver_file_134 x1 x4 h = some rg → mv_V p l e ({ frames := 3, cells := 0, slots := 0, locals := 68 }) s m ([.ref (al 2)] : List Value).toArray below meth c (mg dA D al me) 5 0 0 (mv_Q (mg dA D al me) below s 0 0 (mv_Rv (fun σ1 => σ1 = ab b rg))) (ab b h) 134 [(0, .ref (al 2)), (1, .int (nI x1)), (4, .int (nI x4))] [] := by
    intro x1 x4 h hf
    unfold g_Weaver_file_134 at hf
    refine mv_iconst (pc := 134) (v := nI 0) B d_Weaver_file_134 (by decide) ?_
    refine mv_istore_n (pc := 135) B d_Weaver_file_135 rfl (by decide) rfl ?_
    refine mv_iconst (pc := 136) (v := nI 0) B d_Weaver_file_136 (by decide) ?_
    refine mv_istore_n (pc := 137) B d_Weaver_file_137 rfl (by decide) rfl ?_
    refine mv_lpick [2, 3, 1, 0, 4] rfl ?_
    exact jn138 _ _ _ _ _ hf
  have jn116 : ∀ (x1 : Nat) (x2 : Nat) (x3 : Nat) (x4 : Nat) (h : xE), g_Weaver_file_116 x1 x2 x3 x4 h = some rg → mv_V p l e ({ frames := 3, cells := 0, slots := 0, locals := 68 }) s m ([.ref (al 2)] : List Value).toArray below meth c (mg dA D al me) 5 0 0 (mv_Q (mg dA D al me) below s 0 0 (mv_Rv (fun σ1 => σ1 = ab b rg))) (ab b h) 116 [(0, .ref (al 2)), (1, .int (nI x1)), (2, .int (nI x2)), (3, .int (nI x3)), (4, .int (nI x4))] [] := by
    intro x1 x2 x3 x4 h hf
    unfold g_Weaver_file_116 at hf
    refine mv_aload_n (pc := 116) B d_Weaver_file_116 rfl 0 rfl ?_
    refine mv_getR (pc := 117) (ci := 1) (C := R_Weaver) (T := F_Weaver) (N := 16) B 0 rfl rfl (by decide) i_Weaver (B.2.2.2.1 _ k_228) rfl (hb.1.1 2 0 _ rfl) d_Weaver_file_117 ?_
    refine mv_bipush (pc := 120) (v := nI 59) B d_Weaver_file_120 (by decide) ?_
    obtain ⟨v11, h10, eh10, hf⟩ := xeb_e hf
    refine mv_callVi (pc := 122) (n := 1) (ci := 2) (C := R_Tokens) B (mK_ok sk sv) hNs rfl rfl (cx_Tokens_take l hi _ hb _ _ eh10) rfl (ma_goodc kc_Tokens_take) (B.2.2.2.1 _ k_1266) (B.2.2.2.1 _ k_1267) (B.2.2.2.1 _ k_1268) (B.2.2.2.1 _ k_3) ⟨by decide +kernel, by decide +kernel, by decide +kernel⟩ rfl d_Weaver_file_122 rfl (Nat.le_of_ble_eq_true rfl) ⟨by decide, by decide⟩ ⟨by decide, by decide⟩ ⟨by decide, by decide⟩ (mv_noH hno _) (fun w122 σ122 h122 => ?_)
    obtain ⟨rfl, rfl⟩ := h122
    refine mv_pop (pc := 125) B d_Weaver_file_125 rfl ?_
    refine mv_iload_n (pc := 126) B d_Weaver_file_126 rfl 2 rfl ?_
    refine mv_if_eq (pc := 127) (tgt := 134) B d_Weaver_file_127 rfl (fun h127 => ?_) (fun h127 => ?_)
    · skip
      have hf := x_eq_t (y := 0) h127 hf
      refine mv_lpick [0, 1, 4] rfl ?_
      exact jn134 _ _ _ hf
    · skip
      have hf := x_eq_f (y := 0) h127 hf
      refine mv_iload_n (pc := 130) B d_Weaver_file_130 rfl 3 rfl ?_
      refine mv_if_ne (pc := 131) (tgt := 138) B d_Weaver_file_131 rfl (fun h131 => ?_) (fun h131 => ?_)
      · skip
        have hf := x_eq_f (y := 0) h131 hf
        refine mv_lpick [0, 1, 2, 3, 4] rfl ?_
        exact jn138 _ _ _ _ _ hf
      · skip
        have hf := x_eq_t (y := 0) h131 hf
        refine mv_lpick [0, 1, 4] rfl ?_
        exact jn134 _ _ _ hf
  have jn98 : ∀ (x1 : Nat) (x2 : Nat) (x3 : Nat) (y0 : Nat) (h : xE), g_Weaver_file_98 x1 x2 x3 y0 h = some rg → mv_V p l e ({ frames := 3, cells := 0, slots := 0, locals := 68 }) s m ([.ref (al 2)] : List Value).toArray below meth c (mg dA D al me) 5 0 0 (mv_Q (mg dA D al me) below s 0 0 (mv_Rv (fun σ1 => σ1 = ab b rg))) (ab b h) 98 [(0, .ref (al 2)), (1, .int (nI x1)), (2, .int (nI x2)), (3, .int (nI x3))] [.int (nI y0)] := by
    intro x1 x2 x3 y0 h hf
    unfold g_Weaver_file_98 at hf
    refine mv_istore (pc := 98) B d_Weaver_file_98 (by decide) rfl ?_
    refine mv_iload (pc := 100) B d_Weaver_file_100 0 rfl ?_
    refine mv_if_eq (pc := 102) (tgt := 116) B d_Weaver_file_102 rfl (fun h102 => ?_) (fun h102 => ?_)
    · skip
      have hf := x_eq_t (y := 0) h102 hf
      refine mv_lpick [1, 2, 3, 4, 0] rfl ?_
      exact jn116 _ _ _ _ _ hf
    · skip
      have hf := x_eq_f (y := 0) h102 hf
      refine mv_aload_n (pc := 105) B d_Weaver_file_105 rfl 1 rfl ?_
      refine mv_getR (pc := 106) (ci := 1) (C := R_Weaver) (T := F_Weaver) (N := 16) B 0 rfl rfl (by decide) i_Weaver (B.2.2.2.1 _ k_228) rfl (hb.1.1 2 0 _ rfl) d_Weaver_file_106 ?_
      refine mv_sipush (pc := 109) (v := nI 203) B d_Weaver_file_109 (by decide) ?_
      obtain ⟨v13, h12, eh12, hf⟩ := xeb_e hf
      refine mv_callVi (pc := 112) (n := 1) (ci := 2) (C := R_Tokens) B (mK_ok sk sv) hNs rfl rfl (cx_Tokens_take l hi _ hb _ _ eh12) rfl (ma_goodc kc_Tokens_take) (B.2.2.2.1 _ k_1266) (B.2.2.2.1 _ k_1267) (B.2.2.2.1 _ k_1268) (B.2.2.2.1 _ k_3) ⟨by decide +kernel, by decide +kernel, by decide +kernel⟩ rfl d_Weaver_file_112 rfl (Nat.le_of_ble_eq_true rfl) ⟨by decide, by decide⟩ ⟨by decide, by decide⟩ ⟨by decide, by decide⟩ (mv_noH hno _) (fun w112 σ112 h112 => ?_)
      obtain ⟨rfl, rfl⟩ := h112
      refine mv_pop (pc := 115) B d_Weaver_file_115 rfl ?_
      refine mv_lpick [1, 2, 3, 4, 0] rfl ?_
      exact jn116 _ _ _ _ _ hf
  unfold g_Weaver_file at hf
  refine mv_aload_n (pc := 0) B d_Weaver_file_0 rfl 0 rfl ?_
  refine mv_getR (pc := 1) (ci := 1) (C := R_Weaver) (T := F_Weaver) (N := 16) B 0 rfl rfl (by decide) i_Weaver (B.2.2.2.1 _ k_228) rfl (hb.1.1 2 0 _ rfl) d_Weaver_file_1 ?_
  refine mv_sipush (pc := 4) (v := nI 202) B d_Weaver_file_4 (by decide) ?_
  obtain ⟨v15, h14, eh14, hf⟩ := xeb_e hf
  refine mv_callVi (pc := 7) (n := 1) (ci := 2) (C := R_Tokens) B (mK_ok sk sv) hNs rfl rfl (cx_Tokens_take l hi _ hb _ _ eh14) rfl (ma_goodc kc_Tokens_take) (B.2.2.2.1 _ k_1266) (B.2.2.2.1 _ k_1267) (B.2.2.2.1 _ k_1268) (B.2.2.2.1 _ k_3) ⟨by decide +kernel, by decide +kernel, by decide +kernel⟩ rfl d_Weaver_file_7 rfl (Nat.le_of_ble_eq_true rfl) ⟨by decide, by decide⟩ ⟨by decide, by decide⟩ ⟨by decide, by decide⟩ (mv_noH hno _) (fun w7 σ7 h7 => ?_)
  obtain ⟨rfl, rfl⟩ := h7
  refine mv_pop (pc := 10) B d_Weaver_file_10 rfl ?_
  refine mv_aload_n (pc := 11) B d_Weaver_file_11 rfl 0 rfl ?_
  refine mv_getR (pc := 12) (ci := 1) (C := R_Weaver) (T := F_Weaver) (N := 16) B 0 rfl rfl (by decide) i_Weaver (B.2.2.2.1 _ k_228) rfl (hb.1.1 2 0 _ rfl) d_Weaver_file_12 ?_
  refine mv_iconst (pc := 15) (v := nI 3) B d_Weaver_file_15 (by decide) ?_
  obtain ⟨v17, h16, eh16, hf⟩ := xeb_e hf
  refine mv_callVi (pc := 16) (n := 1) (ci := 2) (C := R_Tokens) B (mK_ok sk sv) hNs rfl rfl (cx_Tokens_take l hi _ hb _ _ eh16) rfl (ma_goodc kc_Tokens_take) (B.2.2.2.1 _ k_1266) (B.2.2.2.1 _ k_1267) (B.2.2.2.1 _ k_1268) (B.2.2.2.1 _ k_3) ⟨by decide +kernel, by decide +kernel, by decide +kernel⟩ rfl d_Weaver_file_16 rfl (Nat.le_of_ble_eq_true rfl) ⟨by decide, by decide⟩ ⟨by decide, by decide⟩ ⟨by decide, by decide⟩ (mv_noH hno _) (fun w16 σ16 h16 => ?_)
  obtain ⟨rfl, rfl⟩ := h16
  refine mv_istore_n (pc := 19) B d_Weaver_file_19 rfl (by decide) rfl ?_
  refine mv_aload_n (pc := 20) B d_Weaver_file_20 rfl 1 rfl ?_
  refine mv_getR (pc := 21) (ci := 1) (C := R_Weaver) (T := F_Weaver) (N := 16) B 0 rfl rfl (by decide) i_Weaver (B.2.2.2.1 _ k_228) rfl (hb.1.1 2 0 _ rfl) d_Weaver_file_21 ?_
  refine mv_bipush (pc := 24) (v := nI 58) B d_Weaver_file_24 (by decide) ?_
  obtain ⟨v19, h18, eh18, hf⟩ := xeb_e hf
  refine mv_callVi (pc := 26) (n := 1) (ci := 2) (C := R_Tokens) B (mK_ok sk sv) hNs rfl rfl (cx_Tokens_take l hi _ hb _ _ eh18) rfl (ma_goodc kc_Tokens_take) (B.2.2.2.1 _ k_1266) (B.2.2.2.1 _ k_1267) (B.2.2.2.1 _ k_1268) (B.2.2.2.1 _ k_3) ⟨by decide +kernel, by decide +kernel, by decide +kernel⟩ rfl d_Weaver_file_26 rfl (Nat.le_of_ble_eq_true rfl) ⟨by decide, by decide⟩ ⟨by decide, by decide⟩ ⟨by decide, by decide⟩ (mv_noH hno _) (fun w26 σ26 h26 => ?_)
  obtain ⟨rfl, rfl⟩ := h26
  refine mv_pop (pc := 29) B d_Weaver_file_29 rfl ?_
  refine mv_aload_n (pc := 30) B d_Weaver_file_30 rfl 1 rfl ?_
  refine mv_aload_n (pc := 31) B d_Weaver_file_31 rfl 1 rfl ?_
  refine mv_getR (pc := 32) (ci := 1) (C := R_Weaver) (T := F_Weaver) (N := 16) B 0 rfl rfl (by decide) i_Weaver (B.2.2.2.1 _ k_228) rfl (hb.1.1 2 0 _ rfl) d_Weaver_file_32 ?_
  refine mv_iconst (pc := 35) (v := nI 4) B d_Weaver_file_35 (by decide) ?_
  obtain ⟨v21, h20, eh20, hf⟩ := xeb_e hf
  refine mv_callVi (pc := 36) (n := 1) (ci := 2) (C := R_Tokens) B (mK_ok sk sv) hNs rfl rfl (cx_Tokens_take l hi _ hb _ _ eh20) rfl (ma_goodc kc_Tokens_take) (B.2.2.2.1 _ k_1266) (B.2.2.2.1 _ k_1267) (B.2.2.2.1 _ k_1268) (B.2.2.2.1 _ k_3) ⟨by decide +kernel, by decide +kernel, by decide +kernel⟩ rfl d_Weaver_file_36 rfl (Nat.le_of_ble_eq_true rfl) ⟨by decide, by decide⟩ ⟨by decide, by decide⟩ ⟨by decide, by decide⟩ (mv_noH hno _) (fun w36 σ36 h36 => ?_)
  obtain ⟨rfl, rfl⟩ := h36
  refine mv_bipush (pc := 39) (v := nI 64) B d_Weaver_file_39 (by decide) ?_
  obtain ⟨v23, h22, eh22, hf⟩ := xeb_e hf
  refine mv_callVi (pc := 41) (n := 2) (ci := 1) (C := R_Weaver) B (mK_ok sk sv) hNs rfl rfl (cx_Weaver_numberUpTo l hi _ hb _ _ _ eh22) rfl (ma_goodc kc_Weaver_numberUpTo) (B.2.2.2.1 _ k_1304) (B.2.2.2.1 _ k_1306) (B.2.2.2.1 _ ks_35) (B.2.2.2.1 _ k_2) ⟨by decide +kernel, by decide +kernel, by decide +kernel⟩ rfl d_Weaver_file_41 rfl (Nat.le_of_ble_eq_true rfl) ⟨by decide, by decide⟩ ⟨by decide, by decide⟩ ⟨by decide, by decide⟩ (mv_noH hno _) (fun w41 σ41 h41 => ?_)
  obtain ⟨rfl, rfl⟩ := h41
  refine mv_istore_n (pc := 44) B d_Weaver_file_44 rfl (by decide) rfl ?_
  refine mv_aload_n (pc := 45) B d_Weaver_file_45 rfl 2 rfl ?_
  refine mv_getR (pc := 46) (ci := 1) (C := R_Weaver) (T := F_Weaver) (N := 16) B 0 rfl rfl (by decide) i_Weaver (B.2.2.2.1 _ k_228) rfl (hb.1.1 2 0 _ rfl) d_Weaver_file_46 ?_
  refine mv_bipush (pc := 49) (v := nI 91) B d_Weaver_file_49 (by decide) ?_
  obtain ⟨v25, h24, eh24, hf⟩ := xeb_e hf
  refine mv_callVi (pc := 51) (n := 1) (ci := 2) (C := R_Tokens) B (mK_ok sk sv) hNs rfl rfl (cx_Tokens_take l hi _ hb _ _ eh24) rfl (ma_goodc kc_Tokens_take) (B.2.2.2.1 _ k_1266) (B.2.2.2.1 _ k_1267) (B.2.2.2.1 _ k_1268) (B.2.2.2.1 _ k_3) ⟨by decide +kernel, by decide +kernel, by decide +kernel⟩ rfl d_Weaver_file_51 rfl (Nat.le_of_ble_eq_true rfl) ⟨by decide, by decide⟩ ⟨by decide, by decide⟩ ⟨by decide, by decide⟩ (mv_noH hno _) (fun w51 σ51 h51 => ?_)
  obtain ⟨rfl, rfl⟩ := h51
  refine mv_pop (pc := 54) B d_Weaver_file_54 rfl ?_
  refine mv_aload_n (pc := 55) B d_Weaver_file_55 rfl 2 rfl ?_
  refine mv_aload_n (pc := 56) B d_Weaver_file_56 rfl 2 rfl ?_
  refine mv_getR (pc := 57) (ci := 1) (C := R_Weaver) (T := F_Weaver) (N := 16) B 0 rfl rfl (by decide) i_Weaver (B.2.2.2.1 _ k_228) rfl (hb.1.1 2 0 _ rfl) d_Weaver_file_57 ?_
  refine mv_iconst (pc := 60) (v := nI 4) B d_Weaver_file_60 (by decide) ?_
  obtain ⟨v27, h26, eh26, hf⟩ := xeb_e hf
  refine mv_callVi (pc := 61) (n := 1) (ci := 2) (C := R_Tokens) B (mK_ok sk sv) hNs rfl rfl (cx_Tokens_take l hi _ hb _ _ eh26) rfl (ma_goodc kc_Tokens_take) (B.2.2.2.1 _ k_1266) (B.2.2.2.1 _ k_1267) (B.2.2.2.1 _ k_1268) (B.2.2.2.1 _ k_3) ⟨by decide +kernel, by decide +kernel, by decide +kernel⟩ rfl d_Weaver_file_61 rfl (Nat.le_of_ble_eq_true rfl) ⟨by decide, by decide⟩ ⟨by decide, by decide⟩ ⟨by decide, by decide⟩ (mv_noH hno _) (fun w61 σ61 h61 => ?_)
  obtain ⟨rfl, rfl⟩ := h61
  refine mv_ldc (pc := 64) (v := 65536) B (B.2.2.2.1 _ k_1324) d_Weaver_file_64 ?_
  refine mvn_top (n := 65536) (by decide) ?_
  obtain ⟨v29, h28, eh28, hf⟩ := xeb_e hf
  refine mv_callVi (pc := 66) (n := 2) (ci := 1) (C := R_Weaver) B (mK_ok sk sv) hNs rfl rfl (cx_Weaver_numberUpTo l hi _ hb _ _ _ eh28) rfl (ma_goodc kc_Weaver_numberUpTo) (B.2.2.2.1 _ k_1304) (B.2.2.2.1 _ k_1306) (B.2.2.2.1 _ ks_35) (B.2.2.2.1 _ k_2) ⟨by decide +kernel, by decide +kernel, by decide +kernel⟩ rfl d_Weaver_file_66 rfl (Nat.le_of_ble_eq_true rfl) ⟨by decide, by decide⟩ ⟨by decide, by decide⟩ ⟨by decide, by decide⟩ (mv_noH hno _) (fun w66 σ66 h66 => ?_)
  obtain ⟨rfl, rfl⟩ := h66
  refine mv_istore_n (pc := 69) B d_Weaver_file_69 rfl (by decide) rfl ?_
  refine mv_aload_n (pc := 70) B d_Weaver_file_70 rfl 3 rfl ?_
  refine mv_getR (pc := 71) (ci := 1) (C := R_Weaver) (T := F_Weaver) (N := 16) B 0 rfl rfl (by decide) i_Weaver (B.2.2.2.1 _ k_228) rfl (hb.1.1 2 0 _ rfl) d_Weaver_file_71 ?_
  refine mv_bipush (pc := 74) (v := nI 93) B d_Weaver_file_74 (by decide) ?_
  obtain ⟨v31, h30, eh30, hf⟩ := xeb_e hf
  refine mv_callVi (pc := 76) (n := 1) (ci := 2) (C := R_Tokens) B (mK_ok sk sv) hNs rfl rfl (cx_Tokens_take l hi _ hb _ _ eh30) rfl (ma_goodc kc_Tokens_take) (B.2.2.2.1 _ k_1266) (B.2.2.2.1 _ k_1267) (B.2.2.2.1 _ k_1268) (B.2.2.2.1 _ k_3) ⟨by decide +kernel, by decide +kernel, by decide +kernel⟩ rfl d_Weaver_file_76 rfl (Nat.le_of_ble_eq_true rfl) ⟨by decide, by decide⟩ ⟨by decide, by decide⟩ ⟨by decide, by decide⟩ (mv_noH hno _) (fun w76 σ76 h76 => ?_)
  obtain ⟨rfl, rfl⟩ := h76
  refine mv_pop (pc := 79) B d_Weaver_file_79 rfl ?_
  refine mv_aload_n (pc := 80) B d_Weaver_file_80 rfl 3 rfl ?_
  refine mv_getR (pc := 81) (ci := 1) (C := R_Weaver) (T := F_Weaver) (N := 16) B 0 rfl rfl (by decide) i_Weaver (B.2.2.2.1 _ k_228) rfl (hb.1.1 2 0 _ rfl) d_Weaver_file_81 ?_
  obtain ⟨v33, h32, eh32, hf⟩ := xeb_e hf
  refine mv_callVi (pc := 84) (n := 0) (ci := 2) (C := R_Tokens) B (mK_ok sk sv) hNs rfl rfl (cx_Tokens_kind l hi _ hb _ eh32) rfl (ma_goodc kc_Tokens_kind) (B.2.2.2.1 _ k_1299) (B.2.2.2.1 _ k_1271) (B.2.2.2.1 _ k_1272) (B.2.2.2.1 _ k_3) ⟨by decide +kernel, by decide +kernel, by decide +kernel⟩ rfl d_Weaver_file_84 rfl (Nat.le_of_ble_eq_true rfl) ⟨by decide, by decide⟩ ⟨by decide, by decide⟩ ⟨by decide, by decide⟩ (mv_noH hno _) (fun w84 σ84 h84 => ?_)
  obtain ⟨rfl, rfl⟩ := h84
  refine mv_sipush (pc := 87) (v := nI 203) B d_Weaver_file_87 (by decide) ?_
  refine mv_icmp_ne (pc := 90) (tgt := 97) B d_Weaver_file_90 rfl (fun h90 => ?_) (fun h90 => ?_)
  · skip
    have hf := x_eq_f h90 hf
    refine mv_iconst (pc := 97) (v := nI 0) B d_Weaver_file_97 (by decide) ?_
    refine mv_lpick [3, 2, 1, 0] rfl ?_
    exact jn98 _ _ _ _ _ hf
  · skip
    have hf := x_eq_t h90 hf
    refine mv_iconst (pc := 93) (v := nI 1) B d_Weaver_file_93 (by decide) ?_
    refine mv_goto (pc := 94) (tgt := 98) B d_Weaver_file_94 rfl ?_
    refine mv_lpick [3, 2, 1, 0] rfl ?_
    exact jn98 _ _ _ _ _ hf
def g_Weaver_fetch_164 (x3 : Nat) (h : xE) : Option xE := xev (g_Weaver_tell h x3 2) fun h1 => some h1
def g_Weaver_fetch_78 (x2 : Nat) (x3 : Nat) (h : xE) : Option xE := xeb (g_Weaver_symbolOf h x2) fun v3 h2 => bif Nat.blt v3 16448 then xer (ep_g (xL_15 h2.2) v3) fun v5 => xeb (g_Weaver_symbolOf h2 x3) fun v7 h6 => bif Nat.blt v7 16448 then xer (ep_g (xL_15 h6.2) v7) fun v9 => xeb (g_Weaver_symbolOf h6 x2) fun v11 h10 => xeb (g_Names_kindOf h10 v11) fun v13 h12 => bif xeq v13 1 then (xeb (g_Weaver_symbolOf h12 x3) fun v15 h14 => xeb (g_Names_kindOf h14 v15) fun v17 h16 => bif xeq v17 2 then (bif Nat.blt v9 64 then xer (ep_g (xL_146 h16.2) v9) fun v19 => bif xeq v19 8 then (xwi h16 24 v5 fun h20 => xwi h20 25 v9 fun h21 => some h21) else (g_Weaver_fetch_164 x3 h16) else none) else (g_Weaver_fetch_164 x3 h16)) else (xev (g_Weaver_tell h12 x2 2) fun h22 => some h22) else none else none
def g_Weaver_fetch (h : xE) : Option xE := xeb (g_Tokens_take h 204) fun v24 h23 => xeb (g_Tokens_take h23 3) fun v26 h25 => xeb (g_Tokens_take h25 205) fun v28 h27 => xeb (g_Tokens_take h27 3) fun v30 h29 => xeb (g_Tokens_take h29 59) fun v32 h31 => xeb (g_Tokens_right h31) fun v34 h33 => bif xeq v34 0 then (some h33) else (xer (ep_g h33.1 25) fun v35 => bif xlt v35 0 then (g_Weaver_fetch_78 v26 v30 h33) else (xev (g_Weaver_tell h33 v24 6) fun h36 => g_Weaver_fetch_78 v26 v30 h36))
set_option maxHeartbeats 4000000 in
set_option maxRecDepth 100000 in
theorem cx_Weaver_fetch (l : Launch) {dA : FieldType → ClassId} {D : va_G} {al : Nat → Nat} {sk sv : Nat → Nat} (hi : mv_inj (mg dA D al me)) (b : mv_H) (hb : xR (mv_r b)) (h : xE) {rg : xE} (hf : g_Weaver_fetch h = some rg) : mv_C l y_Weaver_fetch (Cond.code y_Weaver_fetch b_Weaver_fetch 6 (Option.none : Option Jvm.ClassFile.FieldType) :: ma) ({ frames := 2, cells := 0, slots := 0, locals := 44 }) (mg dA D al me) (mK sk sv) [.ref (al 2)] (ab b h) (mv_Rv (fun σ1 => σ1 = ab b rg)) := by
  refine mv_C.ofV (cc := b_Weaver_fetch) (nL := 6) (ret := (Option.none : Option Jvm.ClassFile.FieldType)) (by decide +kernel) rfl hi (Nat.le_of_ble_eq_true rfl) ?_
  intro p e s m below meth c B hNs hr hnm hno
  have jn164 : ∀ (x3 : Nat) (h : xE), g_Weaver_fetch_164 x3 h = some rg → mv_V p l e ({ frames := 2, cells := 0, slots := 0, locals := 44 }) s m ([.ref (al 2)] : List Value).toArray below meth c (mg dA D al me) 6 0 0 (mv_Q (mg dA D al me) below s 0 0 (mv_Rv (fun σ1 => σ1 = ab b rg))) (ab b h) 164 [(0, .ref (al 2)), (3, .int (nI x3))] [] := by
    intro x3 h hf
    unfold g_Weaver_fetch_164 at hf
    refine mv_aload_n (pc := 164) B d_Weaver_fetch_164 rfl 0 rfl ?_
    refine mv_iload_n (pc := 165) B d_Weaver_fetch_165 rfl 1 rfl ?_
    refine mv_iconst (pc := 166) (v := nI 2) B d_Weaver_fetch_166 (by decide) ?_
    obtain ⟨h1, eh1, hf⟩ := xev_e hf
    refine mv_callVv (pc := 167) (n := 2) (ci := 1) (C := R_Weaver) B (mK_ok sk sv) hNs rfl rfl (cx_Weaver_tell l hi _ hb _ _ _ eh1) rfl (ma_goodc kc_Weaver_tell) (B.2.2.2.1 _ k_1282) (B.2.2.2.1 _ k_1284) (B.2.2.2.1 _ ks_32) (B.2.2.2.1 _ k_2) ⟨by decide +kernel, by decide +kernel, by decide +kernel⟩ rfl d_Weaver_fetch_167 rfl (Nat.le_of_ble_eq_true rfl) ⟨by decide, by decide⟩ ⟨by decide, by decide⟩ ⟨by decide, by decide⟩ (mv_noH hno _) (fun σ167 h167 => ?_)
    subst h167
    refine mv_goto (pc := 170) (tgt := 191) B d_Weaver_fetch_170 rfl ?_
    exact mv_vret (pc := 191) B hr d_Weaver_fetch_191 (Nat.le_refl _) (Nat.le_refl _) ⟨rfl, xret_v hf⟩
  have jn78 : ∀ (x2 : Nat) (x3 : Nat) (h : xE), g_Weaver_fetch_78 x2 x3 h = some rg → mv_V p l e ({ frames := 2, cells := 0, slots := 0, locals := 44 }) s m ([.ref (al 2)] : List Value).toArray below meth c (mg dA D al me) 6 0 0 (mv_Q (mg dA D al me) below s 0 0 (mv_Rv (fun σ1 => σ1 = ab b rg))) (ab b h) 78 [(0, .ref (al 2)), (2, .int (nI x2)), (3, .int (nI x3))] [] := by
    intro x2 x3 h hf
    unfold g_Weaver_fetch_78 at hf
    refine mv_aload_n (pc := 78) B d_Weaver_fetch_78 rfl 0 rfl ?_
    refine mv_getR (pc := 79) (ci := 1) (C := R_Weaver) (T := F_Weaver) (N := 16) B 1 rfl rfl (by decide) i_Weaver (B.2.2.2.1 _ k_229) rfl (hb.1.1 2 1 _ rfl) d_Weaver_fetch_79 ?_
    refine mv_getR (pc := 82) (ci := 4) (C := R_Names) (T := F_Names) (N := 10) B 2 rfl rfl (by decide) i_Names (B.2.2.2.1 _ k_138) rfl (hb.1.1 13 2 _ rfl) d_Weaver_fetch_82 ?_
    refine mv_aload_n (pc := 85) B d_Weaver_fetch_85 rfl 0 rfl ?_
    refine mv_iload_n (pc := 86) B d_Weaver_fetch_86 rfl 1 rfl ?_
    obtain ⟨v3, h2, eh2, hf⟩ := xeb_e hf
    refine mv_callVi (pc := 87) (n := 1) (ci := 1) (C := R_Weaver) B (mK_ok sk sv) hNs rfl rfl (cx_Weaver_symbolOf l hi _ hb _ _ eh2) rfl (ma_goodc kc_Weaver_symbolOf) (B.2.2.2.1 _ k_1312) (B.2.2.2.1 _ k_1314) (B.2.2.2.1 _ ks_37) (B.2.2.2.1 _ k_2) ⟨by decide +kernel, by decide +kernel, by decide +kernel⟩ rfl d_Weaver_fetch_87 rfl (Nat.le_of_ble_eq_true rfl) ⟨by decide, by decide⟩ ⟨by decide, by decide⟩ ⟨by decide, by decide⟩ (mv_noH hno _) (fun w87 σ87 h87 => ?_)
    obtain ⟨rfl, rfl⟩ := h87
    obtain ⟨q4, hf⟩ := xix_e hf
    refine mv_iald (pc := 90) B rfl (xin q4 (by decide)) d_Weaver_fetch_90 ?_
    obtain ⟨v5, ev5, hf⟩ := xer_e hf
    refine mvn_top (xfa_15 q4 ev5) ?_
    refine mv_istore (pc := 91) B d_Weaver_fetch_91 (by decide) rfl ?_
    refine mv_aload_n (pc := 93) B d_Weaver_fetch_93 rfl 1 rfl ?_
    refine mv_getR (pc := 94) (ci := 1) (C := R_Weaver) (T := F_Weaver) (N := 16) B 1 rfl rfl (by decide) i_Weaver (B.2.2.2.1 _ k_229) rfl (hb.1.1 2 1 _ rfl) d_Weaver_fetch_94 ?_
    refine mv_getR (pc := 97) (ci := 4) (C := R_Names) (T := F_Names) (N := 10) B 2 rfl rfl (by decide) i_Names (B.2.2.2.1 _ k_138) rfl (hb.1.1 13 2 _ rfl) d_Weaver_fetch_97 ?_
    refine mv_aload_n (pc := 100) B d_Weaver_fetch_100 rfl 1 rfl ?_
    refine mv_iload_n (pc := 101) B d_Weaver_fetch_101 rfl 3 rfl ?_
    obtain ⟨v7, h6, eh6, hf⟩ := xeb_e hf
    refine mv_callVi (pc := 102) (n := 1) (ci := 1) (C := R_Weaver) B (mK_ok sk sv) hNs rfl rfl (cx_Weaver_symbolOf l hi _ hb _ _ eh6) rfl (ma_goodc kc_Weaver_symbolOf) (B.2.2.2.1 _ k_1312) (B.2.2.2.1 _ k_1314) (B.2.2.2.1 _ ks_37) (B.2.2.2.1 _ k_2) ⟨by decide +kernel, by decide +kernel, by decide +kernel⟩ rfl d_Weaver_fetch_102 rfl (Nat.le_of_ble_eq_true rfl) ⟨by decide, by decide⟩ ⟨by decide, by decide⟩ ⟨by decide, by decide⟩ (mv_noH hno _) (fun w102 σ102 h102 => ?_)
    obtain ⟨rfl, rfl⟩ := h102
    obtain ⟨q8, hf⟩ := xix_e hf
    refine mv_iald (pc := 105) B rfl (xin q8 (by decide)) d_Weaver_fetch_105 ?_
    obtain ⟨v9, ev9, hf⟩ := xer_e hf
    refine mvn_top (xfa_15 q8 ev9) ?_
    refine mv_istore (pc := 106) B d_Weaver_fetch_106 (by decide) rfl ?_
    refine mv_aload_n (pc := 108) B d_Weaver_fetch_108 rfl 2 rfl ?_
    refine mv_getR (pc := 109) (ci := 1) (C := R_Weaver) (T := F_Weaver) (N := 16) B 1 rfl rfl (by decide) i_Weaver (B.2.2.2.1 _ k_229) rfl (hb.1.1 2 1 _ rfl) d_Weaver_fetch_109 ?_
    refine mv_aload_n (pc := 112) B d_Weaver_fetch_112 rfl 2 rfl ?_
    refine mv_iload_n (pc := 113) B d_Weaver_fetch_113 rfl 3 rfl ?_
    obtain ⟨v11, h10, eh10, hf⟩ := xeb_e hf
    refine mv_callVi (pc := 114) (n := 1) (ci := 1) (C := R_Weaver) B (mK_ok sk sv) hNs rfl rfl (cx_Weaver_symbolOf l hi _ hb _ _ eh10) rfl (ma_goodc kc_Weaver_symbolOf) (B.2.2.2.1 _ k_1312) (B.2.2.2.1 _ k_1314) (B.2.2.2.1 _ ks_37) (B.2.2.2.1 _ k_2) ⟨by decide +kernel, by decide +kernel, by decide +kernel⟩ rfl d_Weaver_fetch_114 rfl (Nat.le_of_ble_eq_true rfl) ⟨by decide, by decide⟩ ⟨by decide, by decide⟩ ⟨by decide, by decide⟩ (mv_noH hno _) (fun w114 σ114 h114 => ?_)
    obtain ⟨rfl, rfl⟩ := h114
    obtain ⟨v13, h12, eh12, hf⟩ := xeb_e hf
    refine mv_callVi (pc := 117) (n := 1) (ci := 4) (C := R_Names) B (mK_ok sk sv) hNs rfl rfl (cx_Names_kindOf l hi _ hb _ _ eh12) rfl (ma_goodc kc_Names_kindOf) (B.2.2.2.1 _ k_1316) (B.2.2.2.1 _ k_1317) (B.2.2.2.1 _ k_1318) (B.2.2.2.1 _ k_5) ⟨by decide +kernel, by decide +kernel, by decide +kernel⟩ rfl d_Weaver_fetch_117 rfl (Nat.le_of_ble_eq_true rfl) ⟨by decide, by decide⟩ ⟨by decide, by decide⟩ ⟨by decide, by decide⟩ (mv_noH hno _) (fun w117 σ117 h117 => ?_)
    obtain ⟨rfl, rfl⟩ := h117
    refine mv_iconst (pc := 120) (v := nI 1) B d_Weaver_fetch_120 (by decide) ?_
    refine mv_icmp_eq (pc := 121) (tgt := 133) B d_Weaver_fetch_121 rfl (fun h121 => ?_) (fun h121 => ?_)
    · skip
      have hf := x_eq_t h121 hf
      refine mv_aload_n (pc := 133) B d_Weaver_fetch_133 rfl 2 rfl ?_
      refine mv_getR (pc := 134) (ci := 1) (C := R_Weaver) (T := F_Weaver) (N := 16) B 1 rfl rfl (by decide) i_Weaver (B.2.2.2.1 _ k_229) rfl (hb.1.1 2 1 _ rfl) d_Weaver_fetch_134 ?_
      refine mv_aload_n (pc := 137) B d_Weaver_fetch_137 rfl 2 rfl ?_
      refine mv_iload_n (pc := 138) B d_Weaver_fetch_138 rfl 4 rfl ?_
      obtain ⟨v15, h14, eh14, hf⟩ := xeb_e hf
      refine mv_callVi (pc := 139) (n := 1) (ci := 1) (C := R_Weaver) B (mK_ok sk sv) hNs rfl rfl (cx_Weaver_symbolOf l hi _ hb _ _ eh14) rfl (ma_goodc kc_Weaver_symbolOf) (B.2.2.2.1 _ k_1312) (B.2.2.2.1 _ k_1314) (B.2.2.2.1 _ ks_37) (B.2.2.2.1 _ k_2) ⟨by decide +kernel, by decide +kernel, by decide +kernel⟩ rfl d_Weaver_fetch_139 rfl (Nat.le_of_ble_eq_true rfl) ⟨by decide, by decide⟩ ⟨by decide, by decide⟩ ⟨by decide, by decide⟩ (mv_noH hno _) (fun w139 σ139 h139 => ?_)
      obtain ⟨rfl, rfl⟩ := h139
      obtain ⟨v17, h16, eh16, hf⟩ := xeb_e hf
      refine mv_callVi (pc := 142) (n := 1) (ci := 4) (C := R_Names) B (mK_ok sk sv) hNs rfl rfl (cx_Names_kindOf l hi _ hb _ _ eh16) rfl (ma_goodc kc_Names_kindOf) (B.2.2.2.1 _ k_1316) (B.2.2.2.1 _ k_1317) (B.2.2.2.1 _ k_1318) (B.2.2.2.1 _ k_5) ⟨by decide +kernel, by decide +kernel, by decide +kernel⟩ rfl d_Weaver_fetch_142 rfl (Nat.le_of_ble_eq_true rfl) ⟨by decide, by decide⟩ ⟨by decide, by decide⟩ ⟨by decide, by decide⟩ (mv_noH hno _) (fun w142 σ142 h142 => ?_)
      obtain ⟨rfl, rfl⟩ := h142
      refine mv_iconst (pc := 145) (v := nI 2) B d_Weaver_fetch_145 (by decide) ?_
      refine mv_icmp_ne (pc := 146) (tgt := 164) B d_Weaver_fetch_146 rfl (fun h146 => ?_) (fun h146 => ?_)
      · skip
        have hf := x_eq_f h146 hf
        refine mv_lpick [2, 4] rfl ?_
        exact jn164 _ _ hf
      · skip
        have hf := x_eq_t h146 hf
        refine mv_aload_n (pc := 149) B d_Weaver_fetch_149 rfl 2 rfl ?_
        refine mv_getR (pc := 150) (ci := 1) (C := R_Weaver) (T := F_Weaver) (N := 16) B 5 rfl rfl (by decide) i_Weaver (B.2.2.2.1 _ k_235) rfl hb.1.2.2.1 d_Weaver_fetch_150 ?_
        refine mv_getR (pc := 153) (ci := 7) (C := R_Program) (T := F_Program) (N := 19) B 2 rfl rfl (by decide) i_Program (B.2.2.2.1 _ k_321) rfl (hb.1.2.1 145 2 146 rfl) d_Weaver_fetch_153 ?_
        refine mv_iload (pc := 156) B d_Weaver_fetch_156 0 rfl ?_
        obtain ⟨q18, hf⟩ := xix_e hf
        refine mv_iald (pc := 158) B rfl (xin q18 (by decide)) d_Weaver_fetch_158 ?_
        obtain ⟨v19, ev19, hf⟩ := xer_e hf
        refine mvn_top (xfa_146 q18 ev19) ?_
        refine mv_bipush (pc := 159) (v := nI 8) B d_Weaver_fetch_159 (by decide) ?_
        refine mv_icmp_eq (pc := 161) (tgt := 173) B d_Weaver_fetch_161 rfl (fun h161 => ?_) (fun h161 => ?_)
        · skip
          have hf := x_eq_t h161 hf
          refine mv_aload_n (pc := 173) B d_Weaver_fetch_173 rfl 2 rfl ?_
          refine mv_getR (pc := 174) (ci := 1) (C := R_Weaver) (T := F_Weaver) (N := 16) B 5 rfl rfl (by decide) i_Weaver (B.2.2.2.1 _ k_235) rfl hb.1.2.2.1 d_Weaver_fetch_174 ?_
          refine mv_iload (pc := 177) B d_Weaver_fetch_177 1 rfl ?_
          refine mv_putI (pc := 179) (ci := 7) (C := R_Program) (T := F_Program) (N := 19) B 8 rfl rfl (by decide) i_Program t_Program_ok n_Program (B.2.2.2.1 _ k_339) rfl rfl rfl rfl d_Weaver_fetch_179 ?_
          refine mvn_hp (xwi_145_8 _ _ _) (xwi_f hf) (fun h20 hf => ?_)
          refine mv_aload_n (pc := 182) B d_Weaver_fetch_182 rfl 2 rfl ?_
          refine mv_getR (pc := 183) (ci := 1) (C := R_Weaver) (T := F_Weaver) (N := 16) B 5 rfl rfl (by decide) i_Weaver (B.2.2.2.1 _ k_235) rfl hb.1.2.2.1 d_Weaver_fetch_183 ?_
          refine mv_iload (pc := 186) B d_Weaver_fetch_186 0 rfl ?_
          refine mv_putI (pc := 188) (ci := 7) (C := R_Program) (T := F_Program) (N := 19) B 9 rfl rfl (by decide) i_Program t_Program_ok n_Program (B.2.2.2.1 _ k_342) rfl rfl rfl rfl d_Weaver_fetch_188 ?_
          refine mvn_hp (xwi_145_9 _ _ _) (xwi_f hf) (fun h21 hf => ?_)
          exact mv_vret (pc := 191) B hr d_Weaver_fetch_191 (Nat.le_refl _) (Nat.le_refl _) ⟨rfl, xret_v hf⟩
        · skip
          have hf := x_eq_f h161 hf
          refine mv_lpick [2, 4] rfl ?_
          exact jn164 _ _ hf
    · skip
      have hf := x_eq_f h121 hf
      refine mv_aload_n (pc := 124) B d_Weaver_fetch_124 rfl 2 rfl ?_
      refine mv_iload_n (pc := 125) B d_Weaver_fetch_125 rfl 3 rfl ?_
      refine mv_iconst (pc := 126) (v := nI 2) B d_Weaver_fetch_126 (by decide) ?_
      obtain ⟨h22, eh22, hf⟩ := xev_e hf
      refine mv_callVv (pc := 127) (n := 2) (ci := 1) (C := R_Weaver) B (mK_ok sk sv) hNs rfl rfl (cx_Weaver_tell l hi _ hb _ _ _ eh22) rfl (ma_goodc kc_Weaver_tell) (B.2.2.2.1 _ k_1282) (B.2.2.2.1 _ k_1284) (B.2.2.2.1 _ ks_32) (B.2.2.2.1 _ k_2) ⟨by decide +kernel, by decide +kernel, by decide +kernel⟩ rfl d_Weaver_fetch_127 rfl (Nat.le_of_ble_eq_true rfl) ⟨by decide, by decide⟩ ⟨by decide, by decide⟩ ⟨by decide, by decide⟩ (mv_noH hno _) (fun σ127 h127 => ?_)
      subst h127
      refine mv_goto (pc := 130) (tgt := 191) B d_Weaver_fetch_130 rfl ?_
      exact mv_vret (pc := 191) B hr d_Weaver_fetch_191 (Nat.le_refl _) (Nat.le_refl _) ⟨rfl, xret_v hf⟩
  unfold g_Weaver_fetch at hf
  refine mv_aload_n (pc := 0) B d_Weaver_fetch_0 rfl 0 rfl ?_
  refine mv_getR (pc := 1) (ci := 1) (C := R_Weaver) (T := F_Weaver) (N := 16) B 0 rfl rfl (by decide) i_Weaver (B.2.2.2.1 _ k_228) rfl (hb.1.1 2 0 _ rfl) d_Weaver_fetch_1 ?_
  refine mv_sipush (pc := 4) (v := nI 204) B d_Weaver_fetch_4 (by decide) ?_
  obtain ⟨v24, h23, eh23, hf⟩ := xeb_e hf
  refine mv_callVi (pc := 7) (n := 1) (ci := 2) (C := R_Tokens) B (mK_ok sk sv) hNs rfl rfl (cx_Tokens_take l hi _ hb _ _ eh23) rfl (ma_goodc kc_Tokens_take) (B.2.2.2.1 _ k_1266) (B.2.2.2.1 _ k_1267) (B.2.2.2.1 _ k_1268) (B.2.2.2.1 _ k_3) ⟨by decide +kernel, by decide +kernel, by decide +kernel⟩ rfl d_Weaver_fetch_7 rfl (Nat.le_of_ble_eq_true rfl) ⟨by decide, by decide⟩ ⟨by decide, by decide⟩ ⟨by decide, by decide⟩ (mv_noH hno _) (fun w7 σ7 h7 => ?_)
  obtain ⟨rfl, rfl⟩ := h7
  refine mv_istore_n (pc := 10) B d_Weaver_fetch_10 rfl (by decide) rfl ?_
  refine mv_aload_n (pc := 11) B d_Weaver_fetch_11 rfl 1 rfl ?_
  refine mv_getR (pc := 12) (ci := 1) (C := R_Weaver) (T := F_Weaver) (N := 16) B 0 rfl rfl (by decide) i_Weaver (B.2.2.2.1 _ k_228) rfl (hb.1.1 2 0 _ rfl) d_Weaver_fetch_12 ?_
  refine mv_iconst (pc := 15) (v := nI 3) B d_Weaver_fetch_15 (by decide) ?_
  obtain ⟨v26, h25, eh25, hf⟩ := xeb_e hf
  refine mv_callVi (pc := 16) (n := 1) (ci := 2) (C := R_Tokens) B (mK_ok sk sv) hNs rfl rfl (cx_Tokens_take l hi _ hb _ _ eh25) rfl (ma_goodc kc_Tokens_take) (B.2.2.2.1 _ k_1266) (B.2.2.2.1 _ k_1267) (B.2.2.2.1 _ k_1268) (B.2.2.2.1 _ k_3) ⟨by decide +kernel, by decide +kernel, by decide +kernel⟩ rfl d_Weaver_fetch_16 rfl (Nat.le_of_ble_eq_true rfl) ⟨by decide, by decide⟩ ⟨by decide, by decide⟩ ⟨by decide, by decide⟩ (mv_noH hno _) (fun w16 σ16 h16 => ?_)
  obtain ⟨rfl, rfl⟩ := h16
  refine mv_istore_n (pc := 19) B d_Weaver_fetch_19 rfl (by decide) rfl ?_
  refine mv_aload_n (pc := 20) B d_Weaver_fetch_20 rfl 2 rfl ?_
  refine mv_getR (pc := 21) (ci := 1) (C := R_Weaver) (T := F_Weaver) (N := 16) B 0 rfl rfl (by decide) i_Weaver (B.2.2.2.1 _ k_228) rfl (hb.1.1 2 0 _ rfl) d_Weaver_fetch_21 ?_
  refine mv_sipush (pc := 24) (v := nI 205) B d_Weaver_fetch_24 (by decide) ?_
  obtain ⟨v28, h27, eh27, hf⟩ := xeb_e hf
  refine mv_callVi (pc := 27) (n := 1) (ci := 2) (C := R_Tokens) B (mK_ok sk sv) hNs rfl rfl (cx_Tokens_take l hi _ hb _ _ eh27) rfl (ma_goodc kc_Tokens_take) (B.2.2.2.1 _ k_1266) (B.2.2.2.1 _ k_1267) (B.2.2.2.1 _ k_1268) (B.2.2.2.1 _ k_3) ⟨by decide +kernel, by decide +kernel, by decide +kernel⟩ rfl d_Weaver_fetch_27 rfl (Nat.le_of_ble_eq_true rfl) ⟨by decide, by decide⟩ ⟨by decide, by decide⟩ ⟨by decide, by decide⟩ (mv_noH hno _) (fun w27 σ27 h27 => ?_)
  obtain ⟨rfl, rfl⟩ := h27
  refine mv_pop (pc := 30) B d_Weaver_fetch_30 rfl ?_
  refine mv_aload_n (pc := 31) B d_Weaver_fetch_31 rfl 2 rfl ?_
  refine mv_getR (pc := 32) (ci := 1) (C := R_Weaver) (T := F_Weaver) (N := 16) B 0 rfl rfl (by decide) i_Weaver (B.2.2.2.1 _ k_228) rfl (hb.1.1 2 0 _ rfl) d_Weaver_fetch_32 ?_
  refine mv_iconst (pc := 35) (v := nI 3) B d_Weaver_fetch_35 (by decide) ?_
  obtain ⟨v30, h29, eh29, hf⟩ := xeb_e hf
  refine mv_callVi (pc := 36) (n := 1) (ci := 2) (C := R_Tokens) B (mK_ok sk sv) hNs rfl rfl (cx_Tokens_take l hi _ hb _ _ eh29) rfl (ma_goodc kc_Tokens_take) (B.2.2.2.1 _ k_1266) (B.2.2.2.1 _ k_1267) (B.2.2.2.1 _ k_1268) (B.2.2.2.1 _ k_3) ⟨by decide +kernel, by decide +kernel, by decide +kernel⟩ rfl d_Weaver_fetch_36 rfl (Nat.le_of_ble_eq_true rfl) ⟨by decide, by decide⟩ ⟨by decide, by decide⟩ ⟨by decide, by decide⟩ (mv_noH hno _) (fun w36 σ36 h36 => ?_)
  obtain ⟨rfl, rfl⟩ := h36
  refine mv_istore_n (pc := 39) B d_Weaver_fetch_39 rfl (by decide) rfl ?_
  refine mv_aload_n (pc := 40) B d_Weaver_fetch_40 rfl 3 rfl ?_
  refine mv_getR (pc := 41) (ci := 1) (C := R_Weaver) (T := F_Weaver) (N := 16) B 0 rfl rfl (by decide) i_Weaver (B.2.2.2.1 _ k_228) rfl (hb.1.1 2 0 _ rfl) d_Weaver_fetch_41 ?_
  refine mv_bipush (pc := 44) (v := nI 59) B d_Weaver_fetch_44 (by decide) ?_
  obtain ⟨v32, h31, eh31, hf⟩ := xeb_e hf
  refine mv_callVi (pc := 46) (n := 1) (ci := 2) (C := R_Tokens) B (mK_ok sk sv) hNs rfl rfl (cx_Tokens_take l hi _ hb _ _ eh31) rfl (ma_goodc kc_Tokens_take) (B.2.2.2.1 _ k_1266) (B.2.2.2.1 _ k_1267) (B.2.2.2.1 _ k_1268) (B.2.2.2.1 _ k_3) ⟨by decide +kernel, by decide +kernel, by decide +kernel⟩ rfl d_Weaver_fetch_46 rfl (Nat.le_of_ble_eq_true rfl) ⟨by decide, by decide⟩ ⟨by decide, by decide⟩ ⟨by decide, by decide⟩ (mv_noH hno _) (fun w46 σ46 h46 => ?_)
  obtain ⟨rfl, rfl⟩ := h46
  refine mv_pop (pc := 49) B d_Weaver_fetch_49 rfl ?_
  refine mv_aload_n (pc := 50) B d_Weaver_fetch_50 rfl 3 rfl ?_
  refine mv_getR (pc := 51) (ci := 1) (C := R_Weaver) (T := F_Weaver) (N := 16) B 0 rfl rfl (by decide) i_Weaver (B.2.2.2.1 _ k_228) rfl (hb.1.1 2 0 _ rfl) d_Weaver_fetch_51 ?_
  obtain ⟨v34, h33, eh33, hf⟩ := xeb_e hf
  refine mv_callVi (pc := 54) (n := 0) (ci := 2) (C := R_Tokens) B (mK_ok sk sv) hNs rfl rfl (cx_Tokens_right l hi _ _ eh33) rfl (ma_goodc kc_Tokens_right) (B.2.2.2.1 _ k_1291) (B.2.2.2.1 _ k_1292) (B.2.2.2.1 _ k_1293) (B.2.2.2.1 _ k_3) ⟨by decide +kernel, by decide +kernel, by decide +kernel⟩ rfl d_Weaver_fetch_54 rfl (Nat.le_of_ble_eq_true rfl) ⟨by decide, by decide⟩ ⟨by decide, by decide⟩ ⟨by decide, by decide⟩ (mv_noH hno _) (fun w54 σ54 h54 => ?_)
  obtain ⟨rfl, rfl⟩ := h54
  refine mv_if_ne (pc := 57) (tgt := 61) B d_Weaver_fetch_57 rfl (fun h57 => ?_) (fun h57 => ?_)
  · skip
    have hf := x_eq_f (y := 0) h57 hf
    refine mv_aload_n (pc := 61) B d_Weaver_fetch_61 rfl 3 rfl ?_
    refine mv_getR (pc := 62) (ci := 1) (C := R_Weaver) (T := F_Weaver) (N := 16) B 5 rfl rfl (by decide) i_Weaver (B.2.2.2.1 _ k_235) rfl hb.1.2.2.1 d_Weaver_fetch_62 ?_
    refine mv_getI (pc := 65) (ci := 7) (C := R_Program) (T := F_Program) (N := 19) B 9 rfl rfl (by decide) i_Program (B.2.2.2.1 _ k_342) rfl d_Weaver_fetch_65 ?_
    obtain ⟨v35, ev35, hf⟩ := xer_e hf
    refine mvn_top (xfi_145_9 ev35) ?_
    refine mv_if_lt (pc := 68) (tgt := 78) B d_Weaver_fetch_68 rfl (fun h68 => ?_) (fun h68 => ?_)
    · skip
      have hf := x_lt_t (y := 0) h68 hf
      refine mv_lpick [3, 1, 0] rfl ?_
      exact jn78 _ _ _ hf
    · skip
      have hf := x_lt_f (y := 0) h68 hf
      refine mv_aload_n (pc := 71) B d_Weaver_fetch_71 rfl 3 rfl ?_
      refine mv_iload_n (pc := 72) B d_Weaver_fetch_72 rfl 2 rfl ?_
      refine mv_bipush (pc := 73) (v := nI 6) B d_Weaver_fetch_73 (by decide) ?_
      obtain ⟨h36, eh36, hf⟩ := xev_e hf
      refine mv_callVv (pc := 75) (n := 2) (ci := 1) (C := R_Weaver) B (mK_ok sk sv) hNs rfl rfl (cx_Weaver_tell l hi _ hb _ _ _ eh36) rfl (ma_goodc kc_Weaver_tell) (B.2.2.2.1 _ k_1282) (B.2.2.2.1 _ k_1284) (B.2.2.2.1 _ ks_32) (B.2.2.2.1 _ k_2) ⟨by decide +kernel, by decide +kernel, by decide +kernel⟩ rfl d_Weaver_fetch_75 rfl (Nat.le_of_ble_eq_true rfl) ⟨by decide, by decide⟩ ⟨by decide, by decide⟩ ⟨by decide, by decide⟩ (mv_noH hno _) (fun σ75 h75 => ?_)
      subst h75
      refine mv_lpick [3, 1, 0] rfl ?_
      exact jn78 _ _ _ hf
  · skip
    have hf := x_eq_t (y := 0) h57 hf
    exact mv_vret (pc := 60) B hr d_Weaver_fetch_60 (Nat.le_refl _) (Nat.le_refl _) ⟨rfl, xret_v hf⟩
def g_Weaver_openBlock (h : xE) (a0 : Nat) (a1 : Nat) (a2 : Nat) : Option xE := xeb (g_Tokens_open h 123) fun v2 h1 => xeb (g_Tokens_right h1) fun v4 h3 => bif xeq v4 0 then (some h3) else (xer (ep_g h3.1 6) fun v5 => bif Nat.blt v5 61 then xw xL_28 xS_28 h3 v5 a0 fun h7 => xer (ep_g h7.1 6) fun v8 => bif Nat.blt v8 61 then xw xL_29 xS_29 h7 v8 a1 fun h10 => xer (ep_g h10.1 6) fun v11 => bif Nat.blt v11 61 then xw xL_30 xS_30 h10 v11 a2 fun h13 => xer (ep_g h13.1 6) fun v14 => xer (ep_g h13.1 13) fun v15 => bif Nat.blt v14 61 then xw xL_31 xS_31 h13 v14 v15 fun h17 => xer (ep_g h17.1 6) fun v18 => xwi h17 6 (xadd v18 1) fun h19 => xwi h19 1 1 fun h20 => some h20 else none else none else none else none)
set_option maxHeartbeats 4000000 in
set_option maxRecDepth 100000 in
theorem cx_Weaver_openBlock (l : Launch) {dA : FieldType → ClassId} {D : va_G} {al : Nat → Nat} {sk sv : Nat → Nat} (hi : mv_inj (mg dA D al me)) (b : mv_H) (hb : xR (mv_r b)) (h : xE) (a0 : Nat) (a1 : Nat) (a2 : Nat) {rg : xE} (hf : g_Weaver_openBlock h a0 a1 a2 = some rg) : mv_C l y_Weaver_openBlock (Cond.code y_Weaver_openBlock b_Weaver_openBlock 4 (Option.none : Option Jvm.ClassFile.FieldType) :: ma) ({ frames := 3, cells := 0, slots := 0, locals := 63 }) (mg dA D al me) (mK sk sv) [.ref (al 2), .int (nI a0), .int (nI a1), .int (nI a2)] (ab b h) (mv_Rv (fun σ1 => σ1 = ab b rg)) := by
  refine mv_C.ofV (cc := b_Weaver_openBlock) (nL := 4) (ret := (Option.none : Option Jvm.ClassFile.FieldType)) (by decide +kernel) rfl hi (Nat.le_of_ble_eq_true rfl) ?_
  intro p e s m below meth c B hNs hr hnm hno
  unfold g_Weaver_openBlock at hf
  refine mv_aload_n (pc := 0) B d_Weaver_openBlock_0 rfl 0 rfl ?_
  refine mv_getR (pc := 1) (ci := 1) (C := R_Weaver) (T := F_Weaver) (N := 16) B 0 rfl rfl (by decide) i_Weaver (B.2.2.2.1 _ k_228) rfl (hb.1.1 2 0 _ rfl) d_Weaver_openBlock_1 ?_
  refine mv_bipush (pc := 4) (v := nI 123) B d_Weaver_openBlock_4 (by decide) ?_
  obtain ⟨v2, h1, eh1, hf⟩ := xeb_e hf
  refine mv_callVi (pc := 6) (n := 1) (ci := 2) (C := R_Tokens) B (mK_ok sk sv) hNs rfl rfl (cx_Tokens_open l hi _ hb _ _ eh1) rfl (ma_goodc kc_Tokens_open) (B.2.2.2.1 _ k_1349) (B.2.2.2.1 _ k_1350) (B.2.2.2.1 _ k_1351) (B.2.2.2.1 _ k_3) ⟨by decide +kernel, by decide +kernel, by decide +kernel⟩ rfl d_Weaver_openBlock_6 rfl (Nat.le_of_ble_eq_true rfl) ⟨by decide, by decide⟩ ⟨by decide, by decide⟩ ⟨by decide, by decide⟩ (mv_noH hno _) (fun w6 σ6 h6 => ?_)
  obtain ⟨rfl, rfl⟩ := h6
  refine mv_pop (pc := 9) B d_Weaver_openBlock_9 rfl ?_
  refine mv_aload_n (pc := 10) B d_Weaver_openBlock_10 rfl 0 rfl ?_
  refine mv_getR (pc := 11) (ci := 1) (C := R_Weaver) (T := F_Weaver) (N := 16) B 0 rfl rfl (by decide) i_Weaver (B.2.2.2.1 _ k_228) rfl (hb.1.1 2 0 _ rfl) d_Weaver_openBlock_11 ?_
  obtain ⟨v4, h3, eh3, hf⟩ := xeb_e hf
  refine mv_callVi (pc := 14) (n := 0) (ci := 2) (C := R_Tokens) B (mK_ok sk sv) hNs rfl rfl (cx_Tokens_right l hi _ _ eh3) rfl (ma_goodc kc_Tokens_right) (B.2.2.2.1 _ k_1291) (B.2.2.2.1 _ k_1292) (B.2.2.2.1 _ k_1293) (B.2.2.2.1 _ k_3) ⟨by decide +kernel, by decide +kernel, by decide +kernel⟩ rfl d_Weaver_openBlock_14 rfl (Nat.le_of_ble_eq_true rfl) ⟨by decide, by decide⟩ ⟨by decide, by decide⟩ ⟨by decide, by decide⟩ (mv_noH hno _) (fun w14 σ14 h14 => ?_)
  obtain ⟨rfl, rfl⟩ := h14
  refine mv_if_eq (pc := 17) (tgt := 81) B d_Weaver_openBlock_17 rfl (fun h17 => ?_) (fun h17 => ?_)
  · skip
    have hf := x_eq_t (y := 0) h17 hf
    exact mv_vret (pc := 81) B hr d_Weaver_openBlock_81 (Nat.le_refl _) (Nat.le_refl _) ⟨rfl, xret_v hf⟩
  · skip
    have hf := x_eq_f (y := 0) h17 hf
    refine mv_aload_n (pc := 20) B d_Weaver_openBlock_20 rfl 0 rfl ?_
    refine mv_getR (pc := 21) (ci := 1) (C := R_Weaver) (T := F_Weaver) (N := 16) B 11 rfl rfl (by decide) i_Weaver (B.2.2.2.1 _ k_241) rfl (hb.1.1 2 11 _ rfl) d_Weaver_openBlock_21 ?_
    refine mv_aload_n (pc := 24) B d_Weaver_openBlock_24 rfl 0 rfl ?_
    refine mv_getI (pc := 25) (ci := 1) (C := R_Weaver) (T := F_Weaver) (N := 16) B 15 rfl rfl (by decide) i_Weaver (B.2.2.2.1 _ k_245) rfl d_Weaver_openBlock_25 ?_
    obtain ⟨v5, ev5, hf⟩ := xer_e hf
    refine mvn_top (xfi_2_15 ev5) ?_
    refine mv_iload_n (pc := 28) B d_Weaver_openBlock_28 rfl 1 rfl ?_
    obtain ⟨q6, hf⟩ := xix_e hf
    refine mv_iast (pc := 29) B rfl (xin q6 (by decide)) d_Weaver_openBlock_29 ?_
    refine mvn_hp (xwa_28 _ _ _ q6) (xw_f xLe_28 xSe_28 hf) (fun h7 hf => ?_)
    refine mv_aload_n (pc := 30) B d_Weaver_openBlock_30 rfl 0 rfl ?_
    refine mv_getR (pc := 31) (ci := 1) (C := R_Weaver) (T := F_Weaver) (N := 16) B 12 rfl rfl (by decide) i_Weaver (B.2.2.2.1 _ k_242) rfl (hb.1.1 2 12 _ rfl) d_Weaver_openBlock_31 ?_
    refine mv_aload_n (pc := 34) B d_Weaver_openBlock_34 rfl 0 rfl ?_
    refine mv_getI (pc := 35) (ci := 1) (C := R_Weaver) (T := F_Weaver) (N := 16) B 15 rfl rfl (by decide) i_Weaver (B.2.2.2.1 _ k_245) rfl d_Weaver_openBlock_35 ?_
    obtain ⟨v8, ev8, hf⟩ := xer_e hf
    refine mvn_top (xfi_2_15 ev8) ?_
    refine mv_iload_n (pc := 38) B d_Weaver_openBlock_38 rfl 2 rfl ?_
    obtain ⟨q9, hf⟩ := xix_e hf
    refine mv_iast (pc := 39) B rfl (xin q9 (by decide)) d_Weaver_openBlock_39 ?_
    refine mvn_hp (xwa_29 _ _ _ q9) (xw_f xLe_29 xSe_29 hf) (fun h10 hf => ?_)
    refine mv_aload_n (pc := 40) B d_Weaver_openBlock_40 rfl 0 rfl ?_
    refine mv_getR (pc := 41) (ci := 1) (C := R_Weaver) (T := F_Weaver) (N := 16) B 13 rfl rfl (by decide) i_Weaver (B.2.2.2.1 _ k_243) rfl (hb.1.1 2 13 _ rfl) d_Weaver_openBlock_41 ?_
    refine mv_aload_n (pc := 44) B d_Weaver_openBlock_44 rfl 0 rfl ?_
    refine mv_getI (pc := 45) (ci := 1) (C := R_Weaver) (T := F_Weaver) (N := 16) B 15 rfl rfl (by decide) i_Weaver (B.2.2.2.1 _ k_245) rfl d_Weaver_openBlock_45 ?_
    obtain ⟨v11, ev11, hf⟩ := xer_e hf
    refine mvn_top (xfi_2_15 ev11) ?_
    refine mv_iload_n (pc := 48) B d_Weaver_openBlock_48 rfl 3 rfl ?_
    obtain ⟨q12, hf⟩ := xix_e hf
    refine mv_iast (pc := 49) B rfl (xin q12 (by decide)) d_Weaver_openBlock_49 ?_
    refine mvn_hp (xwa_30 _ _ _ q12) (xw_f xLe_30 xSe_30 hf) (fun h13 hf => ?_)
    refine mv_aload_n (pc := 50) B d_Weaver_openBlock_50 rfl 0 rfl ?_
    refine mv_getR (pc := 51) (ci := 1) (C := R_Weaver) (T := F_Weaver) (N := 16) B 14 rfl rfl (by decide) i_Weaver (B.2.2.2.1 _ k_244) rfl (hb.1.1 2 14 _ rfl) d_Weaver_openBlock_51 ?_
    refine mv_aload_n (pc := 54) B d_Weaver_openBlock_54 rfl 0 rfl ?_
    refine mv_getI (pc := 55) (ci := 1) (C := R_Weaver) (T := F_Weaver) (N := 16) B 15 rfl rfl (by decide) i_Weaver (B.2.2.2.1 _ k_245) rfl d_Weaver_openBlock_55 ?_
    obtain ⟨v14, ev14, hf⟩ := xer_e hf
    refine mvn_top (xfi_2_15 ev14) ?_
    refine mv_aload_n (pc := 58) B d_Weaver_openBlock_58 rfl 0 rfl ?_
    refine mv_getR (pc := 59) (ci := 1) (C := R_Weaver) (T := F_Weaver) (N := 16) B 1 rfl rfl (by decide) i_Weaver (B.2.2.2.1 _ k_229) rfl (hb.1.1 2 1 _ rfl) d_Weaver_openBlock_59 ?_
    refine mv_getI (pc := 62) (ci := 4) (C := R_Names) (T := F_Names) (N := 10) B 7 rfl rfl (by decide) i_Names (B.2.2.2.1 _ k_145) rfl d_Weaver_openBlock_62 ?_
    obtain ⟨v15, ev15, hf⟩ := xer_e hf
    refine mvn_top (xfi_13_7 ev15) ?_
    obtain ⟨q16, hf⟩ := xix_e hf
    refine mv_iast (pc := 65) B rfl (xin q16 (by decide)) d_Weaver_openBlock_65 ?_
    refine mvn_hp (xwa_31 _ _ _ q16) (xw_f xLe_31 xSe_31 hf) (fun h17 hf => ?_)
    refine mv_aload_n (pc := 66) B d_Weaver_openBlock_66 rfl 0 rfl ?_
    refine mv_dup (pc := 67) B d_Weaver_openBlock_67 rfl ?_
    refine mv_getI (pc := 68) (ci := 1) (C := R_Weaver) (T := F_Weaver) (N := 16) B 15 rfl rfl (by decide) i_Weaver (B.2.2.2.1 _ k_245) rfl d_Weaver_openBlock_68 ?_
    obtain ⟨v18, ev18, hf⟩ := xer_e hf
    refine mvn_top (xfi_2_15 ev18) ?_
    refine mv_iconst (pc := 71) (v := nI 1) B d_Weaver_openBlock_71 (by decide) ?_
    refine mvn_iadd (pc := 72) B d_Weaver_openBlock_72 ?_
    refine mv_putI (pc := 73) (ci := 1) (C := R_Weaver) (T := F_Weaver) (N := 16) B 15 rfl rfl (by decide) i_Weaver t_Weaver_ok n_Weaver (B.2.2.2.1 _ k_245) rfl rfl rfl rfl d_Weaver_openBlock_73 ?_
    refine mvn_hp (xwi_2_15 _ _ _) (xwi_f hf) (fun h19 hf => ?_)
    refine mv_aload_n (pc := 76) B d_Weaver_openBlock_76 rfl 0 rfl ?_
    refine mv_iconst (pc := 77) (v := nI 1) B d_Weaver_openBlock_77 (by decide) ?_
    refine mv_putI (pc := 78) (ci := 1) (C := R_Weaver) (T := F_Weaver) (N := 16) B 6 rfl rfl (by decide) i_Weaver t_Weaver_ok n_Weaver (B.2.2.2.1 _ k_236) rfl rfl rfl rfl d_Weaver_openBlock_78 ?_
    refine mvn_hp (xwi_2_6 _ _ _) (xwi_f hf) (fun h20 hf => ?_)
    exact mv_vret (pc := 81) B hr d_Weaver_openBlock_81 (Nat.le_refl _) (Nat.le_refl _) ⟨rfl, xret_v hf⟩
def g_Weaver_op_171 (x3 : Nat) (x4 : Nat) (x5 : Nat) (h : xE) : Option xE := bif Nat.blt x3 16448 then xw xL_16 xS_16 h x3 (xi2b 1) fun h2 => xer (ep_g h2.1 20) fun v3 => xev (g_Names_enterOp h2 x4 x5 v3) fun h4 => some h4 else none
def g_Weaver_op_153 (x2 : Nat) (x3 : Nat) (x4 : Nat) (x5 : Nat) (h : xE) : Option xE := xer (ep_g h.1 20) fun v5 => bif xeq x5 v5 then (g_Weaver_op_171 x3 x4 x5 h) else (xev (g_Weaver_tell h x2 5) fun h6 => g_Weaver_op_171 x3 x4 x5 h6)
def g_Weaver_op (h : xE) : Option xE := xeb (g_Tokens_take h 206) fun v8 h7 => xeb (g_Tokens_take h7 3) fun v10 h9 => xeb (g_Tokens_take h9 5) fun v12 h11 => xev (g_Weaver_openBlock h11 206 4294967295 4294967295) fun h13 => xeb (g_Tokens_right h13) fun v15 h14 => bif xeq v15 0 then (some h14) else (xeb (g_Weaver_symbolOf h14 v10) fun v17 h16 => bif Nat.blt v12 32770 then xer (ep_g (xL_5 h16.2) v12) fun v19 => bif Nat.blt v12 32770 then xer (ep_g (xL_6 h16.2) v12) fun v21 => bif Nat.blt v17 16448 then xer (ep_g (xL_16 h16.2) v17) fun v23 => bif xeq v23 1 then (xev (g_Weaver_tell h16 v10 2) fun h28 => g_Weaver_op_153 v12 v17 (xadd v19 1) (v21 % 4294967296) h28) else (xer (ep_g h16.1 26) fun v24 => bif xeq v24 512 then (xev (g_Weaver_tell h16 v10 6) fun h27 => g_Weaver_op_153 v12 v17 (xadd v19 1) (v21 % 4294967296) h27) else (xer (ep_g h16.1 20) fun v25 => bif xeq (v21 % 4294967296) v25 then (xev (g_Program_addOp h16 (xadd v19 1)) fun h26 => g_Weaver_op_153 v12 v17 (xadd v19 1) (v21 % 4294967296) h26) else (g_Weaver_op_153 v12 v17 (xadd v19 1) (v21 % 4294967296) h16))) else none else none else none)
set_option maxHeartbeats 4000000 in
set_option maxRecDepth 100000 in
theorem cx_Weaver_op (l : Launch) {dA : FieldType → ClassId} {D : va_G} {al : Nat → Nat} {sk sv : Nat → Nat} (hi : mv_inj (mg dA D al me)) (b : mv_H) (hb : xR (mv_r b)) (h : xE) {rg : xE} (hf : g_Weaver_op h = some rg) : mv_C l y_Weaver_op (Cond.code y_Weaver_op b_Weaver_op 6 (Option.none : Option Jvm.ClassFile.FieldType) :: ma) ({ frames := 4, cells := 0, slots := 0, locals := 86 }) (mg dA D al me) (mK sk sv) [.ref (al 2)] (ab b h) (mv_Rv (fun σ1 => σ1 = ab b rg)) := by
  refine mv_C.ofV (cc := b_Weaver_op) (nL := 6) (ret := (Option.none : Option Jvm.ClassFile.FieldType)) (by decide +kernel) rfl hi (Nat.le_of_ble_eq_true rfl) ?_
  intro p e s m below meth c B hNs hr hnm hno
  have jn171 : ∀ (x3 : Nat) (x4 : Nat) (x5 : Nat) (h : xE), g_Weaver_op_171 x3 x4 x5 h = some rg → mv_V p l e ({ frames := 4, cells := 0, slots := 0, locals := 86 }) s m ([.ref (al 2)] : List Value).toArray below meth c (mg dA D al me) 6 0 0 (mv_Q (mg dA D al me) below s 0 0 (mv_Rv (fun σ1 => σ1 = ab b rg))) (ab b h) 171 [(0, .ref (al 2)), (3, .int (nI x3)), (4, .int (nI x4)), (5, .int (nI x5))] [] := by
    intro x3 x4 x5 h hf
    unfold g_Weaver_op_171 at hf
    refine mv_aload_n (pc := 171) B d_Weaver_op_171 rfl 0 rfl ?_
    refine mv_getR (pc := 172) (ci := 1) (C := R_Weaver) (T := F_Weaver) (N := 16) B 1 rfl rfl (by decide) i_Weaver (B.2.2.2.1 _ k_229) rfl (hb.1.1 2 1 _ rfl) d_Weaver_op_172 ?_
    refine mv_getR (pc := 175) (ci := 4) (C := R_Names) (T := F_Names) (N := 10) B 3 rfl rfl (by decide) i_Names (B.2.2.2.1 _ k_140) rfl (hb.1.1 13 3 _ rfl) d_Weaver_op_175 ?_
    refine mv_iload_n (pc := 178) B d_Weaver_op_178 rfl 1 rfl ?_
    refine mv_iconst (pc := 179) (v := nI 1) B d_Weaver_op_179 (by decide) ?_
    obtain ⟨q1, hf⟩ := xix_e hf
    refine mv_bast (pc := 180) B rfl (xin q1 (by decide)) d_Weaver_op_180 ?_
    rw [xnb]
    refine mvn_hp (xwa_16 _ _ _ q1) (xw_f xLe_16 xSe_16 hf) (fun h2 hf => ?_)
    refine mv_aload_n (pc := 181) B d_Weaver_op_181 rfl 0 rfl ?_
    refine mv_getR (pc := 182) (ci := 1) (C := R_Weaver) (T := F_Weaver) (N := 16) B 1 rfl rfl (by decide) i_Weaver (B.2.2.2.1 _ k_229) rfl (hb.1.1 2 1 _ rfl) d_Weaver_op_182 ?_
    refine mv_aload_n (pc := 185) B d_Weaver_op_185 rfl 0 rfl ?_
    refine mv_getR (pc := 186) (ci := 1) (C := R_Weaver) (T := F_Weaver) (N := 16) B 0 rfl rfl (by decide) i_Weaver (B.2.2.2.1 _ k_228) rfl (hb.1.1 2 0 _ rfl) d_Weaver_op_186 ?_
    refine mv_getR (pc := 189) (ci := 2) (C := R_Tokens) (T := F_Tokens) (N := 10) B 4 rfl rfl (by decide) i_Tokens (B.2.2.2.1 _ k_99) rfl hb.2 d_Weaver_op_189 ?_
    refine mv_iload (pc := 192) B d_Weaver_op_192 2 rfl ?_
    refine mv_iload (pc := 194) B d_Weaver_op_194 3 rfl ?_
    refine mv_aload_n (pc := 196) B d_Weaver_op_196 rfl 0 rfl ?_
    refine mv_getR (pc := 197) (ci := 1) (C := R_Weaver) (T := F_Weaver) (N := 16) B 5 rfl rfl (by decide) i_Weaver (B.2.2.2.1 _ k_235) rfl hb.1.2.2.1 d_Weaver_op_197 ?_
    refine mv_getI (pc := 200) (ci := 7) (C := R_Program) (T := F_Program) (N := 19) B 0 rfl rfl (by decide) i_Program (B.2.2.2.1 _ k_313) rfl d_Weaver_op_200 ?_
    obtain ⟨v3, ev3, hf⟩ := xer_e hf
    refine mvn_top (xfi_145_0 ev3) ?_
    obtain ⟨h4, eh4, hf⟩ := xev_e hf
    refine mv_callVv (pc := 203) (n := 4) (ci := 4) (C := R_Names) B (mK_ok sk sv) hNs rfl rfl (cx_Names_enterOp l hi _ hb _ _ _ _ eh4) rfl (ma_goodc kc_Names_enterOp) (B.2.2.2.1 _ k_1358) (B.2.2.2.1 _ k_1359) (B.2.2.2.1 _ k_1360) (B.2.2.2.1 _ k_5) ⟨by decide +kernel, by decide +kernel, by decide +kernel⟩ rfl d_Weaver_op_203 rfl (Nat.le_of_ble_eq_true rfl) ⟨by decide, by decide⟩ ⟨by decide, by decide⟩ ⟨by decide, by decide⟩ (mv_noH hno _) (fun σ203 h203 => ?_)
    subst h203
    exact mv_vret (pc := 206) B hr d_Weaver_op_206 (Nat.le_refl _) (Nat.le_refl _) ⟨rfl, xret_v hf⟩
  have jn153 : ∀ (x2 : Nat) (x3 : Nat) (x4 : Nat) (x5 : Nat) (h : xE), g_Weaver_op_153 x2 x3 x4 x5 h = some rg → mv_V p l e ({ frames := 4, cells := 0, slots := 0, locals := 86 }) s m ([.ref (al 2)] : List Value).toArray below meth c (mg dA D al me) 6 0 0 (mv_Q (mg dA D al me) below s 0 0 (mv_Rv (fun σ1 => σ1 = ab b rg))) (ab b h) 153 [(0, .ref (al 2)), (2, .int (nI x2)), (3, .int (nI x3)), (4, .int (nI x4)), (5, .int (nI x5))] [] := by
    intro x2 x3 x4 x5 h hf
    unfold g_Weaver_op_153 at hf
    refine mv_iload (pc := 153) B d_Weaver_op_153 4 rfl ?_
    refine mv_aload_n (pc := 155) B d_Weaver_op_155 rfl 0 rfl ?_
    refine mv_getR (pc := 156) (ci := 1) (C := R_Weaver) (T := F_Weaver) (N := 16) B 5 rfl rfl (by decide) i_Weaver (B.2.2.2.1 _ k_235) rfl hb.1.2.2.1 d_Weaver_op_156 ?_
    refine mv_getI (pc := 159) (ci := 7) (C := R_Program) (T := F_Program) (N := 19) B 0 rfl rfl (by decide) i_Program (B.2.2.2.1 _ k_313) rfl d_Weaver_op_159 ?_
    obtain ⟨v5, ev5, hf⟩ := xer_e hf
    refine mvn_top (xfi_145_0 ev5) ?_
    refine mv_icmp_eq (pc := 162) (tgt := 171) B d_Weaver_op_162 rfl (fun h162 => ?_) (fun h162 => ?_)
    · skip
      have hf := x_eq_t h162 hf
      refine mv_lpick [0, 2, 3, 4] rfl ?_
      exact jn171 _ _ _ _ hf
    · skip
      have hf := x_eq_f h162 hf
      refine mv_aload_n (pc := 165) B d_Weaver_op_165 rfl 0 rfl ?_
      refine mv_iload_n (pc := 166) B d_Weaver_op_166 rfl 1 rfl ?_
      refine mv_iconst (pc := 167) (v := nI 5) B d_Weaver_op_167 (by decide) ?_
      obtain ⟨h6, eh6, hf⟩ := xev_e hf
      refine mv_callVv (pc := 168) (n := 2) (ci := 1) (C := R_Weaver) B (mK_ok sk sv) hNs rfl rfl (cx_Weaver_tell l hi _ hb _ _ _ eh6) rfl (ma_goodc kc_Weaver_tell) (B.2.2.2.1 _ k_1282) (B.2.2.2.1 _ k_1284) (B.2.2.2.1 _ ks_32) (B.2.2.2.1 _ k_2) ⟨by decide +kernel, by decide +kernel, by decide +kernel⟩ rfl d_Weaver_op_168 rfl (Nat.le_of_ble_eq_true rfl) ⟨by decide, by decide⟩ ⟨by decide, by decide⟩ ⟨by decide, by decide⟩ (mv_noH hno _) (fun σ168 h168 => ?_)
      subst h168
      refine mv_lpick [0, 2, 3, 4] rfl ?_
      exact jn171 _ _ _ _ hf
  unfold g_Weaver_op at hf
  refine mv_aload_n (pc := 0) B d_Weaver_op_0 rfl 0 rfl ?_
  refine mv_getR (pc := 1) (ci := 1) (C := R_Weaver) (T := F_Weaver) (N := 16) B 0 rfl rfl (by decide) i_Weaver (B.2.2.2.1 _ k_228) rfl (hb.1.1 2 0 _ rfl) d_Weaver_op_1 ?_
  refine mv_sipush (pc := 4) (v := nI 206) B d_Weaver_op_4 (by decide) ?_
  obtain ⟨v8, h7, eh7, hf⟩ := xeb_e hf
  refine mv_callVi (pc := 7) (n := 1) (ci := 2) (C := R_Tokens) B (mK_ok sk sv) hNs rfl rfl (cx_Tokens_take l hi _ hb _ _ eh7) rfl (ma_goodc kc_Tokens_take) (B.2.2.2.1 _ k_1266) (B.2.2.2.1 _ k_1267) (B.2.2.2.1 _ k_1268) (B.2.2.2.1 _ k_3) ⟨by decide +kernel, by decide +kernel, by decide +kernel⟩ rfl d_Weaver_op_7 rfl (Nat.le_of_ble_eq_true rfl) ⟨by decide, by decide⟩ ⟨by decide, by decide⟩ ⟨by decide, by decide⟩ (mv_noH hno _) (fun w7 σ7 h7 => ?_)
  obtain ⟨rfl, rfl⟩ := h7
  refine mv_pop (pc := 10) B d_Weaver_op_10 rfl ?_
  refine mv_aload_n (pc := 11) B d_Weaver_op_11 rfl 0 rfl ?_
  refine mv_getR (pc := 12) (ci := 1) (C := R_Weaver) (T := F_Weaver) (N := 16) B 0 rfl rfl (by decide) i_Weaver (B.2.2.2.1 _ k_228) rfl (hb.1.1 2 0 _ rfl) d_Weaver_op_12 ?_
  refine mv_iconst (pc := 15) (v := nI 3) B d_Weaver_op_15 (by decide) ?_
  obtain ⟨v10, h9, eh9, hf⟩ := xeb_e hf
  refine mv_callVi (pc := 16) (n := 1) (ci := 2) (C := R_Tokens) B (mK_ok sk sv) hNs rfl rfl (cx_Tokens_take l hi _ hb _ _ eh9) rfl (ma_goodc kc_Tokens_take) (B.2.2.2.1 _ k_1266) (B.2.2.2.1 _ k_1267) (B.2.2.2.1 _ k_1268) (B.2.2.2.1 _ k_3) ⟨by decide +kernel, by decide +kernel, by decide +kernel⟩ rfl d_Weaver_op_16 rfl (Nat.le_of_ble_eq_true rfl) ⟨by decide, by decide⟩ ⟨by decide, by decide⟩ ⟨by decide, by decide⟩ (mv_noH hno _) (fun w16 σ16 h16 => ?_)
  obtain ⟨rfl, rfl⟩ := h16
  refine mv_istore_n (pc := 19) B d_Weaver_op_19 rfl (by decide) rfl ?_
  refine mv_aload_n (pc := 20) B d_Weaver_op_20 rfl 1 rfl ?_
  refine mv_getR (pc := 21) (ci := 1) (C := R_Weaver) (T := F_Weaver) (N := 16) B 0 rfl rfl (by decide) i_Weaver (B.2.2.2.1 _ k_228) rfl (hb.1.1 2 0 _ rfl) d_Weaver_op_21 ?_
  refine mv_iconst (pc := 24) (v := nI 5) B d_Weaver_op_24 (by decide) ?_
  obtain ⟨v12, h11, eh11, hf⟩ := xeb_e hf
  refine mv_callVi (pc := 25) (n := 1) (ci := 2) (C := R_Tokens) B (mK_ok sk sv) hNs rfl rfl (cx_Tokens_take l hi _ hb _ _ eh11) rfl (ma_goodc kc_Tokens_take) (B.2.2.2.1 _ k_1266) (B.2.2.2.1 _ k_1267) (B.2.2.2.1 _ k_1268) (B.2.2.2.1 _ k_3) ⟨by decide +kernel, by decide +kernel, by decide +kernel⟩ rfl d_Weaver_op_25 rfl (Nat.le_of_ble_eq_true rfl) ⟨by decide, by decide⟩ ⟨by decide, by decide⟩ ⟨by decide, by decide⟩ (mv_noH hno _) (fun w25 σ25 h25 => ?_)
  obtain ⟨rfl, rfl⟩ := h25
  refine mv_istore_n (pc := 28) B d_Weaver_op_28 rfl (by decide) rfl ?_
  refine mv_aload_n (pc := 29) B d_Weaver_op_29 rfl 2 rfl ?_
  refine mv_sipush (pc := 30) (v := nI 206) B d_Weaver_op_30 (by decide) ?_
  refine mv_iconst (pc := 33) (v := nI 4294967295) B d_Weaver_op_33 (by decide) ?_
  refine mv_iconst (pc := 34) (v := nI 4294967295) B d_Weaver_op_34 (by decide) ?_
  obtain ⟨h13, eh13, hf⟩ := xev_e hf
  refine mv_callVv (pc := 35) (n := 3) (ci := 1) (C := R_Weaver) B (mK_ok sk sv) hNs rfl rfl (cx_Weaver_openBlock l hi _ hb _ _ _ _ eh13) rfl (ma_goodc kc_Weaver_openBlock) (B.2.2.2.1 _ k_1345) (B.2.2.2.1 _ k_1347) (B.2.2.2.1 _ ks_41) (B.2.2.2.1 _ k_2) ⟨by decide +kernel, by decide +kernel, by decide +kernel⟩ rfl d_Weaver_op_35 rfl (Nat.le_of_ble_eq_true rfl) ⟨by decide, by decide⟩ ⟨by decide, by decide⟩ ⟨by decide, by decide⟩ (mv_noH hno _) (fun σ35 h35 => ?_)
  subst h35
  refine mv_aload_n (pc := 38) B d_Weaver_op_38 rfl 2 rfl ?_
  refine mv_getR (pc := 39) (ci := 1) (C := R_Weaver) (T := F_Weaver) (N := 16) B 0 rfl rfl (by decide) i_Weaver (B.2.2.2.1 _ k_228) rfl (hb.1.1 2 0 _ rfl) d_Weaver_op_39 ?_
  obtain ⟨v15, h14, eh14, hf⟩ := xeb_e hf
  refine mv_callVi (pc := 42) (n := 0) (ci := 2) (C := R_Tokens) B (mK_ok sk sv) hNs rfl rfl (cx_Tokens_right l hi _ _ eh14) rfl (ma_goodc kc_Tokens_right) (B.2.2.2.1 _ k_1291) (B.2.2.2.1 _ k_1292) (B.2.2.2.1 _ k_1293) (B.2.2.2.1 _ k_3) ⟨by decide +kernel, by decide +kernel, by decide +kernel⟩ rfl d_Weaver_op_42 rfl (Nat.le_of_ble_eq_true rfl) ⟨by decide, by decide⟩ ⟨by decide, by decide⟩ ⟨by decide, by decide⟩ (mv_noH hno _) (fun w42 σ42 h42 => ?_)
  obtain ⟨rfl, rfl⟩ := h42
  refine mv_if_ne (pc := 45) (tgt := 49) B d_Weaver_op_45 rfl (fun h45 => ?_) (fun h45 => ?_)
  · skip
    have hf := x_eq_f (y := 0) h45 hf
    refine mv_aload_n (pc := 49) B d_Weaver_op_49 rfl 2 rfl ?_
    refine mv_iload_n (pc := 50) B d_Weaver_op_50 rfl 1 rfl ?_
    obtain ⟨v17, h16, eh16, hf⟩ := xeb_e hf
    refine mv_callVi (pc := 51) (n := 1) (ci := 1) (C := R_Weaver) B (mK_ok sk sv) hNs rfl rfl (cx_Weaver_symbolOf l hi _ hb _ _ eh16) rfl (ma_goodc kc_Weaver_symbolOf) (B.2.2.2.1 _ k_1312) (B.2.2.2.1 _ k_1314) (B.2.2.2.1 _ ks_37) (B.2.2.2.1 _ k_2) ⟨by decide +kernel, by decide +kernel, by decide +kernel⟩ rfl d_Weaver_op_51 rfl (Nat.le_of_ble_eq_true rfl) ⟨by decide, by decide⟩ ⟨by decide, by decide⟩ ⟨by decide, by decide⟩ (mv_noH hno _) (fun w51 σ51 h51 => ?_)
    obtain ⟨rfl, rfl⟩ := h51
    refine mv_istore_n (pc := 54) B d_Weaver_op_54 rfl (by decide) rfl ?_
    refine mv_aload_n (pc := 55) B d_Weaver_op_55 rfl 3 rfl ?_
    refine mv_getR (pc := 56) (ci := 1) (C := R_Weaver) (T := F_Weaver) (N := 16) B 0 rfl rfl (by decide) i_Weaver (B.2.2.2.1 _ k_228) rfl (hb.1.1 2 0 _ rfl) d_Weaver_op_56 ?_
    refine mv_getR (pc := 59) (ci := 2) (C := R_Tokens) (T := F_Tokens) (N := 10) B 1 rfl rfl (by decide) i_Tokens (B.2.2.2.1 _ k_91) rfl (hb.1.1 3 1 _ rfl) d_Weaver_op_59 ?_
    refine mv_iload_n (pc := 62) B d_Weaver_op_62 rfl 1 rfl ?_
    obtain ⟨q18, hf⟩ := xix_e hf
    refine mv_iald (pc := 63) B rfl (xin q18 (by decide)) d_Weaver_op_63 ?_
    obtain ⟨v19, ev19, hf⟩ := xer_e hf
    refine mvn_top (xfa_5 q18 ev19) ?_
    refine mv_iconst (pc := 64) (v := nI 1) B d_Weaver_op_64 (by decide) ?_
    refine mvn_iadd (pc := 65) B d_Weaver_op_65 ?_
    refine mv_istore (pc := 66) B d_Weaver_op_66 (by decide) rfl ?_
    refine mv_aload_n (pc := 68) B d_Weaver_op_68 rfl 4 rfl ?_
    refine mv_getR (pc := 69) (ci := 1) (C := R_Weaver) (T := F_Weaver) (N := 16) B 0 rfl rfl (by decide) i_Weaver (B.2.2.2.1 _ k_228) rfl (hb.1.1 2 0 _ rfl) d_Weaver_op_69 ?_
    refine mv_getR (pc := 72) (ci := 2) (C := R_Tokens) (T := F_Tokens) (N := 10) B 2 rfl rfl (by decide) i_Tokens (B.2.2.2.1 _ k_94) rfl (hb.1.1 3 2 _ rfl) d_Weaver_op_72 ?_
    refine mv_iload_n (pc := 75) B d_Weaver_op_75 rfl 2 rfl ?_
    obtain ⟨q20, hf⟩ := xix_e hf
    refine mv_lald (pc := 76) B rfl (xin q20 (by decide)) d_Weaver_op_76 ?_
    obtain ⟨v21, ev21, hf⟩ := xer_e hf
    refine mvn_topl (xfb_6 q20 ev21) ?_
    refine mvn_l2i (pc := 77) B d_Weaver_op_77 ?_
    refine mv_istore (pc := 78) B d_Weaver_op_78 (by decide) rfl ?_
    refine mv_aload_n (pc := 80) B d_Weaver_op_80 rfl 5 rfl ?_
    refine mv_getR (pc := 81) (ci := 1) (C := R_Weaver) (T := F_Weaver) (N := 16) B 1 rfl rfl (by decide) i_Weaver (B.2.2.2.1 _ k_229) rfl (hb.1.1 2 1 _ rfl) d_Weaver_op_81 ?_
    refine mv_getR (pc := 84) (ci := 4) (C := R_Names) (T := F_Names) (N := 10) B 3 rfl rfl (by decide) i_Names (B.2.2.2.1 _ k_140) rfl (hb.1.1 13 3 _ rfl) d_Weaver_op_84 ?_
    refine mv_iload_n (pc := 87) B d_Weaver_op_87 rfl 2 rfl ?_
    obtain ⟨q22, hf⟩ := xix_e hf
    refine mv_bald (pc := 88) B rfl (xin q22 (by decide)) d_Weaver_op_88 ?_
    obtain ⟨v23, ev23, hf⟩ := xer_e hf
    refine mvn_top (xfa_16 q22 ev23) ?_
    refine mv_iconst (pc := 89) (v := nI 1) B d_Weaver_op_89 (by decide) ?_
    refine mv_icmp_ne (pc := 90) (tgt := 102) B d_Weaver_op_90 rfl (fun h90 => ?_) (fun h90 => ?_)
    · skip
      have hf := x_eq_f h90 hf
      refine mv_aload_n (pc := 102) B d_Weaver_op_102 rfl 5 rfl ?_
      refine mv_getR (pc := 103) (ci := 1) (C := R_Weaver) (T := F_Weaver) (N := 16) B 5 rfl rfl (by decide) i_Weaver (B.2.2.2.1 _ k_235) rfl hb.1.2.2.1 d_Weaver_op_103 ?_
      refine mv_getI (pc := 106) (ci := 7) (C := R_Program) (T := F_Program) (N := 19) B 10 rfl rfl (by decide) i_Program (B.2.2.2.1 _ k_347) rfl d_Weaver_op_106 ?_
      obtain ⟨v24, ev24, hf⟩ := xer_e hf
      refine mvn_top (xfi_145_10 ev24) ?_
      refine mv_sipush (pc := 109) (v := nI 512) B d_Weaver_op_109 (by decide) ?_
      refine mv_icmp_ne (pc := 112) (tgt := 125) B d_Weaver_op_112 rfl (fun h112 => ?_) (fun h112 => ?_)
      · skip
        have hf := x_eq_f h112 hf
        refine mv_iload (pc := 125) B d_Weaver_op_125 0 rfl ?_
        refine mv_aload_n (pc := 127) B d_Weaver_op_127 rfl 5 rfl ?_
        refine mv_getR (pc := 128) (ci := 1) (C := R_Weaver) (T := F_Weaver) (N := 16) B 5 rfl rfl (by decide) i_Weaver (B.2.2.2.1 _ k_235) rfl hb.1.2.2.1 d_Weaver_op_128 ?_
        refine mv_getI (pc := 131) (ci := 7) (C := R_Program) (T := F_Program) (N := 19) B 0 rfl rfl (by decide) i_Program (B.2.2.2.1 _ k_313) rfl d_Weaver_op_131 ?_
        obtain ⟨v25, ev25, hf⟩ := xer_e hf
        refine mvn_top (xfi_145_0 ev25) ?_
        refine mv_icmp_ne (pc := 134) (tgt := 153) B d_Weaver_op_134 rfl (fun h134 => ?_) (fun h134 => ?_)
        · skip
          have hf := x_eq_f h134 hf
          refine mv_lpick [5, 3, 2, 1, 0] rfl ?_
          exact jn153 _ _ _ _ _ hf
        · skip
          have hf := x_eq_t h134 hf
          refine mv_aload_n (pc := 137) B d_Weaver_op_137 rfl 5 rfl ?_
          refine mv_getR (pc := 138) (ci := 1) (C := R_Weaver) (T := F_Weaver) (N := 16) B 5 rfl rfl (by decide) i_Weaver (B.2.2.2.1 _ k_235) rfl hb.1.2.2.1 d_Weaver_op_138 ?_
          refine mv_aload_n (pc := 141) B d_Weaver_op_141 rfl 5 rfl ?_
          refine mv_getR (pc := 142) (ci := 1) (C := R_Weaver) (T := F_Weaver) (N := 16) B 0 rfl rfl (by decide) i_Weaver (B.2.2.2.1 _ k_228) rfl (hb.1.1 2 0 _ rfl) d_Weaver_op_142 ?_
          refine mv_getR (pc := 145) (ci := 2) (C := R_Tokens) (T := F_Tokens) (N := 10) B 4 rfl rfl (by decide) i_Tokens (B.2.2.2.1 _ k_99) rfl hb.2 d_Weaver_op_145 ?_
          refine mv_iload (pc := 148) B d_Weaver_op_148 1 rfl ?_
          obtain ⟨h26, eh26, hf⟩ := xev_e hf
          refine mv_callVv (pc := 150) (n := 2) (ci := 7) (C := R_Program) B (mK_ok sk sv) hNs rfl rfl (cx_Program_addOp l hi _ hb _ _ eh26) rfl (ma_goodc kc_Program_addOp) (B.2.2.2.1 _ k_1354) (B.2.2.2.1 _ k_1355) (B.2.2.2.1 _ k_1356) (B.2.2.2.1 _ k_8) ⟨by decide +kernel, by decide +kernel, by decide +kernel⟩ rfl d_Weaver_op_150 rfl (Nat.le_of_ble_eq_true rfl) ⟨by decide, by decide⟩ ⟨by decide, by decide⟩ ⟨by decide, by decide⟩ (mv_noH hno _) (fun σ150 h150 => ?_)
          subst h150
          refine mv_lpick [5, 3, 2, 1, 0] rfl ?_
          exact jn153 _ _ _ _ _ hf
      · skip
        have hf := x_eq_t h112 hf
        refine mv_aload_n (pc := 115) B d_Weaver_op_115 rfl 5 rfl ?_
        refine mv_iload_n (pc := 116) B d_Weaver_op_116 rfl 4 rfl ?_
        refine mv_bipush (pc := 117) (v := nI 6) B d_Weaver_op_117 (by decide) ?_
        obtain ⟨h27, eh27, hf⟩ := xev_e hf
        refine mv_callVv (pc := 119) (n := 2) (ci := 1) (C := R_Weaver) B (mK_ok sk sv) hNs rfl rfl (cx_Weaver_tell l hi _ hb _ _ _ eh27) rfl (ma_goodc kc_Weaver_tell) (B.2.2.2.1 _ k_1282) (B.2.2.2.1 _ k_1284) (B.2.2.2.1 _ ks_32) (B.2.2.2.1 _ k_2) ⟨by decide +kernel, by decide +kernel, by decide +kernel⟩ rfl d_Weaver_op_119 rfl (Nat.le_of_ble_eq_true rfl) ⟨by decide, by decide⟩ ⟨by decide, by decide⟩ ⟨by decide, by decide⟩ (mv_noH hno _) (fun σ119 h119 => ?_)
        subst h119
        refine mv_goto (pc := 122) (tgt := 153) B d_Weaver_op_122 rfl ?_
        refine mv_lpick [5, 3, 2, 1, 0] rfl ?_
        exact jn153 _ _ _ _ _ hf
    · skip
      have hf := x_eq_t h90 hf
      refine mv_aload_n (pc := 93) B d_Weaver_op_93 rfl 5 rfl ?_
      refine mv_iload_n (pc := 94) B d_Weaver_op_94 rfl 4 rfl ?_
      refine mv_iconst (pc := 95) (v := nI 2) B d_Weaver_op_95 (by decide) ?_
      obtain ⟨h28, eh28, hf⟩ := xev_e hf
      refine mv_callVv (pc := 96) (n := 2) (ci := 1) (C := R_Weaver) B (mK_ok sk sv) hNs rfl rfl (cx_Weaver_tell l hi _ hb _ _ _ eh28) rfl (ma_goodc kc_Weaver_tell) (B.2.2.2.1 _ k_1282) (B.2.2.2.1 _ k_1284) (B.2.2.2.1 _ ks_32) (B.2.2.2.1 _ k_2) ⟨by decide +kernel, by decide +kernel, by decide +kernel⟩ rfl d_Weaver_op_96 rfl (Nat.le_of_ble_eq_true rfl) ⟨by decide, by decide⟩ ⟨by decide, by decide⟩ ⟨by decide, by decide⟩ (mv_noH hno _) (fun σ96 h96 => ?_)
      subst h96
      refine mv_goto (pc := 99) (tgt := 153) B d_Weaver_op_99 rfl ?_
      refine mv_lpick [5, 3, 2, 1, 0] rfl ?_
      exact jn153 _ _ _ _ _ hf
  · skip
    have hf := x_eq_t (y := 0) h45 hf
    exact mv_vret (pc := 48) B hr d_Weaver_op_48 (Nat.le_refl _) (Nat.le_refl _) ⟨rfl, xret_v hf⟩
def g_Weaver_beginExpr (h : xE) (a0 : Nat) : Option xE := xwi h 2 a0 fun h1 => xev (g_Exprs_begin h1) fun h2 => xwi h2 1 2 fun h3 => some h3
set_option maxHeartbeats 4000000 in
set_option maxRecDepth 100000 in
theorem cx_Weaver_beginExpr (l : Launch) {dA : FieldType → ClassId} {D : va_G} {al : Nat → Nat} {sk sv : Nat → Nat} (hi : mv_inj (mg dA D al me)) (b : mv_H) (hb : xR (mv_r b)) (h : xE) (a0 : Nat) {rg : xE} (hf : g_Weaver_beginExpr h a0 = some rg) : mv_C l y_Weaver_beginExpr (Cond.code y_Weaver_beginExpr b_Weaver_beginExpr 2 (Option.none : Option Jvm.ClassFile.FieldType) :: ma) ({ frames := 1, cells := 0, slots := 0, locals := 20 }) (mg dA D al me) (mK sk sv) [.ref (al 2), .int (nI a0)] (ab b h) (mv_Rv (fun σ1 => σ1 = ab b rg)) := by
  refine mv_C.ofV (cc := b_Weaver_beginExpr) (nL := 2) (ret := (Option.none : Option Jvm.ClassFile.FieldType)) (by decide +kernel) rfl hi (Nat.le_of_ble_eq_true rfl) ?_
  intro p e s m below meth c B hNs hr hnm hno
  unfold g_Weaver_beginExpr at hf
  refine mv_aload_n (pc := 0) B d_Weaver_beginExpr_0 rfl 0 rfl ?_
  refine mv_iload_n (pc := 1) B d_Weaver_beginExpr_1 rfl 1 rfl ?_
  refine mv_putI (pc := 2) (ci := 1) (C := R_Weaver) (T := F_Weaver) (N := 16) B 7 rfl rfl (by decide) i_Weaver t_Weaver_ok n_Weaver (B.2.2.2.1 _ k_237) rfl rfl rfl rfl d_Weaver_beginExpr_2 ?_
  refine mvn_hp (xwi_2_7 _ _ _) (xwi_f hf) (fun h1 hf => ?_)
  refine mv_aload_n (pc := 5) B d_Weaver_beginExpr_5 rfl 0 rfl ?_
  refine mv_getR (pc := 6) (ci := 1) (C := R_Weaver) (T := F_Weaver) (N := 16) B 3 rfl rfl (by decide) i_Weaver (B.2.2.2.1 _ k_232) rfl (hb.1.1 2 3 _ rfl) d_Weaver_beginExpr_6 ?_
  obtain ⟨h2, eh2, hf⟩ := xev_e hf
  refine mv_callVv (pc := 9) (n := 0) (ci := 6) (C := R_Exprs) B (mK_ok sk sv) hNs rfl rfl (cx_Exprs_begin l hi _ _ eh2) rfl (ma_goodc kc_Exprs_begin) (B.2.2.2.1 _ k_1375) (B.2.2.2.1 _ k_1376) (B.2.2.2.1 _ k_1377) (B.2.2.2.1 _ k_7) ⟨by decide +kernel, by decide +kernel, by decide +kernel⟩ rfl d_Weaver_beginExpr_9 rfl (Nat.le_of_ble_eq_true rfl) ⟨by decide, by decide⟩ ⟨by decide, by decide⟩ ⟨by decide, by decide⟩ (mv_noH hno _) (fun σ9 h9 => ?_)
  subst h9
  refine mv_aload_n (pc := 12) B d_Weaver_beginExpr_12 rfl 0 rfl ?_
  refine mv_iconst (pc := 13) (v := nI 2) B d_Weaver_beginExpr_13 (by decide) ?_
  refine mv_putI (pc := 14) (ci := 1) (C := R_Weaver) (T := F_Weaver) (N := 16) B 6 rfl rfl (by decide) i_Weaver t_Weaver_ok n_Weaver (B.2.2.2.1 _ k_236) rfl rfl rfl rfl d_Weaver_beginExpr_14 ?_
  refine mvn_hp (xwi_2_6 _ _ _) (xwi_f hf) (fun h3 hf => ?_)
  exact mv_vret (pc := 17) B hr d_Weaver_beginExpr_17 (Nat.le_refl _) (Nat.le_refl _) ⟨rfl, xret_v hf⟩
def g_Weaver_beginIf (h : xE) (a0 : Nat) : Option xE := xeb (g_Tokens_take h 209) fun v2 h1 => xwi h1 3 v2 fun h3 => xwi h3 5 a0 fun h4 => xev (g_Weaver_beginExpr h4 4) fun h5 => some h5
set_option maxHeartbeats 4000000 in
set_option maxRecDepth 100000 in
theorem cx_Weaver_beginIf (l : Launch) {dA : FieldType → ClassId} {D : va_G} {al : Nat → Nat} {sk sv : Nat → Nat} (hi : mv_inj (mg dA D al me)) (b : mv_H) (hb : xR (mv_r b)) (h : xE) (a0 : Nat) {rg : xE} (hf : g_Weaver_beginIf h a0 = some rg) : mv_C l y_Weaver_beginIf (Cond.code y_Weaver_beginIf b_Weaver_beginIf 2 (Option.none : Option Jvm.ClassFile.FieldType) :: ma) ({ frames := 2, cells := 0, slots := 0, locals := 42 }) (mg dA D al me) (mK sk sv) [.ref (al 2), .int (nI a0)] (ab b h) (mv_Rv (fun σ1 => σ1 = ab b rg)) := by
  refine mv_C.ofV (cc := b_Weaver_beginIf) (nL := 2) (ret := (Option.none : Option Jvm.ClassFile.FieldType)) (by decide +kernel) rfl hi (Nat.le_of_ble_eq_true rfl) ?_
  intro p e s m below meth c B hNs hr hnm hno
  unfold g_Weaver_beginIf at hf
  refine mv_aload_n (pc := 0) B d_Weaver_beginIf_0 rfl 0 rfl ?_
  refine mv_aload_n (pc := 1) B d_Weaver_beginIf_1 rfl 0 rfl ?_
  refine mv_getR (pc := 2) (ci := 1) (C := R_Weaver) (T := F_Weaver) (N := 16) B 0 rfl rfl (by decide) i_Weaver (B.2.2.2.1 _ k_228) rfl (hb.1.1 2 0 _ rfl) d_Weaver_beginIf_2 ?_
  refine mv_sipush (pc := 5) (v := nI 209) B d_Weaver_beginIf_5 (by decide) ?_
  obtain ⟨v2, h1, eh1, hf⟩ := xeb_e hf
  refine mv_callVi (pc := 8) (n := 1) (ci := 2) (C := R_Tokens) B (mK_ok sk sv) hNs rfl rfl (cx_Tokens_take l hi _ hb _ _ eh1) rfl (ma_goodc kc_Tokens_take) (B.2.2.2.1 _ k_1266) (B.2.2.2.1 _ k_1267) (B.2.2.2.1 _ k_1268) (B.2.2.2.1 _ k_3) ⟨by decide +kernel, by decide +kernel, by decide +kernel⟩ rfl d_Weaver_beginIf_8 rfl (Nat.le_of_ble_eq_true rfl) ⟨by decide, by decide⟩ ⟨by decide, by decide⟩ ⟨by decide, by decide⟩ (mv_noH hno _) (fun w8 σ8 h8 => ?_)
  obtain ⟨rfl, rfl⟩ := h8
  refine mv_putI (pc := 11) (ci := 1) (C := R_Weaver) (T := F_Weaver) (N := 16) B 8 rfl rfl (by decide) i_Weaver t_Weaver_ok n_Weaver (B.2.2.2.1 _ k_238) rfl rfl rfl rfl d_Weaver_beginIf_11 ?_
  refine mvn_hp (xwi_2_8 _ _ _) (xwi_f hf) (fun h3 hf => ?_)
  refine mv_aload_n (pc := 14) B d_Weaver_beginIf_14 rfl 0 rfl ?_
  refine mv_iload_n (pc := 15) B d_Weaver_beginIf_15 rfl 1 rfl ?_
  refine mv_putI (pc := 16) (ci := 1) (C := R_Weaver) (T := F_Weaver) (N := 16) B 10 rfl rfl (by decide) i_Weaver t_Weaver_ok n_Weaver (B.2.2.2.1 _ k_240) rfl rfl rfl rfl d_Weaver_beginIf_16 ?_
  refine mvn_hp (xwi_2_10 _ _ _) (xwi_f hf) (fun h4 hf => ?_)
  refine mv_aload_n (pc := 19) B d_Weaver_beginIf_19 rfl 0 rfl ?_
  refine mv_iconst (pc := 20) (v := nI 4) B d_Weaver_beginIf_20 (by decide) ?_
  obtain ⟨h5, eh5, hf⟩ := xev_e hf
  refine mv_callVv (pc := 21) (n := 1) (ci := 1) (C := R_Weaver) B (mK_ok sk sv) hNs rfl rfl (cx_Weaver_beginExpr l hi _ hb _ _ eh5) rfl (ma_goodc kc_Weaver_beginExpr) (B.2.2.2.1 _ k_1371) (B.2.2.2.1 _ k_1373) (B.2.2.2.1 _ ks_44) (B.2.2.2.1 _ k_2) ⟨by decide +kernel, by decide +kernel, by decide +kernel⟩ rfl d_Weaver_beginIf_21 rfl (Nat.le_of_ble_eq_true rfl) ⟨by decide, by decide⟩ ⟨by decide, by decide⟩ ⟨by decide, by decide⟩ (mv_noH hno _) (fun σ21 h21 => ?_)
  subst h21
  exact mv_vret (pc := 24) B hr d_Weaver_beginIf_24 (Nat.le_refl _) (Nat.le_refl _) ⟨rfl, xret_v hf⟩
def g_Weaver_beginLet_94 (h : xE) : Option xE := xev (g_Weaver_beginExpr h 0) fun h1 => some h1
def g_Weaver_beginLet (h : xE) : Option xE := xeb (g_Tokens_take h 207) fun v3 h2 => xeb (g_Tokens_take h2 3) fun v5 h4 => xeb (g_Tokens_take h4 61) fun v7 h6 => xwi h6 3 v7 fun h8 => xeb (g_Weaver_symbolOf h8 v5) fun v10 h9 => xwi h9 4 v10 fun h11 => xer (ep_g h11.1 4) fun v12 => xeb (g_Names_kindOf h11 v12) fun v14 h13 => bif xeq v14 0 then (xer (ep_g h13.1 14) fun v15 => bif xeq v15 64 then (xev (g_Weaver_tell h13 v5 6) fun h16 => xwi h16 4 4294967295 fun h17 => g_Weaver_beginLet_94  h17) else (g_Weaver_beginLet_94  h13)) else (xev (g_Weaver_tell h13 v5 2) fun h18 => xwi h18 4 4294967295 fun h19 => g_Weaver_beginLet_94  h19)
set_option maxHeartbeats 4000000 in
set_option maxRecDepth 100000 in
theorem cx_Weaver_beginLet (l : Launch) {dA : FieldType → ClassId} {D : va_G} {al : Nat → Nat} {sk sv : Nat → Nat} (hi : mv_inj (mg dA D al me)) (b : mv_H) (hb : xR (mv_r b)) (h : xE) {rg : xE} (hf : g_Weaver_beginLet h = some rg) : mv_C l y_Weaver_beginLet (Cond.code y_Weaver_beginLet b_Weaver_beginLet 2 (Option.none : Option Jvm.ClassFile.FieldType) :: ma) ({ frames := 2, cells := 0, slots := 0, locals := 44 }) (mg dA D al me) (mK sk sv) [.ref (al 2)] (ab b h) (mv_Rv (fun σ1 => σ1 = ab b rg)) := by
  refine mv_C.ofV (cc := b_Weaver_beginLet) (nL := 2) (ret := (Option.none : Option Jvm.ClassFile.FieldType)) (by decide +kernel) rfl hi (Nat.le_of_ble_eq_true rfl) ?_
  intro p e s m below meth c B hNs hr hnm hno
  have jn94 : ∀ (h : xE), g_Weaver_beginLet_94  h = some rg → mv_V p l e ({ frames := 2, cells := 0, slots := 0, locals := 44 }) s m ([.ref (al 2)] : List Value).toArray below meth c (mg dA D al me) 2 0 0 (mv_Q (mg dA D al me) below s 0 0 (mv_Rv (fun σ1 => σ1 = ab b rg))) (ab b h) 94 [(0, .ref (al 2))] [] := by
    intro  h hf
    unfold g_Weaver_beginLet_94 at hf
    refine mv_aload_n (pc := 94) B d_Weaver_beginLet_94 rfl 0 rfl ?_
    refine mv_iconst (pc := 95) (v := nI 0) B d_Weaver_beginLet_95 (by decide) ?_
    obtain ⟨h1, eh1, hf⟩ := xev_e hf
    refine mv_callVv (pc := 96) (n := 1) (ci := 1) (C := R_Weaver) B (mK_ok sk sv) hNs rfl rfl (cx_Weaver_beginExpr l hi _ hb _ _ eh1) rfl (ma_goodc kc_Weaver_beginExpr) (B.2.2.2.1 _ k_1371) (B.2.2.2.1 _ k_1373) (B.2.2.2.1 _ ks_44) (B.2.2.2.1 _ k_2) ⟨by decide +kernel, by decide +kernel, by decide +kernel⟩ rfl d_Weaver_beginLet_96 rfl (Nat.le_of_ble_eq_true rfl) ⟨by decide, by decide⟩ ⟨by decide, by decide⟩ ⟨by decide, by decide⟩ (mv_noH hno _) (fun σ96 h96 => ?_)
    subst h96
    exact mv_vret (pc := 99) B hr d_Weaver_beginLet_99 (Nat.le_refl _) (Nat.le_refl _) ⟨rfl, xret_v hf⟩
  unfold g_Weaver_beginLet at hf
  refine mv_aload_n (pc := 0) B d_Weaver_beginLet_0 rfl 0 rfl ?_
  refine mv_getR (pc := 1) (ci := 1) (C := R_Weaver) (T := F_Weaver) (N := 16) B 0 rfl rfl (by decide) i_Weaver (B.2.2.2.1 _ k_228) rfl (hb.1.1 2 0 _ rfl) d_Weaver_beginLet_1 ?_
  refine mv_sipush (pc := 4) (v := nI 207) B d_Weaver_beginLet_4 (by decide) ?_
  obtain ⟨v3, h2, eh2, hf⟩ := xeb_e hf
  refine mv_callVi (pc := 7) (n := 1) (ci := 2) (C := R_Tokens) B (mK_ok sk sv) hNs rfl rfl (cx_Tokens_take l hi _ hb _ _ eh2) rfl (ma_goodc kc_Tokens_take) (B.2.2.2.1 _ k_1266) (B.2.2.2.1 _ k_1267) (B.2.2.2.1 _ k_1268) (B.2.2.2.1 _ k_3) ⟨by decide +kernel, by decide +kernel, by decide +kernel⟩ rfl d_Weaver_beginLet_7 rfl (Nat.le_of_ble_eq_true rfl) ⟨by decide, by decide⟩ ⟨by decide, by decide⟩ ⟨by decide, by decide⟩ (mv_noH hno _) (fun w7 σ7 h7 => ?_)
  obtain ⟨rfl, rfl⟩ := h7
  refine mv_pop (pc := 10) B d_Weaver_beginLet_10 rfl ?_
  refine mv_aload_n (pc := 11) B d_Weaver_beginLet_11 rfl 0 rfl ?_
  refine mv_getR (pc := 12) (ci := 1) (C := R_Weaver) (T := F_Weaver) (N := 16) B 0 rfl rfl (by decide) i_Weaver (B.2.2.2.1 _ k_228) rfl (hb.1.1 2 0 _ rfl) d_Weaver_beginLet_12 ?_
  refine mv_iconst (pc := 15) (v := nI 3) B d_Weaver_beginLet_15 (by decide) ?_
  obtain ⟨v5, h4, eh4, hf⟩ := xeb_e hf
  refine mv_callVi (pc := 16) (n := 1) (ci := 2) (C := R_Tokens) B (mK_ok sk sv) hNs rfl rfl (cx_Tokens_take l hi _ hb _ _ eh4) rfl (ma_goodc kc_Tokens_take) (B.2.2.2.1 _ k_1266) (B.2.2.2.1 _ k_1267) (B.2.2.2.1 _ k_1268) (B.2.2.2.1 _ k_3) ⟨by decide +kernel, by decide +kernel, by decide +kernel⟩ rfl d_Weaver_beginLet_16 rfl (Nat.le_of_ble_eq_true rfl) ⟨by decide, by decide⟩ ⟨by decide, by decide⟩ ⟨by decide, by decide⟩ (mv_noH hno _) (fun w16 σ16 h16 => ?_)
  obtain ⟨rfl, rfl⟩ := h16
  refine mv_istore_n (pc := 19) B d_Weaver_beginLet_19 rfl (by decide) rfl ?_
  refine mv_aload_n (pc := 20) B d_Weaver_beginLet_20 rfl 1 rfl ?_
  refine mv_aload_n (pc := 21) B d_Weaver_beginLet_21 rfl 1 rfl ?_
  refine mv_getR (pc := 22) (ci := 1) (C := R_Weaver) (T := F_Weaver) (N := 16) B 0 rfl rfl (by decide) i_Weaver (B.2.2.2.1 _ k_228) rfl (hb.1.1 2 0 _ rfl) d_Weaver_beginLet_22 ?_
  refine mv_bipush (pc := 25) (v := nI 61) B d_Weaver_beginLet_25 (by decide) ?_
  obtain ⟨v7, h6, eh6, hf⟩ := xeb_e hf
  refine mv_callVi (pc := 27) (n := 1) (ci := 2) (C := R_Tokens) B (mK_ok sk sv) hNs rfl rfl (cx_Tokens_take l hi _ hb _ _ eh6) rfl (ma_goodc kc_Tokens_take) (B.2.2.2.1 _ k_1266) (B.2.2.2.1 _ k_1267) (B.2.2.2.1 _ k_1268) (B.2.2.2.1 _ k_3) ⟨by decide +kernel, by decide +kernel, by decide +kernel⟩ rfl d_Weaver_beginLet_27 rfl (Nat.le_of_ble_eq_true rfl) ⟨by decide, by decide⟩ ⟨by decide, by decide⟩ ⟨by decide, by decide⟩ (mv_noH hno _) (fun w27 σ27 h27 => ?_)
  obtain ⟨rfl, rfl⟩ := h27
  refine mv_putI (pc := 30) (ci := 1) (C := R_Weaver) (T := F_Weaver) (N := 16) B 8 rfl rfl (by decide) i_Weaver t_Weaver_ok n_Weaver (B.2.2.2.1 _ k_238) rfl rfl rfl rfl d_Weaver_beginLet_30 ?_
  refine mvn_hp (xwi_2_8 _ _ _) (xwi_f hf) (fun h8 hf => ?_)
  refine mv_aload_n (pc := 33) B d_Weaver_beginLet_33 rfl 1 rfl ?_
  refine mv_aload_n (pc := 34) B d_Weaver_beginLet_34 rfl 1 rfl ?_
  refine mv_iload_n (pc := 35) B d_Weaver_beginLet_35 rfl 0 rfl ?_
  obtain ⟨v10, h9, eh9, hf⟩ := xeb_e hf
  refine mv_callVi (pc := 36) (n := 1) (ci := 1) (C := R_Weaver) B (mK_ok sk sv) hNs rfl rfl (cx_Weaver_symbolOf l hi _ hb _ _ eh9) rfl (ma_goodc kc_Weaver_symbolOf) (B.2.2.2.1 _ k_1312) (B.2.2.2.1 _ k_1314) (B.2.2.2.1 _ ks_37) (B.2.2.2.1 _ k_2) ⟨by decide +kernel, by decide +kernel, by decide +kernel⟩ rfl d_Weaver_beginLet_36 rfl (Nat.le_of_ble_eq_true rfl) ⟨by decide, by decide⟩ ⟨by decide, by decide⟩ ⟨by decide, by decide⟩ (mv_noH hno _) (fun w36 σ36 h36 => ?_)
  obtain ⟨rfl, rfl⟩ := h36
  refine mv_putI (pc := 39) (ci := 1) (C := R_Weaver) (T := F_Weaver) (N := 16) B 9 rfl rfl (by decide) i_Weaver t_Weaver_ok n_Weaver (B.2.2.2.1 _ k_239) rfl rfl rfl rfl d_Weaver_beginLet_39 ?_
  refine mvn_hp (xwi_2_9 _ _ _) (xwi_f hf) (fun h11 hf => ?_)
  refine mv_aload_n (pc := 42) B d_Weaver_beginLet_42 rfl 1 rfl ?_
  refine mv_getR (pc := 43) (ci := 1) (C := R_Weaver) (T := F_Weaver) (N := 16) B 1 rfl rfl (by decide) i_Weaver (B.2.2.2.1 _ k_229) rfl (hb.1.1 2 1 _ rfl) d_Weaver_beginLet_43 ?_
  refine mv_aload_n (pc := 46) B d_Weaver_beginLet_46 rfl 1 rfl ?_
  refine mv_getI (pc := 47) (ci := 1) (C := R_Weaver) (T := F_Weaver) (N := 16) B 9 rfl rfl (by decide) i_Weaver (B.2.2.2.1 _ k_239) rfl d_Weaver_beginLet_47 ?_
  obtain ⟨v12, ev12, hf⟩ := xer_e hf
  refine mvn_top (xfi_2_9 ev12) ?_
  obtain ⟨v14, h13, eh13, hf⟩ := xeb_e hf
  refine mv_callVi (pc := 50) (n := 1) (ci := 4) (C := R_Names) B (mK_ok sk sv) hNs rfl rfl (cx_Names_kindOf l hi _ hb _ _ eh13) rfl (ma_goodc kc_Names_kindOf) (B.2.2.2.1 _ k_1316) (B.2.2.2.1 _ k_1317) (B.2.2.2.1 _ k_1318) (B.2.2.2.1 _ k_5) ⟨by decide +kernel, by decide +kernel, by decide +kernel⟩ rfl d_Weaver_beginLet_50 rfl (Nat.le_of_ble_eq_true rfl) ⟨by decide, by decide⟩ ⟨by decide, by decide⟩ ⟨by decide, by decide⟩ (mv_noH hno _) (fun w50 σ50 h50 => ?_)
  obtain ⟨rfl, rfl⟩ := h50
  refine mv_if_eq (pc := 53) (tgt := 70) B d_Weaver_beginLet_53 rfl (fun h53 => ?_) (fun h53 => ?_)
  · skip
    have hf := x_eq_t (y := 0) h53 hf
    refine mv_aload_n (pc := 70) B d_Weaver_beginLet_70 rfl 1 rfl ?_
    refine mv_getR (pc := 71) (ci := 1) (C := R_Weaver) (T := F_Weaver) (N := 16) B 1 rfl rfl (by decide) i_Weaver (B.2.2.2.1 _ k_229) rfl (hb.1.1 2 1 _ rfl) d_Weaver_beginLet_71 ?_
    refine mv_getI (pc := 74) (ci := 4) (C := R_Names) (T := F_Names) (N := 10) B 9 rfl rfl (by decide) i_Names (B.2.2.2.1 _ k_149) rfl d_Weaver_beginLet_74 ?_
    obtain ⟨v15, ev15, hf⟩ := xer_e hf
    refine mvn_top (xfi_13_9 ev15) ?_
    refine mv_bipush (pc := 77) (v := nI 64) B d_Weaver_beginLet_77 (by decide) ?_
    refine mv_icmp_ne (pc := 79) (tgt := 94) B d_Weaver_beginLet_79 rfl (fun h79 => ?_) (fun h79 => ?_)
    · skip
      have hf := x_eq_f h79 hf
      refine mv_lpick [1] rfl ?_
      exact jn94  _ hf
    · skip
      have hf := x_eq_t h79 hf
      refine mv_aload_n (pc := 82) B d_Weaver_beginLet_82 rfl 1 rfl ?_
      refine mv_iload_n (pc := 83) B d_Weaver_beginLet_83 rfl 0 rfl ?_
      refine mv_bipush (pc := 84) (v := nI 6) B d_Weaver_beginLet_84 (by decide) ?_
      obtain ⟨h16, eh16, hf⟩ := xev_e hf
      refine mv_callVv (pc := 86) (n := 2) (ci := 1) (C := R_Weaver) B (mK_ok sk sv) hNs rfl rfl (cx_Weaver_tell l hi _ hb _ _ _ eh16) rfl (ma_goodc kc_Weaver_tell) (B.2.2.2.1 _ k_1282) (B.2.2.2.1 _ k_1284) (B.2.2.2.1 _ ks_32) (B.2.2.2.1 _ k_2) ⟨by decide +kernel, by decide +kernel, by decide +kernel⟩ rfl d_Weaver_beginLet_86 rfl (Nat.le_of_ble_eq_true rfl) ⟨by decide, by decide⟩ ⟨by decide, by decide⟩ ⟨by decide, by decide⟩ (mv_noH hno _) (fun σ86 h86 => ?_)
      subst h86
      refine mv_aload_n (pc := 89) B d_Weaver_beginLet_89 rfl 1 rfl ?_
      refine mv_iconst (pc := 90) (v := nI 4294967295) B d_Weaver_beginLet_90 (by decide) ?_
      refine mv_putI (pc := 91) (ci := 1) (C := R_Weaver) (T := F_Weaver) (N := 16) B 9 rfl rfl (by decide) i_Weaver t_Weaver_ok n_Weaver (B.2.2.2.1 _ k_239) rfl rfl rfl rfl d_Weaver_beginLet_91 ?_
      refine mvn_hp (xwi_2_9 _ _ _) (xwi_f hf) (fun h17 hf => ?_)
      refine mv_lpick [1] rfl ?_
      exact jn94  _ hf
  · skip
    have hf := x_eq_f (y := 0) h53 hf
    refine mv_aload_n (pc := 56) B d_Weaver_beginLet_56 rfl 1 rfl ?_
    refine mv_iload_n (pc := 57) B d_Weaver_beginLet_57 rfl 0 rfl ?_
    refine mv_iconst (pc := 58) (v := nI 2) B d_Weaver_beginLet_58 (by decide) ?_
    obtain ⟨h18, eh18, hf⟩ := xev_e hf
    refine mv_callVv (pc := 59) (n := 2) (ci := 1) (C := R_Weaver) B (mK_ok sk sv) hNs rfl rfl (cx_Weaver_tell l hi _ hb _ _ _ eh18) rfl (ma_goodc kc_Weaver_tell) (B.2.2.2.1 _ k_1282) (B.2.2.2.1 _ k_1284) (B.2.2.2.1 _ ks_32) (B.2.2.2.1 _ k_2) ⟨by decide +kernel, by decide +kernel, by decide +kernel⟩ rfl d_Weaver_beginLet_59 rfl (Nat.le_of_ble_eq_true rfl) ⟨by decide, by decide⟩ ⟨by decide, by decide⟩ ⟨by decide, by decide⟩ (mv_noH hno _) (fun σ59 h59 => ?_)
    subst h59
    refine mv_aload_n (pc := 62) B d_Weaver_beginLet_62 rfl 1 rfl ?_
    refine mv_iconst (pc := 63) (v := nI 4294967295) B d_Weaver_beginLet_63 (by decide) ?_
    refine mv_putI (pc := 64) (ci := 1) (C := R_Weaver) (T := F_Weaver) (N := 16) B 9 rfl rfl (by decide) i_Weaver t_Weaver_ok n_Weaver (B.2.2.2.1 _ k_239) rfl rfl rfl rfl d_Weaver_beginLet_64 ?_
    refine mvn_hp (xwi_2_9 _ _ _) (xwi_f hf) (fun h19 hf => ?_)
    refine mv_goto (pc := 67) (tgt := 94) B d_Weaver_beginLet_67 rfl ?_
    refine mv_lpick [1] rfl ?_
    exact jn94  _ hf
def g_Weaver_beginAssignment_77 (x3 : Nat) (h : xE) : Option xE := bif xeq x3 0 then (xeb (g_Tokens_take h 61) fun v2 h1 => xwi h1 3 v2 fun h3 => xev (g_Weaver_beginExpr h3 2) fun h4 => some h4) else (xeb (g_Tokens_open h 91) fun v6 h5 => xev (g_Weaver_beginExpr h5 1) fun h7 => some h7)
def g_Weaver_beginAssignment_63 (x1 : Nat) (x3 : Nat) (y0 : Nat) (y1 : Nat) (h : xE) : Option xE := bif xeq y1 y0 then (g_Weaver_beginAssignment_77 x3 h) else (xev (g_Weaver_tell h x1 2) fun h8 => xwi h8 4 4294967295 fun h9 => g_Weaver_beginAssignment_77 x3 h9)
def g_Weaver_beginAssignment_32 (x1 : Nat) (x2 : Nat) (y0 : Nat) (h : xE) : Option xE := bif Nat.blt x2 16448 then xer (ep_g (xL_15 h.2) x2) fun v11 => xwi h 4 v11 fun h12 => xeb (g_Names_kindOf h12 x2) fun v14 h13 => bif xeq y0 0 then (g_Weaver_beginAssignment_63 x1 y0 1 v14 h13) else (g_Weaver_beginAssignment_63 x1 y0 2 v14 h13) else none
def g_Weaver_beginAssignment (h : xE) : Option xE := xeb (g_Tokens_take h 3) fun v16 h15 => xeb (g_Weaver_symbolOf h15 v16) fun v18 h17 => xeb (g_Tokens_kind h17) fun v20 h19 => bif xeq v20 91 then (g_Weaver_beginAssignment_32 v16 v18 1 h19) else (g_Weaver_beginAssignment_32 v16 v18 0 h19)
set_option maxHeartbeats 4000000 in
set_option maxRecDepth 100000 in
theorem cx_Weaver_beginAssignment (l : Launch) {dA : FieldType → ClassId} {D : va_G} {al : Nat → Nat} {sk sv : Nat → Nat} (hi : mv_inj (mg dA D al me)) (b : mv_H) (hb : xR (mv_r b)) (h : xE) {rg : xE} (hf : g_Weaver_beginAssignment h = some rg) : mv_C l y_Weaver_beginAssignment (Cond.code y_Weaver_beginAssignment b_Weaver_beginAssignment 4 (Option.none : Option Jvm.ClassFile.FieldType) :: ma) ({ frames := 3, cells := 0, slots := 0, locals := 63 }) (mg dA D al me) (mK sk sv) [.ref (al 2)] (ab b h) (mv_Rv (fun σ1 => σ1 = ab b rg)) := by
  refine mv_C.ofV (cc := b_Weaver_beginAssignment) (nL := 4) (ret := (Option.none : Option Jvm.ClassFile.FieldType)) (by decide +kernel) rfl hi (Nat.le_of_ble_eq_true rfl) ?_
  intro p e s m below meth c B hNs hr hnm hno
  have jn77 : ∀ (x3 : Nat) (h : xE), g_Weaver_beginAssignment_77 x3 h = some rg → mv_V p l e ({ frames := 3, cells := 0, slots := 0, locals := 63 }) s m ([.ref (al 2)] : List Value).toArray below meth c (mg dA D al me) 4 0 0 (mv_Q (mg dA D al me) below s 0 0 (mv_Rv (fun σ1 => σ1 = ab b rg))) (ab b h) 77 [(0, .ref (al 2)), (3, .int (nI x3))] [] := by
    intro x3 h hf
    unfold g_Weaver_beginAssignment_77 at hf
    refine mv_iload_n (pc := 77) B d_Weaver_beginAssignment_77 rfl 1 rfl ?_
    refine mv_if_eq (pc := 78) (tgt := 99) B d_Weaver_beginAssignment_78 rfl (fun h78 => ?_) (fun h78 => ?_)
    · skip
      have hf := x_eq_t (y := 0) h78 hf
      refine mv_aload_n (pc := 99) B d_Weaver_beginAssignment_99 rfl 0 rfl ?_
      refine mv_aload_n (pc := 100) B d_Weaver_beginAssignment_100 rfl 0 rfl ?_
      refine mv_getR (pc := 101) (ci := 1) (C := R_Weaver) (T := F_Weaver) (N := 16) B 0 rfl rfl (by decide) i_Weaver (B.2.2.2.1 _ k_228) rfl (hb.1.1 2 0 _ rfl) d_Weaver_beginAssignment_101 ?_
      refine mv_bipush (pc := 104) (v := nI 61) B d_Weaver_beginAssignment_104 (by decide) ?_
      obtain ⟨v2, h1, eh1, hf⟩ := xeb_e hf
      refine mv_callVi (pc := 106) (n := 1) (ci := 2) (C := R_Tokens) B (mK_ok sk sv) hNs rfl rfl (cx_Tokens_take l hi _ hb _ _ eh1) rfl (ma_goodc kc_Tokens_take) (B.2.2.2.1 _ k_1266) (B.2.2.2.1 _ k_1267) (B.2.2.2.1 _ k_1268) (B.2.2.2.1 _ k_3) ⟨by decide +kernel, by decide +kernel, by decide +kernel⟩ rfl d_Weaver_beginAssignment_106 rfl (Nat.le_of_ble_eq_true rfl) ⟨by decide, by decide⟩ ⟨by decide, by decide⟩ ⟨by decide, by decide⟩ (mv_noH hno _) (fun w106 σ106 h106 => ?_)
      obtain ⟨rfl, rfl⟩ := h106
      refine mv_putI (pc := 109) (ci := 1) (C := R_Weaver) (T := F_Weaver) (N := 16) B 8 rfl rfl (by decide) i_Weaver t_Weaver_ok n_Weaver (B.2.2.2.1 _ k_238) rfl rfl rfl rfl d_Weaver_beginAssignment_109 ?_
      refine mvn_hp (xwi_2_8 _ _ _) (xwi_f hf) (fun h3 hf => ?_)
      refine mv_aload_n (pc := 112) B d_Weaver_beginAssignment_112 rfl 0 rfl ?_
      refine mv_iconst (pc := 113) (v := nI 2) B d_Weaver_beginAssignment_113 (by decide) ?_
      obtain ⟨h4, eh4, hf⟩ := xev_e hf
      refine mv_callVv (pc := 114) (n := 1) (ci := 1) (C := R_Weaver) B (mK_ok sk sv) hNs rfl rfl (cx_Weaver_beginExpr l hi _ hb _ _ eh4) rfl (ma_goodc kc_Weaver_beginExpr) (B.2.2.2.1 _ k_1371) (B.2.2.2.1 _ k_1373) (B.2.2.2.1 _ ks_44) (B.2.2.2.1 _ k_2) ⟨by decide +kernel, by decide +kernel, by decide +kernel⟩ rfl d_Weaver_beginAssignment_114 rfl (Nat.le_of_ble_eq_true rfl) ⟨by decide, by decide⟩ ⟨by decide, by decide⟩ ⟨by decide, by decide⟩ (mv_noH hno _) (fun σ114 h114 => ?_)
      subst h114
      exact mv_vret (pc := 117) B hr d_Weaver_beginAssignment_117 (Nat.le_refl _) (Nat.le_refl _) ⟨rfl, xret_v hf⟩
    · skip
      have hf := x_eq_f (y := 0) h78 hf
      refine mv_aload_n (pc := 81) B d_Weaver_beginAssignment_81 rfl 0 rfl ?_
      refine mv_getR (pc := 82) (ci := 1) (C := R_Weaver) (T := F_Weaver) (N := 16) B 0 rfl rfl (by decide) i_Weaver (B.2.2.2.1 _ k_228) rfl (hb.1.1 2 0 _ rfl) d_Weaver_beginAssignment_82 ?_
      refine mv_bipush (pc := 85) (v := nI 91) B d_Weaver_beginAssignment_85 (by decide) ?_
      obtain ⟨v6, h5, eh5, hf⟩ := xeb_e hf
      refine mv_callVi (pc := 87) (n := 1) (ci := 2) (C := R_Tokens) B (mK_ok sk sv) hNs rfl rfl (cx_Tokens_open l hi _ hb _ _ eh5) rfl (ma_goodc kc_Tokens_open) (B.2.2.2.1 _ k_1349) (B.2.2.2.1 _ k_1350) (B.2.2.2.1 _ k_1351) (B.2.2.2.1 _ k_3) ⟨by decide +kernel, by decide +kernel, by decide +kernel⟩ rfl d_Weaver_beginAssignment_87 rfl (Nat.le_of_ble_eq_true rfl) ⟨by decide, by decide⟩ ⟨by decide, by decide⟩ ⟨by decide, by decide⟩ (mv_noH hno _) (fun w87 σ87 h87 => ?_)
      obtain ⟨rfl, rfl⟩ := h87
      refine mv_pop (pc := 90) B d_Weaver_beginAssignment_90 rfl ?_
      refine mv_aload_n (pc := 91) B d_Weaver_beginAssignment_91 rfl 0 rfl ?_
      refine mv_iconst (pc := 92) (v := nI 1) B d_Weaver_beginAssignment_92 (by decide) ?_
      obtain ⟨h7, eh7, hf⟩ := xev_e hf
      refine mv_callVv (pc := 93) (n := 1) (ci := 1) (C := R_Weaver) B (mK_ok sk sv) hNs rfl rfl (cx_Weaver_beginExpr l hi _ hb _ _ eh7) rfl (ma_goodc kc_Weaver_beginExpr) (B.2.2.2.1 _ k_1371) (B.2.2.2.1 _ k_1373) (B.2.2.2.1 _ ks_44) (B.2.2.2.1 _ k_2) ⟨by decide +kernel, by decide +kernel, by decide +kernel⟩ rfl d_Weaver_beginAssignment_93 rfl (Nat.le_of_ble_eq_true rfl) ⟨by decide, by decide⟩ ⟨by decide, by decide⟩ ⟨by decide, by decide⟩ (mv_noH hno _) (fun σ93 h93 => ?_)
      subst h93
      refine mv_goto (pc := 96) (tgt := 117) B d_Weaver_beginAssignment_96 rfl ?_
      exact mv_vret (pc := 117) B hr d_Weaver_beginAssignment_117 (Nat.le_refl _) (Nat.le_refl _) ⟨rfl, xret_v hf⟩
  have jn63 : ∀ (x1 : Nat) (x3 : Nat) (y0 : Nat) (y1 : Nat) (h : xE), g_Weaver_beginAssignment_63 x1 x3 y0 y1 h = some rg → mv_V p l e ({ frames := 3, cells := 0, slots := 0, locals := 63 }) s m ([.ref (al 2)] : List Value).toArray below meth c (mg dA D al me) 4 0 0 (mv_Q (mg dA D al me) below s 0 0 (mv_Rv (fun σ1 => σ1 = ab b rg))) (ab b h) 63 [(0, .ref (al 2)), (1, .int (nI x1)), (3, .int (nI x3))] [.int (nI y0), .int (nI y1)] := by
    intro x1 x3 y0 y1 h hf
    unfold g_Weaver_beginAssignment_63 at hf
    refine mv_icmp_eq (pc := 63) (tgt := 77) B d_Weaver_beginAssignment_63 rfl (fun h63 => ?_) (fun h63 => ?_)
    · skip
      have hf := x_eq_t h63 hf
      refine mv_lpick [0, 2] rfl ?_
      exact jn77 _ _ hf
    · skip
      have hf := x_eq_f h63 hf
      refine mv_aload_n (pc := 66) B d_Weaver_beginAssignment_66 rfl 0 rfl ?_
      refine mv_iload_n (pc := 67) B d_Weaver_beginAssignment_67 rfl 1 rfl ?_
      refine mv_iconst (pc := 68) (v := nI 2) B d_Weaver_beginAssignment_68 (by decide) ?_
      obtain ⟨h8, eh8, hf⟩ := xev_e hf
      refine mv_callVv (pc := 69) (n := 2) (ci := 1) (C := R_Weaver) B (mK_ok sk sv) hNs rfl rfl (cx_Weaver_tell l hi _ hb _ _ _ eh8) rfl (ma_goodc kc_Weaver_tell) (B.2.2.2.1 _ k_1282) (B.2.2.2.1 _ k_1284) (B.2.2.2.1 _ ks_32) (B.2.2.2.1 _ k_2) ⟨by decide +kernel, by decide +kernel, by decide +kernel⟩ rfl d_Weaver_beginAssignment_69 rfl (Nat.le_of_ble_eq_true rfl) ⟨by decide, by decide⟩ ⟨by decide, by decide⟩ ⟨by decide, by decide⟩ (mv_noH hno _) (fun σ69 h69 => ?_)
      subst h69
      refine mv_aload_n (pc := 72) B d_Weaver_beginAssignment_72 rfl 0 rfl ?_
      refine mv_iconst (pc := 73) (v := nI 4294967295) B d_Weaver_beginAssignment_73 (by decide) ?_
      refine mv_putI (pc := 74) (ci := 1) (C := R_Weaver) (T := F_Weaver) (N := 16) B 9 rfl rfl (by decide) i_Weaver t_Weaver_ok n_Weaver (B.2.2.2.1 _ k_239) rfl rfl rfl rfl d_Weaver_beginAssignment_74 ?_
      refine mvn_hp (xwi_2_9 _ _ _) (xwi_f hf) (fun h9 hf => ?_)
      refine mv_lpick [0, 2] rfl ?_
      exact jn77 _ _ hf
  have jn32 : ∀ (x1 : Nat) (x2 : Nat) (y0 : Nat) (h : xE), g_Weaver_beginAssignment_32 x1 x2 y0 h = some rg → mv_V p l e ({ frames := 3, cells := 0, slots := 0, locals := 63 }) s m ([.ref (al 2)] : List Value).toArray below meth c (mg dA D al me) 4 0 0 (mv_Q (mg dA D al me) below s 0 0 (mv_Rv (fun σ1 => σ1 = ab b rg))) (ab b h) 32 [(0, .ref (al 2)), (1, .int (nI x1)), (2, .int (nI x2))] [.int (nI y0)] := by
    intro x1 x2 y0 h hf
    unfold g_Weaver_beginAssignment_32 at hf
    refine mv_istore_n (pc := 32) B d_Weaver_beginAssignment_32 rfl (by decide) rfl ?_
    refine mv_aload_n (pc := 33) B d_Weaver_beginAssignment_33 rfl 1 rfl ?_
    refine mv_aload_n (pc := 34) B d_Weaver_beginAssignment_34 rfl 1 rfl ?_
    refine mv_getR (pc := 35) (ci := 1) (C := R_Weaver) (T := F_Weaver) (N := 16) B 1 rfl rfl (by decide) i_Weaver (B.2.2.2.1 _ k_229) rfl (hb.1.1 2 1 _ rfl) d_Weaver_beginAssignment_35 ?_
    refine mv_getR (pc := 38) (ci := 4) (C := R_Names) (T := F_Names) (N := 10) B 2 rfl rfl (by decide) i_Names (B.2.2.2.1 _ k_138) rfl (hb.1.1 13 2 _ rfl) d_Weaver_beginAssignment_38 ?_
    refine mv_iload_n (pc := 41) B d_Weaver_beginAssignment_41 rfl 3 rfl ?_
    obtain ⟨q10, hf⟩ := xix_e hf
    refine mv_iald (pc := 42) B rfl (xin q10 (by decide)) d_Weaver_beginAssignment_42 ?_
    obtain ⟨v11, ev11, hf⟩ := xer_e hf
    refine mvn_top (xfa_15 q10 ev11) ?_
    refine mv_putI (pc := 43) (ci := 1) (C := R_Weaver) (T := F_Weaver) (N := 16) B 9 rfl rfl (by decide) i_Weaver t_Weaver_ok n_Weaver (B.2.2.2.1 _ k_239) rfl rfl rfl rfl d_Weaver_beginAssignment_43 ?_
    refine mvn_hp (xwi_2_9 _ _ _) (xwi_f hf) (fun h12 hf => ?_)
    refine mv_aload_n (pc := 46) B d_Weaver_beginAssignment_46 rfl 1 rfl ?_
    refine mv_getR (pc := 47) (ci := 1) (C := R_Weaver) (T := F_Weaver) (N := 16) B 1 rfl rfl (by decide) i_Weaver (B.2.2.2.1 _ k_229) rfl (hb.1.1 2 1 _ rfl) d_Weaver_beginAssignment_47 ?_
    refine mv_iload_n (pc := 50) B d_Weaver_beginAssignment_50 rfl 3 rfl ?_
    obtain ⟨v14, h13, eh13, hf⟩ := xeb_e hf
    refine mv_callVi (pc := 51) (n := 1) (ci := 4) (C := R_Names) B (mK_ok sk sv) hNs rfl rfl (cx_Names_kindOf l hi _ hb _ _ eh13) rfl (ma_goodc kc_Names_kindOf) (B.2.2.2.1 _ k_1316) (B.2.2.2.1 _ k_1317) (B.2.2.2.1 _ k_1318) (B.2.2.2.1 _ k_5) ⟨by decide +kernel, by decide +kernel, by decide +kernel⟩ rfl d_Weaver_beginAssignment_51 rfl (Nat.le_of_ble_eq_true rfl) ⟨by decide, by decide⟩ ⟨by decide, by decide⟩ ⟨by decide, by decide⟩ (mv_noH hno _) (fun w51 σ51 h51 => ?_)
    obtain ⟨rfl, rfl⟩ := h51
    refine mv_iload_n (pc := 54) B d_Weaver_beginAssignment_54 rfl 0 rfl ?_
    refine mv_if_eq (pc := 55) (tgt := 62) B d_Weaver_beginAssignment_55 rfl (fun h55 => ?_) (fun h55 => ?_)
    · skip
      have hf := x_eq_t (y := 0) h55 hf
      refine mv_iconst (pc := 62) (v := nI 1) B d_Weaver_beginAssignment_62 (by decide) ?_
      refine mv_lpick [1, 2, 0] rfl ?_
      exact jn63 _ _ _ _ _ hf
    · skip
      have hf := x_eq_f (y := 0) h55 hf
      refine mv_iconst (pc := 58) (v := nI 2) B d_Weaver_beginAssignment_58 (by decide) ?_
      refine mv_goto (pc := 59) (tgt := 63) B d_Weaver_beginAssignment_59 rfl ?_
      refine mv_lpick [1, 2, 0] rfl ?_
      exact jn63 _ _ _ _ _ hf
  unfold g_Weaver_beginAssignment at hf
  refine mv_aload_n (pc := 0) B d_Weaver_beginAssignment_0 rfl 0 rfl ?_
  refine mv_getR (pc := 1) (ci := 1) (C := R_Weaver) (T := F_Weaver) (N := 16) B 0 rfl rfl (by decide) i_Weaver (B.2.2.2.1 _ k_228) rfl (hb.1.1 2 0 _ rfl) d_Weaver_beginAssignment_1 ?_
  refine mv_iconst (pc := 4) (v := nI 3) B d_Weaver_beginAssignment_4 (by decide) ?_
  obtain ⟨v16, h15, eh15, hf⟩ := xeb_e hf
  refine mv_callVi (pc := 5) (n := 1) (ci := 2) (C := R_Tokens) B (mK_ok sk sv) hNs rfl rfl (cx_Tokens_take l hi _ hb _ _ eh15) rfl (ma_goodc kc_Tokens_take) (B.2.2.2.1 _ k_1266) (B.2.2.2.1 _ k_1267) (B.2.2.2.1 _ k_1268) (B.2.2.2.1 _ k_3) ⟨by decide +kernel, by decide +kernel, by decide +kernel⟩ rfl d_Weaver_beginAssignment_5 rfl (Nat.le_of_ble_eq_true rfl) ⟨by decide, by decide⟩ ⟨by decide, by decide⟩ ⟨by decide, by decide⟩ (mv_noH hno _) (fun w5 σ5 h5 => ?_)
  obtain ⟨rfl, rfl⟩ := h5
  refine mv_istore_n (pc := 8) B d_Weaver_beginAssignment_8 rfl (by decide) rfl ?_
  refine mv_aload_n (pc := 9) B d_Weaver_beginAssignment_9 rfl 1 rfl ?_
  refine mv_iload_n (pc := 10) B d_Weaver_beginAssignment_10 rfl 0 rfl ?_
  obtain ⟨v18, h17, eh17, hf⟩ := xeb_e hf
  refine mv_callVi (pc := 11) (n := 1) (ci := 1) (C := R_Weaver) B (mK_ok sk sv) hNs rfl rfl (cx_Weaver_symbolOf l hi _ hb _ _ eh17) rfl (ma_goodc kc_Weaver_symbolOf) (B.2.2.2.1 _ k_1312) (B.2.2.2.1 _ k_1314) (B.2.2.2.1 _ ks_37) (B.2.2.2.1 _ k_2) ⟨by decide +kernel, by decide +kernel, by decide +kernel⟩ rfl d_Weaver_beginAssignment_11 rfl (Nat.le_of_ble_eq_true rfl) ⟨by decide, by decide⟩ ⟨by decide, by decide⟩ ⟨by decide, by decide⟩ (mv_noH hno _) (fun w11 σ11 h11 => ?_)
  obtain ⟨rfl, rfl⟩ := h11
  refine mv_istore_n (pc := 14) B d_Weaver_beginAssignment_14 rfl (by decide) rfl ?_
  refine mv_aload_n (pc := 15) B d_Weaver_beginAssignment_15 rfl 2 rfl ?_
  refine mv_getR (pc := 16) (ci := 1) (C := R_Weaver) (T := F_Weaver) (N := 16) B 0 rfl rfl (by decide) i_Weaver (B.2.2.2.1 _ k_228) rfl (hb.1.1 2 0 _ rfl) d_Weaver_beginAssignment_16 ?_
  obtain ⟨v20, h19, eh19, hf⟩ := xeb_e hf
  refine mv_callVi (pc := 19) (n := 0) (ci := 2) (C := R_Tokens) B (mK_ok sk sv) hNs rfl rfl (cx_Tokens_kind l hi _ hb _ eh19) rfl (ma_goodc kc_Tokens_kind) (B.2.2.2.1 _ k_1299) (B.2.2.2.1 _ k_1271) (B.2.2.2.1 _ k_1272) (B.2.2.2.1 _ k_3) ⟨by decide +kernel, by decide +kernel, by decide +kernel⟩ rfl d_Weaver_beginAssignment_19 rfl (Nat.le_of_ble_eq_true rfl) ⟨by decide, by decide⟩ ⟨by decide, by decide⟩ ⟨by decide, by decide⟩ (mv_noH hno _) (fun w19 σ19 h19 => ?_)
  obtain ⟨rfl, rfl⟩ := h19
  refine mv_bipush (pc := 22) (v := nI 91) B d_Weaver_beginAssignment_22 (by decide) ?_
  refine mv_icmp_ne (pc := 24) (tgt := 31) B d_Weaver_beginAssignment_24 rfl (fun h24 => ?_) (fun h24 => ?_)
  · skip
    have hf := x_eq_f h24 hf
    refine mv_iconst (pc := 31) (v := nI 0) B d_Weaver_beginAssignment_31 (by decide) ?_
    refine mv_lpick [2, 1, 0] rfl ?_
    exact jn32 _ _ _ _ hf
  · skip
    have hf := x_eq_t h24 hf
    refine mv_iconst (pc := 27) (v := nI 1) B d_Weaver_beginAssignment_27 (by decide) ?_
    refine mv_goto (pc := 28) (tgt := 32) B d_Weaver_beginAssignment_28 rfl ?_
    refine mv_lpick [2, 1, 0] rfl ?_
    exact jn32 _ _ _ _ hf
def g_Weaver_closeBlock_181 (h : xE) : Option xE := xer (ep_g h.1 6) fun v1 => bif Nat.blt v1 61 then xer (ep_g (xL_29 h.2) v1) fun v3 => xev (g_Program_aim h v3) fun h4 => xer (ep_g h4.1 6) fun v5 => bif Nat.blt v5 61 then xer (ep_g (xL_30 h4.2) v5) fun v7 => xev (g_Program_aimAll h4 v7) fun h8 => some h8 else none else none
def g_Weaver_closeBlock (h : xE) : Option xE := xeb (g_Tokens_close h 125) fun v10 h9 => xer (ep_g h9.1 6) fun v11 => xwi h9 6 (xsub v11 1) fun h12 => xer (ep_g h12.1 6) fun v13 => bif Nat.blt v13 61 then xer (ep_g (xL_31 h12.2) v13) fun v15 => xev (g_Names_forget h12 v15) fun h16 => xer (ep_g h16.1 6) fun v17 => bif Nat.blt v17 61 then xer (ep_g (xL_28 h16.2) v17) fun v19 => bif xeq v19 206 then (xeb (g_Program_emit h16 317 0) fun v38 h37 => xev (g_Names_leaveOp h37) fun h39 => xwi h39 1 0 fun h40 => some h40) else (bif xeq v19 209 then (xeb (g_Tokens_kind h16) fun v21 h20 => bif xeq v21 210 then (xeb (g_Tokens_take h20 210) fun v23 h22 => xer (ep_g h22.1 6) fun v24 => bif Nat.blt v24 61 then xer (ep_g (xL_30 h22.2) v24) fun v26 => xeb (g_Program_emit h22 311 (xi2l v26)) fun v28 h27 => xer (ep_g h27.1 6) fun v29 => bif Nat.blt v29 61 then xer (ep_g (xL_29 h27.2) v29) fun v31 => xev (g_Program_aim h27 v31) fun h32 => xeb (g_Tokens_kind h32) fun v34 h33 => bif xeq v34 209 then (xev (g_Weaver_beginIf h33 v28) fun h36 => some h36) else (xev (g_Weaver_openBlock h33 210 4294967295 v28) fun h35 => some h35) else none else none) else (g_Weaver_closeBlock_181  h20)) else (g_Weaver_closeBlock_181  h16)) else none else none
set_option maxHeartbeats 4000000 in
set_option maxRecDepth 100000 in
theorem cx_Weaver_closeBlock (l : Launch) {dA : FieldType → ClassId} {D : va_G} {al : Nat → Nat} {sk sv : Nat → Nat} (hi : mv_inj (mg dA D al me)) (b : mv_H) (hb : xR (mv_r b)) (h : xE) {rg : xE} (hf : g_Weaver_closeBlock h = some rg) : mv_C l y_Weaver_closeBlock (Cond.code y_Weaver_closeBlock b_Weaver_closeBlock 3 (Option.none : Option Jvm.ClassFile.FieldType) :: ma) ({ frames := 4, cells := 0, slots := 0, locals := 86 }) (mg dA D al me) (mK sk sv) [.ref (al 2)] (ab b h) (mv_Rv (fun σ1 => σ1 = ab b rg)) := by
  refine mv_C.ofV (cc := b_Weaver_closeBlock) (nL := 3) (ret := (Option.none : Option Jvm.ClassFile.FieldType)) (by decide +kernel) rfl hi (Nat.le_of_ble_eq_true rfl) ?_
  intro p e s m below meth c B hNs hr hnm hno
  have jn181 : ∀ (h : xE), g_Weaver_closeBlock_181  h = some rg → mv_V p l e ({ frames := 4, cells := 0, slots := 0, locals := 86 }) s m ([.ref (al 2)] : List Value).toArray below meth c (mg dA D al me) 3 0 0 (mv_Q (mg dA D al me) below s 0 0 (mv_Rv (fun σ1 => σ1 = ab b rg))) (ab b h) 181 [(0, .ref (al 2))] [] := by
    intro  h hf
    unfold g_Weaver_closeBlock_181 at hf
    refine mv_aload_n (pc := 181) B d_Weaver_closeBlock_181 rfl 0 rfl ?_
    refine mv_getR (pc := 182) (ci := 1) (C := R_Weaver) (T := F_Weaver) (N := 16) B 5 rfl rfl (by decide) i_Weaver (B.2.2.2.1 _ k_235) rfl hb.1.2.2.1 d_Weaver_closeBlock_182 ?_
    refine mv_aload_n (pc := 185) B d_Weaver_closeBlock_185 rfl 0 rfl ?_
    refine mv_getR (pc := 186) (ci := 1) (C := R_Weaver) (T := F_Weaver) (N := 16) B 12 rfl rfl (by decide) i_Weaver (B.2.2.2.1 _ k_242) rfl (hb.1.1 2 12 _ rfl) d_Weaver_closeBlock_186 ?_
    refine mv_aload_n (pc := 189) B d_Weaver_closeBlock_189 rfl 0 rfl ?_
    refine mv_getI (pc := 190) (ci := 1) (C := R_Weaver) (T := F_Weaver) (N := 16) B 15 rfl rfl (by decide) i_Weaver (B.2.2.2.1 _ k_245) rfl d_Weaver_closeBlock_190 ?_
    obtain ⟨v1, ev1, hf⟩ := xer_e hf
    refine mvn_top (xfi_2_15 ev1) ?_
    obtain ⟨q2, hf⟩ := xix_e hf
    refine mv_iald (pc := 193) B rfl (xin q2 (by decide)) d_Weaver_closeBlock_193 ?_
    obtain ⟨v3, ev3, hf⟩ := xer_e hf
    refine mvn_top (xfa_29 q2 ev3) ?_
    obtain ⟨h4, eh4, hf⟩ := xev_e hf
    refine mv_callVv (pc := 194) (n := 1) (ci := 7) (C := R_Program) B (mK_ok sk sv) hNs rfl rfl (cx_Program_aim l hi _ hb _ _ eh4) rfl (ma_goodc kc_Program_aim) (B.2.2.2.1 _ k_1402) (B.2.2.2.1 _ k_1403) (B.2.2.2.1 _ k_1404) (B.2.2.2.1 _ k_8) ⟨by decide +kernel, by decide +kernel, by decide +kernel⟩ rfl d_Weaver_closeBlock_194 rfl (Nat.le_of_ble_eq_true rfl) ⟨by decide, by decide⟩ ⟨by decide, by decide⟩ ⟨by decide, by decide⟩ (mv_noH hno _) (fun σ194 h194 => ?_)
    subst h194
    refine mv_aload_n (pc := 197) B d_Weaver_closeBlock_197 rfl 0 rfl ?_
    refine mv_getR (pc := 198) (ci := 1) (C := R_Weaver) (T := F_Weaver) (N := 16) B 5 rfl rfl (by decide) i_Weaver (B.2.2.2.1 _ k_235) rfl hb.1.2.2.1 d_Weaver_closeBlock_198 ?_
    refine mv_aload_n (pc := 201) B d_Weaver_closeBlock_201 rfl 0 rfl ?_
    refine mv_getR (pc := 202) (ci := 1) (C := R_Weaver) (T := F_Weaver) (N := 16) B 13 rfl rfl (by decide) i_Weaver (B.2.2.2.1 _ k_243) rfl (hb.1.1 2 13 _ rfl) d_Weaver_closeBlock_202 ?_
    refine mv_aload_n (pc := 205) B d_Weaver_closeBlock_205 rfl 0 rfl ?_
    refine mv_getI (pc := 206) (ci := 1) (C := R_Weaver) (T := F_Weaver) (N := 16) B 15 rfl rfl (by decide) i_Weaver (B.2.2.2.1 _ k_245) rfl d_Weaver_closeBlock_206 ?_
    obtain ⟨v5, ev5, hf⟩ := xer_e hf
    refine mvn_top (xfi_2_15 ev5) ?_
    obtain ⟨q6, hf⟩ := xix_e hf
    refine mv_iald (pc := 209) B rfl (xin q6 (by decide)) d_Weaver_closeBlock_209 ?_
    obtain ⟨v7, ev7, hf⟩ := xer_e hf
    refine mvn_top (xfa_30 q6 ev7) ?_
    obtain ⟨h8, eh8, hf⟩ := xev_e hf
    refine mv_callVv (pc := 210) (n := 1) (ci := 7) (C := R_Program) B (mK_ok sk sv) hNs rfl rfl (cx_Program_aimAll l hi _ hb _ _ eh8) rfl (ma_goodc kc_Program_aimAll) (B.2.2.2.1 _ k_1406) (B.2.2.2.1 _ k_1407) (B.2.2.2.1 _ k_1408) (B.2.2.2.1 _ k_8) ⟨by decide +kernel, by decide +kernel, by decide +kernel⟩ rfl d_Weaver_closeBlock_210 rfl (Nat.le_of_ble_eq_true rfl) ⟨by decide, by decide⟩ ⟨by decide, by decide⟩ ⟨by decide, by decide⟩ (mv_noH hno _) (fun σ210 h210 => ?_)
    subst h210
    exact mv_vret (pc := 213) B hr d_Weaver_closeBlock_213 (Nat.le_refl _) (Nat.le_refl _) ⟨rfl, xret_v hf⟩
  unfold g_Weaver_closeBlock at hf
  refine mv_aload_n (pc := 0) B d_Weaver_closeBlock_0 rfl 0 rfl ?_
  refine mv_getR (pc := 1) (ci := 1) (C := R_Weaver) (T := F_Weaver) (N := 16) B 0 rfl rfl (by decide) i_Weaver (B.2.2.2.1 _ k_228) rfl (hb.1.1 2 0 _ rfl) d_Weaver_closeBlock_1 ?_
  refine mv_bipush (pc := 4) (v := nI 125) B d_Weaver_closeBlock_4 (by decide) ?_
  obtain ⟨v10, h9, eh9, hf⟩ := xeb_e hf
  refine mv_callVi (pc := 6) (n := 1) (ci := 2) (C := R_Tokens) B (mK_ok sk sv) hNs rfl rfl (cx_Tokens_close l hi _ hb _ _ eh9) rfl (ma_goodc kc_Tokens_close) (B.2.2.2.1 _ k_1396) (B.2.2.2.1 _ k_1397) (B.2.2.2.1 _ k_1398) (B.2.2.2.1 _ k_3) ⟨by decide +kernel, by decide +kernel, by decide +kernel⟩ rfl d_Weaver_closeBlock_6 rfl (Nat.le_of_ble_eq_true rfl) ⟨by decide, by decide⟩ ⟨by decide, by decide⟩ ⟨by decide, by decide⟩ (mv_noH hno _) (fun w6 σ6 h6 => ?_)
  obtain ⟨rfl, rfl⟩ := h6
  refine mv_pop (pc := 9) B d_Weaver_closeBlock_9 rfl ?_
  refine mv_aload_n (pc := 10) B d_Weaver_closeBlock_10 rfl 0 rfl ?_
  refine mv_dup (pc := 11) B d_Weaver_closeBlock_11 rfl ?_
  refine mv_getI (pc := 12) (ci := 1) (C := R_Weaver) (T := F_Weaver) (N := 16) B 15 rfl rfl (by decide) i_Weaver (B.2.2.2.1 _ k_245) rfl d_Weaver_closeBlock_12 ?_
  obtain ⟨v11, ev11, hf⟩ := xer_e hf
  refine mvn_top (xfi_2_15 ev11) ?_
  refine mv_iconst (pc := 15) (v := nI 1) B d_Weaver_closeBlock_15 (by decide) ?_
  refine mvn_isub (pc := 16) B d_Weaver_closeBlock_16 ?_
  refine mv_putI (pc := 17) (ci := 1) (C := R_Weaver) (T := F_Weaver) (N := 16) B 15 rfl rfl (by decide) i_Weaver t_Weaver_ok n_Weaver (B.2.2.2.1 _ k_245) rfl rfl rfl rfl d_Weaver_closeBlock_17 ?_
  refine mvn_hp (xwi_2_15 _ _ _) (xwi_f hf) (fun h12 hf => ?_)
  refine mv_aload_n (pc := 20) B d_Weaver_closeBlock_20 rfl 0 rfl ?_
  refine mv_getR (pc := 21) (ci := 1) (C := R_Weaver) (T := F_Weaver) (N := 16) B 1 rfl rfl (by decide) i_Weaver (B.2.2.2.1 _ k_229) rfl (hb.1.1 2 1 _ rfl) d_Weaver_closeBlock_21 ?_
  refine mv_aload_n (pc := 24) B d_Weaver_closeBlock_24 rfl 0 rfl ?_
  refine mv_getR (pc := 25) (ci := 1) (C := R_Weaver) (T := F_Weaver) (N := 16) B 14 rfl rfl (by decide) i_Weaver (B.2.2.2.1 _ k_244) rfl (hb.1.1 2 14 _ rfl) d_Weaver_closeBlock_25 ?_
  refine mv_aload_n (pc := 28) B d_Weaver_closeBlock_28 rfl 0 rfl ?_
  refine mv_getI (pc := 29) (ci := 1) (C := R_Weaver) (T := F_Weaver) (N := 16) B 15 rfl rfl (by decide) i_Weaver (B.2.2.2.1 _ k_245) rfl d_Weaver_closeBlock_29 ?_
  obtain ⟨v13, ev13, hf⟩ := xer_e hf
  refine mvn_top (xfi_2_15 ev13) ?_
  obtain ⟨q14, hf⟩ := xix_e hf
  refine mv_iald (pc := 32) B rfl (xin q14 (by decide)) d_Weaver_closeBlock_32 ?_
  obtain ⟨v15, ev15, hf⟩ := xer_e hf
  refine mvn_top (xfa_31 q14 ev15) ?_
  obtain ⟨h16, eh16, hf⟩ := xev_e hf
  refine mv_callVv (pc := 33) (n := 1) (ci := 4) (C := R_Names) B (mK_ok sk sv) hNs rfl rfl (cx_Names_forget l hi _ hb _ _ eh16) rfl (ma_goodc kc_Names_forget) (B.2.2.2.1 _ k_1400) (B.2.2.2.1 _ k_1259) (B.2.2.2.1 _ k_1260) (B.2.2.2.1 _ k_5) ⟨by decide +kernel, by decide +kernel, by decide +kernel⟩ rfl d_Weaver_closeBlock_33 rfl (Nat.le_of_ble_eq_true rfl) ⟨by decide, by decide⟩ ⟨by decide, by decide⟩ ⟨by decide, by decide⟩ (mv_noH hno _) (fun σ33 h33 => ?_)
  subst h33
  refine mv_aload_n (pc := 36) B d_Weaver_closeBlock_36 rfl 0 rfl ?_
  refine mv_getR (pc := 37) (ci := 1) (C := R_Weaver) (T := F_Weaver) (N := 16) B 11 rfl rfl (by decide) i_Weaver (B.2.2.2.1 _ k_241) rfl (hb.1.1 2 11 _ rfl) d_Weaver_closeBlock_37 ?_
  refine mv_aload_n (pc := 40) B d_Weaver_closeBlock_40 rfl 0 rfl ?_
  refine mv_getI (pc := 41) (ci := 1) (C := R_Weaver) (T := F_Weaver) (N := 16) B 15 rfl rfl (by decide) i_Weaver (B.2.2.2.1 _ k_245) rfl d_Weaver_closeBlock_41 ?_
  obtain ⟨v17, ev17, hf⟩ := xer_e hf
  refine mvn_top (xfi_2_15 ev17) ?_
  obtain ⟨q18, hf⟩ := xix_e hf
  refine mv_iald (pc := 44) B rfl (xin q18 (by decide)) d_Weaver_closeBlock_44 ?_
  obtain ⟨v19, ev19, hf⟩ := xer_e hf
  refine mvn_top (xfa_28 q18 ev19) ?_
  refine mv_istore_n (pc := 45) B d_Weaver_closeBlock_45 rfl (by decide) rfl ?_
  refine mv_iload_n (pc := 46) B d_Weaver_closeBlock_46 rfl 0 rfl ?_
  refine mv_sipush (pc := 47) (v := nI 206) B d_Weaver_closeBlock_47 (by decide) ?_
  refine mv_icmp_ne (pc := 50) (tgt := 80) B d_Weaver_closeBlock_50 rfl (fun h50 => ?_) (fun h50 => ?_)
  · skip
    have hf := x_eq_f h50 hf
    refine mv_iload_n (pc := 80) B d_Weaver_closeBlock_80 rfl 0 rfl ?_
    refine mv_sipush (pc := 81) (v := nI 209) B d_Weaver_closeBlock_81 (by decide) ?_
    refine mv_icmp_ne (pc := 84) (tgt := 181) B d_Weaver_closeBlock_84 rfl (fun h84 => ?_) (fun h84 => ?_)
    · skip
      have hf := x_eq_f h84 hf
      refine mv_lpick [1] rfl ?_
      exact jn181  _ hf
    · skip
      have hf := x_eq_t h84 hf
      refine mv_aload_n (pc := 87) B d_Weaver_closeBlock_87 rfl 1 rfl ?_
      refine mv_getR (pc := 88) (ci := 1) (C := R_Weaver) (T := F_Weaver) (N := 16) B 0 rfl rfl (by decide) i_Weaver (B.2.2.2.1 _ k_228) rfl (hb.1.1 2 0 _ rfl) d_Weaver_closeBlock_88 ?_
      obtain ⟨v21, h20, eh20, hf⟩ := xeb_e hf
      refine mv_callVi (pc := 91) (n := 0) (ci := 2) (C := R_Tokens) B (mK_ok sk sv) hNs rfl rfl (cx_Tokens_kind l hi _ hb _ eh20) rfl (ma_goodc kc_Tokens_kind) (B.2.2.2.1 _ k_1299) (B.2.2.2.1 _ k_1271) (B.2.2.2.1 _ k_1272) (B.2.2.2.1 _ k_3) ⟨by decide +kernel, by decide +kernel, by decide +kernel⟩ rfl d_Weaver_closeBlock_91 rfl (Nat.le_of_ble_eq_true rfl) ⟨by decide, by decide⟩ ⟨by decide, by decide⟩ ⟨by decide, by decide⟩ (mv_noH hno _) (fun w91 σ91 h91 => ?_)
      obtain ⟨rfl, rfl⟩ := h91
      refine mv_sipush (pc := 94) (v := nI 210) B d_Weaver_closeBlock_94 (by decide) ?_
      refine mv_icmp_ne (pc := 97) (tgt := 181) B d_Weaver_closeBlock_97 rfl (fun h97 => ?_) (fun h97 => ?_)
      · skip
        have hf := x_eq_f h97 hf
        refine mv_lpick [1] rfl ?_
        exact jn181  _ hf
      · skip
        have hf := x_eq_t h97 hf
        refine mv_aload_n (pc := 100) B d_Weaver_closeBlock_100 rfl 1 rfl ?_
        refine mv_getR (pc := 101) (ci := 1) (C := R_Weaver) (T := F_Weaver) (N := 16) B 0 rfl rfl (by decide) i_Weaver (B.2.2.2.1 _ k_228) rfl (hb.1.1 2 0 _ rfl) d_Weaver_closeBlock_101 ?_
        refine mv_sipush (pc := 104) (v := nI 210) B d_Weaver_closeBlock_104 (by decide) ?_
        obtain ⟨v23, h22, eh22, hf⟩ := xeb_e hf
        refine mv_callVi (pc := 107) (n := 1) (ci := 2) (C := R_Tokens) B (mK_ok sk sv) hNs rfl rfl (cx_Tokens_take l hi _ hb _ _ eh22) rfl (ma_goodc kc_Tokens_take) (B.2.2.2.1 _ k_1266) (B.2.2.2.1 _ k_1267) (B.2.2.2.1 _ k_1268) (B.2.2.2.1 _ k_3) ⟨by decide +kernel, by decide +kernel, by decide +kernel⟩ rfl d_Weaver_closeBlock_107 rfl (Nat.le_of_ble_eq_true rfl) ⟨by decide, by decide⟩ ⟨by decide, by decide⟩ ⟨by decide, by decide⟩ (mv_noH hno _) (fun w107 σ107 h107 => ?_)
        obtain ⟨rfl, rfl⟩ := h107
        refine mv_pop (pc := 110) B d_Weaver_closeBlock_110 rfl ?_
        refine mv_aload_n (pc := 111) B d_Weaver_closeBlock_111 rfl 1 rfl ?_
        refine mv_getR (pc := 112) (ci := 1) (C := R_Weaver) (T := F_Weaver) (N := 16) B 5 rfl rfl (by decide) i_Weaver (B.2.2.2.1 _ k_235) rfl hb.1.2.2.1 d_Weaver_closeBlock_112 ?_
        refine mv_sipush (pc := 115) (v := nI 311) B d_Weaver_closeBlock_115 (by decide) ?_
        refine mv_aload_n (pc := 118) B d_Weaver_closeBlock_118 rfl 1 rfl ?_
        refine mv_getR (pc := 119) (ci := 1) (C := R_Weaver) (T := F_Weaver) (N := 16) B 13 rfl rfl (by decide) i_Weaver (B.2.2.2.1 _ k_243) rfl (hb.1.1 2 13 _ rfl) d_Weaver_closeBlock_119 ?_
        refine mv_aload_n (pc := 122) B d_Weaver_closeBlock_122 rfl 1 rfl ?_
        refine mv_getI (pc := 123) (ci := 1) (C := R_Weaver) (T := F_Weaver) (N := 16) B 15 rfl rfl (by decide) i_Weaver (B.2.2.2.1 _ k_245) rfl d_Weaver_closeBlock_123 ?_
        obtain ⟨v24, ev24, hf⟩ := xer_e hf
        refine mvn_top (xfi_2_15 ev24) ?_
        obtain ⟨q25, hf⟩ := xix_e hf
        refine mv_iald (pc := 126) B rfl (xin q25 (by decide)) d_Weaver_closeBlock_126 ?_
        obtain ⟨v26, ev26, hf⟩ := xer_e hf
        refine mvn_top (xfa_30 q25 ev26) ?_
        refine mvn_i2l (pc := 127) B d_Weaver_closeBlock_127 ?_
        obtain ⟨v28, h27, eh27, hf⟩ := xeb_e hf
        refine mv_callVi (pc := 128) (n := 2) (ci := 7) (C := R_Program) B (mK_ok sk sv) hNs rfl rfl (cx_Program_emit l hi _ hb _ _ _ eh27) rfl (ma_goodc kc_Program_emit) (B.2.2.2.1 _ k_1384) (B.2.2.2.1 _ k_1385) (B.2.2.2.1 _ k_1386) (B.2.2.2.1 _ k_8) ⟨by decide +kernel, by decide +kernel, by decide +kernel⟩ rfl d_Weaver_closeBlock_128 rfl (Nat.le_of_ble_eq_true rfl) ⟨by decide, by decide⟩ ⟨by decide, by decide⟩ ⟨by decide, by decide⟩ (mv_noH hno _) (fun w128 σ128 h128 => ?_)
        obtain ⟨rfl, rfl⟩ := h128
        refine mv_istore_n (pc := 131) B d_Weaver_closeBlock_131 rfl (by decide) rfl ?_
        refine mv_aload_n (pc := 132) B d_Weaver_closeBlock_132 rfl 2 rfl ?_
        refine mv_getR (pc := 133) (ci := 1) (C := R_Weaver) (T := F_Weaver) (N := 16) B 5 rfl rfl (by decide) i_Weaver (B.2.2.2.1 _ k_235) rfl hb.1.2.2.1 d_Weaver_closeBlock_133 ?_
        refine mv_aload_n (pc := 136) B d_Weaver_closeBlock_136 rfl 2 rfl ?_
        refine mv_getR (pc := 137) (ci := 1) (C := R_Weaver) (T := F_Weaver) (N := 16) B 12 rfl rfl (by decide) i_Weaver (B.2.2.2.1 _ k_242) rfl (hb.1.1 2 12 _ rfl) d_Weaver_closeBlock_137 ?_
        refine mv_aload_n (pc := 140) B d_Weaver_closeBlock_140 rfl 2 rfl ?_
        refine mv_getI (pc := 141) (ci := 1) (C := R_Weaver) (T := F_Weaver) (N := 16) B 15 rfl rfl (by decide) i_Weaver (B.2.2.2.1 _ k_245) rfl d_Weaver_closeBlock_141 ?_
        obtain ⟨v29, ev29, hf⟩ := xer_e hf
        refine mvn_top (xfi_2_15 ev29) ?_
        obtain ⟨q30, hf⟩ := xix_e hf
        refine mv_iald (pc := 144) B rfl (xin q30 (by decide)) d_Weaver_closeBlock_144 ?_
        obtain ⟨v31, ev31, hf⟩ := xer_e hf
        refine mvn_top (xfa_29 q30 ev31) ?_
        obtain ⟨h32, eh32, hf⟩ := xev_e hf
        refine mv_callVv (pc := 145) (n := 1) (ci := 7) (C := R_Program) B (mK_ok sk sv) hNs rfl rfl (cx_Program_aim l hi _ hb _ _ eh32) rfl (ma_goodc kc_Program_aim) (B.2.2.2.1 _ k_1402) (B.2.2.2.1 _ k_1403) (B.2.2.2.1 _ k_1404) (B.2.2.2.1 _ k_8) ⟨by decide +kernel, by decide +kernel, by decide +kernel⟩ rfl d_Weaver_closeBlock_145 rfl (Nat.le_of_ble_eq_true rfl) ⟨by decide, by decide⟩ ⟨by decide, by decide⟩ ⟨by decide, by decide⟩ (mv_noH hno _) (fun σ145 h145 => ?_)
        subst h145
        refine mv_aload_n (pc := 148) B d_Weaver_closeBlock_148 rfl 2 rfl ?_
        refine mv_getR (pc := 149) (ci := 1) (C := R_Weaver) (T := F_Weaver) (N := 16) B 0 rfl rfl (by decide) i_Weaver (B.2.2.2.1 _ k_228) rfl (hb.1.1 2 0 _ rfl) d_Weaver_closeBlock_149 ?_
        obtain ⟨v34, h33, eh33, hf⟩ := xeb_e hf
        refine mv_callVi (pc := 152) (n := 0) (ci := 2) (C := R_Tokens) B (mK_ok sk sv) hNs rfl rfl (cx_Tokens_kind l hi _ hb _ eh33) rfl (ma_goodc kc_Tokens_kind) (B.2.2.2.1 _ k_1299) (B.2.2.2.1 _ k_1271) (B.2.2.2.1 _ k_1272) (B.2.2.2.1 _ k_3) ⟨by decide +kernel, by decide +kernel, by decide +kernel⟩ rfl d_Weaver_closeBlock_152 rfl (Nat.le_of_ble_eq_true rfl) ⟨by decide, by decide⟩ ⟨by decide, by decide⟩ ⟨by decide, by decide⟩ (mv_noH hno _) (fun w152 σ152 h152 => ?_)
        obtain ⟨rfl, rfl⟩ := h152
        refine mv_sipush (pc := 155) (v := nI 209) B d_Weaver_closeBlock_155 (by decide) ?_
        refine mv_icmp_ne (pc := 158) (tgt := 169) B d_Weaver_closeBlock_158 rfl (fun h158 => ?_) (fun h158 => ?_)
        · skip
          have hf := x_eq_f h158 hf
          refine mv_aload_n (pc := 169) B d_Weaver_closeBlock_169 rfl 2 rfl ?_
          refine mv_sipush (pc := 170) (v := nI 210) B d_Weaver_closeBlock_170 (by decide) ?_
          refine mv_iconst (pc := 173) (v := nI 4294967295) B d_Weaver_closeBlock_173 (by decide) ?_
          refine mv_iload_n (pc := 174) B d_Weaver_closeBlock_174 rfl 0 rfl ?_
          obtain ⟨h35, eh35, hf⟩ := xev_e hf
          refine mv_callVv (pc := 175) (n := 3) (ci := 1) (C := R_Weaver) B (mK_ok sk sv) hNs rfl rfl (cx_Weaver_openBlock l hi _ hb _ _ _ _ eh35) rfl (ma_goodc kc_Weaver_openBlock) (B.2.2.2.1 _ k_1345) (B.2.2.2.1 _ k_1347) (B.2.2.2.1 _ ks_41) (B.2.2.2.1 _ k_2) ⟨by decide +kernel, by decide +kernel, by decide +kernel⟩ rfl d_Weaver_closeBlock_175 rfl (Nat.le_of_ble_eq_true rfl) ⟨by decide, by decide⟩ ⟨by decide, by decide⟩ ⟨by decide, by decide⟩ (mv_noH hno _) (fun σ175 h175 => ?_)
          subst h175
          refine mv_goto (pc := 178) (tgt := 213) B d_Weaver_closeBlock_178 rfl ?_
          exact mv_vret (pc := 213) B hr d_Weaver_closeBlock_213 (Nat.le_refl _) (Nat.le_refl _) ⟨rfl, xret_v hf⟩
        · skip
          have hf := x_eq_t h158 hf
          refine mv_aload_n (pc := 161) B d_Weaver_closeBlock_161 rfl 2 rfl ?_
          refine mv_iload_n (pc := 162) B d_Weaver_closeBlock_162 rfl 0 rfl ?_
          obtain ⟨h36, eh36, hf⟩ := xev_e hf
          refine mv_callVv (pc := 163) (n := 1) (ci := 1) (C := R_Weaver) B (mK_ok sk sv) hNs rfl rfl (cx_Weaver_beginIf l hi _ hb _ _ eh36) rfl (ma_goodc kc_Weaver_beginIf) (B.2.2.2.1 _ k_1388) (B.2.2.2.1 _ k_1390) (B.2.2.2.1 _ ks_46) (B.2.2.2.1 _ k_2) ⟨by decide +kernel, by decide +kernel, by decide +kernel⟩ rfl d_Weaver_closeBlock_163 rfl (Nat.le_of_ble_eq_true rfl) ⟨by decide, by decide⟩ ⟨by decide, by decide⟩ ⟨by decide, by decide⟩ (mv_noH hno _) (fun σ163 h163 => ?_)
          subst h163
          refine mv_goto (pc := 166) (tgt := 178) B d_Weaver_closeBlock_166 rfl ?_
          refine mv_goto (pc := 178) (tgt := 213) B d_Weaver_closeBlock_178 rfl ?_
          exact mv_vret (pc := 213) B hr d_Weaver_closeBlock_213 (Nat.le_refl _) (Nat.le_refl _) ⟨rfl, xret_v hf⟩
  · skip
    have hf := x_eq_t h50 hf
    refine mv_aload_n (pc := 53) B d_Weaver_closeBlock_53 rfl 1 rfl ?_
    refine mv_getR (pc := 54) (ci := 1) (C := R_Weaver) (T := F_Weaver) (N := 16) B 5 rfl rfl (by decide) i_Weaver (B.2.2.2.1 _ k_235) rfl hb.1.2.2.1 d_Weaver_closeBlock_54 ?_
    refine mv_sipush (pc := 57) (v := nI 317) B d_Weaver_closeBlock_57 (by decide) ?_
    refine mv_lconst (pc := 60) (v := nJ 0) B d_Weaver_closeBlock_60 (by decide) ?_
    obtain ⟨v38, h37, eh37, hf⟩ := xeb_e hf
    refine mv_callVi (pc := 61) (n := 2) (ci := 7) (C := R_Program) B (mK_ok sk sv) hNs rfl rfl (cx_Program_emit l hi _ hb _ _ _ eh37) rfl (ma_goodc kc_Program_emit) (B.2.2.2.1 _ k_1384) (B.2.2.2.1 _ k_1385) (B.2.2.2.1 _ k_1386) (B.2.2.2.1 _ k_8) ⟨by decide +kernel, by decide +kernel, by decide +kernel⟩ rfl d_Weaver_closeBlock_61 rfl (Nat.le_of_ble_eq_true rfl) ⟨by decide, by decide⟩ ⟨by decide, by decide⟩ ⟨by decide, by decide⟩ (mv_noH hno _) (fun w61 σ61 h61 => ?_)
    obtain ⟨rfl, rfl⟩ := h61
    refine mv_pop (pc := 64) B d_Weaver_closeBlock_64 rfl ?_
    refine mv_aload_n (pc := 65) B d_Weaver_closeBlock_65 rfl 1 rfl ?_
    refine mv_getR (pc := 66) (ci := 1) (C := R_Weaver) (T := F_Weaver) (N := 16) B 1 rfl rfl (by decide) i_Weaver (B.2.2.2.1 _ k_229) rfl (hb.1.1 2 1 _ rfl) d_Weaver_closeBlock_66 ?_
    obtain ⟨h39, eh39, hf⟩ := xev_e hf
    refine mv_callVv (pc := 69) (n := 0) (ci := 4) (C := R_Names) B (mK_ok sk sv) hNs rfl rfl (cx_Names_leaveOp l hi _ hb _ eh39) rfl (ma_goodc kc_Names_leaveOp) (B.2.2.2.1 _ k_1401) (B.2.2.2.1 _ k_1251) (B.2.2.2.1 _ k_1252) (B.2.2.2.1 _ k_5) ⟨by decide +kernel, by decide +kernel, by decide +kernel⟩ rfl d_Weaver_closeBlock_69 rfl (Nat.le_of_ble_eq_true rfl) ⟨by decide, by decide⟩ ⟨by decide, by decide⟩ ⟨by decide, by decide⟩ (mv_noH hno _) (fun σ69 h69 => ?_)
    subst h69
    refine mv_aload_n (pc := 72) B d_Weaver_closeBlock_72 rfl 1 rfl ?_
    refine mv_iconst (pc := 73) (v := nI 0) B d_Weaver_closeBlock_73 (by decide) ?_
    refine mv_putI (pc := 74) (ci := 1) (C := R_Weaver) (T := F_Weaver) (N := 16) B 6 rfl rfl (by decide) i_Weaver t_Weaver_ok n_Weaver (B.2.2.2.1 _ k_236) rfl rfl rfl rfl d_Weaver_closeBlock_74 ?_
    refine mvn_hp (xwi_2_6 _ _ _) (xwi_f hf) (fun h40 hf => ?_)
    refine mv_goto (pc := 77) (tgt := 213) B d_Weaver_closeBlock_77 rfl ?_
    exact mv_vret (pc := 213) B hr d_Weaver_closeBlock_213 (Nat.le_refl _) (Nat.le_refl _) ⟨rfl, xret_v hf⟩
def g_Weaver_statement (h : xE) : Option xE := xeb (g_Tokens_kind h) fun v2 h1 => bif xeq v2 3 then (xev (g_Weaver_beginAssignment h1) fun h3 => some h3) else (bif xeq v2 125 then (xev (g_Weaver_closeBlock h1) fun h4 => some h4) else (bif xeq v2 207 then (xev (g_Weaver_beginLet h1) fun h5 => some h5) else (bif xeq v2 208 then (xeb (g_Tokens_take h1 208) fun v7 h6 => xeb (g_Tokens_take h6 4) fun v9 h8 => xeb (g_Weaver_numberUpTo h8 v9 1000000) fun v11 h10 => xeb (g_Program_emit h10 316 (xi2l v11)) fun v13 h12 => xeb (g_Tokens_take h12 59) fun v15 h14 => some h14) else (bif xeq v2 209 then (xev (g_Weaver_beginIf h1 4294967295) fun h16 => some h16) else (xev (g_Tokens_wrong h1) fun h17 => some h17)))))
set_option maxHeartbeats 4000000 in
set_option maxRecDepth 100000 in
theorem cx_Weaver_statement (l : Launch) {dA : FieldType → ClassId} {D : va_G} {al : Nat → Nat} {sk sv : Nat → Nat} (hi : mv_inj (mg dA D al me)) (b : mv_H) (hb : xR (mv_r b)) (h : xE) {rg : xE} (hf : g_Weaver_statement h = some rg) : mv_C l y_Weaver_statement (Cond.code y_Weaver_statement b_Weaver_statement 1 (Option.none : Option Jvm.ClassFile.FieldType) :: ma) ({ frames := 5, cells := 0, slots := 0, locals := 108 }) (mg dA D al me) (mK sk sv) [.ref (al 2)] (ab b h) (mv_Rv (fun σ1 => σ1 = ab b rg)) := by
  refine mv_C.ofV (cc := b_Weaver_statement) (nL := 1) (ret := (Option.none : Option Jvm.ClassFile.FieldType)) (by decide +kernel) rfl hi (Nat.le_of_ble_eq_true rfl) ?_
  intro p e s m below meth c B hNs hr hnm hno
  unfold g_Weaver_statement at hf
  refine mv_aload_n (pc := 0) B d_Weaver_statement_0 rfl 0 rfl ?_
  refine mv_getR (pc := 1) (ci := 1) (C := R_Weaver) (T := F_Weaver) (N := 16) B 0 rfl rfl (by decide) i_Weaver (B.2.2.2.1 _ k_228) rfl (hb.1.1 2 0 _ rfl) d_Weaver_statement_1 ?_
  obtain ⟨v2, h1, eh1, hf⟩ := xeb_e hf
  refine mv_callVi (pc := 4) (n := 0) (ci := 2) (C := R_Tokens) B (mK_ok sk sv) hNs rfl rfl (cx_Tokens_kind l hi _ hb _ eh1) rfl (ma_goodc kc_Tokens_kind) (B.2.2.2.1 _ k_1299) (B.2.2.2.1 _ k_1271) (B.2.2.2.1 _ k_1272) (B.2.2.2.1 _ k_3) ⟨by decide +kernel, by decide +kernel, by decide +kernel⟩ rfl d_Weaver_statement_4 rfl (Nat.le_of_ble_eq_true rfl) ⟨by decide, by decide⟩ ⟨by decide, by decide⟩ ⟨by decide, by decide⟩ (mv_noH hno _) (fun w4 σ4 h4 => ?_)
  obtain ⟨rfl, rfl⟩ := h4
  refine mv_lsw (pc := 7) B d_Weaver_statement_7 (by decide) (by decide) ?_
  refine ⟨fun h7 => ?_, fun h7n3 => ?_⟩
  · skip
    have hf := x_sw_t (y := 3) (by decide) h7 hf
    show mv_V _ _ _ _ _ _ _ _ _ _ _ _ _ _ _ _ 63 _ _
    refine mv_aload_n (pc := 63) B d_Weaver_statement_63 rfl 0 rfl ?_
    obtain ⟨h3, eh3, hf⟩ := xev_e hf
    refine mv_callVv (pc := 64) (n := 0) (ci := 1) (C := R_Weaver) B (mK_ok sk sv) hNs rfl rfl (cx_Weaver_beginAssignment l hi _ hb _ eh3) rfl (ma_goodc kc_Weaver_beginAssignment) (B.2.2.2.1 _ k_1379) (B.2.2.2.1 _ k_1381) (B.2.2.2.1 _ ks_45) (B.2.2.2.1 _ k_2) ⟨by decide +kernel, by decide +kernel, by decide +kernel⟩ rfl d_Weaver_statement_64 rfl (Nat.le_of_ble_eq_true rfl) ⟨by decide, by decide⟩ ⟨by decide, by decide⟩ ⟨by decide, by decide⟩ (mv_noH hno _) (fun σ64 h64 => ?_)
    subst h64
    refine mv_goto (pc := 67) (tgt := 143) B d_Weaver_statement_67 rfl ?_
    exact mv_vret (pc := 143) B hr d_Weaver_statement_143 (Nat.le_refl _) (Nat.le_refl _) ⟨rfl, xret_v hf⟩
  have hf := x_sw_f (y := 3) (by decide) h7n3 hf
  refine ⟨fun h7 => ?_, fun h7n125 => ?_⟩
  · skip
    have hf := x_sw_t (y := 125) (by decide) h7 hf
    show mv_V _ _ _ _ _ _ _ _ _ _ _ _ _ _ _ _ 129 _ _
    refine mv_aload_n (pc := 129) B d_Weaver_statement_129 rfl 0 rfl ?_
    obtain ⟨h4, eh4, hf⟩ := xev_e hf
    refine mv_callVv (pc := 130) (n := 0) (ci := 1) (C := R_Weaver) B (mK_ok sk sv) hNs rfl rfl (cx_Weaver_closeBlock l hi _ hb _ eh4) rfl (ma_goodc kc_Weaver_closeBlock) (B.2.2.2.1 _ k_1392) (B.2.2.2.1 _ k_1394) (B.2.2.2.1 _ ks_47) (B.2.2.2.1 _ k_2) ⟨by decide +kernel, by decide +kernel, by decide +kernel⟩ rfl d_Weaver_statement_130 rfl (Nat.le_of_ble_eq_true rfl) ⟨by decide, by decide⟩ ⟨by decide, by decide⟩ ⟨by decide, by decide⟩ (mv_noH hno _) (fun σ130 h130 => ?_)
    subst h130
    refine mv_goto (pc := 133) (tgt := 143) B d_Weaver_statement_133 rfl ?_
    exact mv_vret (pc := 143) B hr d_Weaver_statement_143 (Nat.le_refl _) (Nat.le_refl _) ⟨rfl, xret_v hf⟩
  have hf := x_sw_f (y := 125) (by decide) h7n125 hf
  refine ⟨fun h7 => ?_, fun h7n207 => ?_⟩
  · skip
    have hf := x_sw_t (y := 207) (by decide) h7 hf
    show mv_V _ _ _ _ _ _ _ _ _ _ _ _ _ _ _ _ 56 _ _
    refine mv_aload_n (pc := 56) B d_Weaver_statement_56 rfl 0 rfl ?_
    obtain ⟨h5, eh5, hf⟩ := xev_e hf
    refine mv_callVv (pc := 57) (n := 0) (ci := 1) (C := R_Weaver) B (mK_ok sk sv) hNs rfl rfl (cx_Weaver_beginLet l hi _ hb _ eh5) rfl (ma_goodc kc_Weaver_beginLet) (B.2.2.2.1 _ k_1367) (B.2.2.2.1 _ k_1369) (B.2.2.2.1 _ ks_43) (B.2.2.2.1 _ k_2) ⟨by decide +kernel, by decide +kernel, by decide +kernel⟩ rfl d_Weaver_statement_57 rfl (Nat.le_of_ble_eq_true rfl) ⟨by decide, by decide⟩ ⟨by decide, by decide⟩ ⟨by decide, by decide⟩ (mv_noH hno _) (fun σ57 h57 => ?_)
    subst h57
    refine mv_goto (pc := 60) (tgt := 143) B d_Weaver_statement_60 rfl ?_
    exact mv_vret (pc := 143) B hr d_Weaver_statement_143 (Nat.le_refl _) (Nat.le_refl _) ⟨rfl, xret_v hf⟩
  have hf := x_sw_f (y := 207) (by decide) h7n207 hf
  refine ⟨fun h7 => ?_, fun h7n208 => ?_⟩
  · skip
    have hf := x_sw_t (y := 208) (by decide) h7 hf
    show mv_V _ _ _ _ _ _ _ _ _ _ _ _ _ _ _ _ 70 _ _
    refine mv_aload_n (pc := 70) B d_Weaver_statement_70 rfl 0 rfl ?_
    refine mv_getR (pc := 71) (ci := 1) (C := R_Weaver) (T := F_Weaver) (N := 16) B 0 rfl rfl (by decide) i_Weaver (B.2.2.2.1 _ k_228) rfl (hb.1.1 2 0 _ rfl) d_Weaver_statement_71 ?_
    refine mv_sipush (pc := 74) (v := nI 208) B d_Weaver_statement_74 (by decide) ?_
    obtain ⟨v7, h6, eh6, hf⟩ := xeb_e hf
    refine mv_callVi (pc := 77) (n := 1) (ci := 2) (C := R_Tokens) B (mK_ok sk sv) hNs rfl rfl (cx_Tokens_take l hi _ hb _ _ eh6) rfl (ma_goodc kc_Tokens_take) (B.2.2.2.1 _ k_1266) (B.2.2.2.1 _ k_1267) (B.2.2.2.1 _ k_1268) (B.2.2.2.1 _ k_3) ⟨by decide +kernel, by decide +kernel, by decide +kernel⟩ rfl d_Weaver_statement_77 rfl (Nat.le_of_ble_eq_true rfl) ⟨by decide, by decide⟩ ⟨by decide, by decide⟩ ⟨by decide, by decide⟩ (mv_noH hno _) (fun w77 σ77 h77 => ?_)
    obtain ⟨rfl, rfl⟩ := h77
    refine mv_pop (pc := 80) B d_Weaver_statement_80 rfl ?_
    refine mv_aload_n (pc := 81) B d_Weaver_statement_81 rfl 0 rfl ?_
    refine mv_getR (pc := 82) (ci := 1) (C := R_Weaver) (T := F_Weaver) (N := 16) B 5 rfl rfl (by decide) i_Weaver (B.2.2.2.1 _ k_235) rfl hb.1.2.2.1 d_Weaver_statement_82 ?_
    refine mv_sipush (pc := 85) (v := nI 316) B d_Weaver_statement_85 (by decide) ?_
    refine mv_aload_n (pc := 88) B d_Weaver_statement_88 rfl 0 rfl ?_
    refine mv_aload_n (pc := 89) B d_Weaver_statement_89 rfl 0 rfl ?_
    refine mv_getR (pc := 90) (ci := 1) (C := R_Weaver) (T := F_Weaver) (N := 16) B 0 rfl rfl (by decide) i_Weaver (B.2.2.2.1 _ k_228) rfl (hb.1.1 2 0 _ rfl) d_Weaver_statement_90 ?_
    refine mv_iconst (pc := 93) (v := nI 4) B d_Weaver_statement_93 (by decide) ?_
    obtain ⟨v9, h8, eh8, hf⟩ := xeb_e hf
    refine mv_callVi (pc := 94) (n := 1) (ci := 2) (C := R_Tokens) B (mK_ok sk sv) hNs rfl rfl (cx_Tokens_take l hi _ hb _ _ eh8) rfl (ma_goodc kc_Tokens_take) (B.2.2.2.1 _ k_1266) (B.2.2.2.1 _ k_1267) (B.2.2.2.1 _ k_1268) (B.2.2.2.1 _ k_3) ⟨by decide +kernel, by decide +kernel, by decide +kernel⟩ rfl d_Weaver_statement_94 rfl (Nat.le_of_ble_eq_true rfl) ⟨by decide, by decide⟩ ⟨by decide, by decide⟩ ⟨by decide, by decide⟩ (mv_noH hno _) (fun w94 σ94 h94 => ?_)
    obtain ⟨rfl, rfl⟩ := h94
    refine mv_ldcw (pc := 97) (v := 1000000) B (B.2.2.2.1 _ k_1383) d_Weaver_statement_97 ?_
    refine mvn_top (n := 1000000) (by decide) ?_
    obtain ⟨v11, h10, eh10, hf⟩ := xeb_e hf
    refine mv_callVi (pc := 100) (n := 2) (ci := 1) (C := R_Weaver) B (mK_ok sk sv) hNs rfl rfl (cx_Weaver_numberUpTo l hi _ hb _ _ _ eh10) rfl (ma_goodc kc_Weaver_numberUpTo) (B.2.2.2.1 _ k_1304) (B.2.2.2.1 _ k_1306) (B.2.2.2.1 _ ks_35) (B.2.2.2.1 _ k_2) ⟨by decide +kernel, by decide +kernel, by decide +kernel⟩ rfl d_Weaver_statement_100 rfl (Nat.le_of_ble_eq_true rfl) ⟨by decide, by decide⟩ ⟨by decide, by decide⟩ ⟨by decide, by decide⟩ (mv_noH hno _) (fun w100 σ100 h100 => ?_)
    obtain ⟨rfl, rfl⟩ := h100
    refine mvn_i2l (pc := 103) B d_Weaver_statement_103 ?_
    obtain ⟨v13, h12, eh12, hf⟩ := xeb_e hf
    refine mv_callVi (pc := 104) (n := 2) (ci := 7) (C := R_Program) B (mK_ok sk sv) hNs rfl rfl (cx_Program_emit l hi _ hb _ _ _ eh12) rfl (ma_goodc kc_Program_emit) (B.2.2.2.1 _ k_1384) (B.2.2.2.1 _ k_1385) (B.2.2.2.1 _ k_1386) (B.2.2.2.1 _ k_8) ⟨by decide +kernel, by decide +kernel, by decide +kernel⟩ rfl d_Weaver_statement_104 rfl (Nat.le_of_ble_eq_true rfl) ⟨by decide, by decide⟩ ⟨by decide, by decide⟩ ⟨by decide, by decide⟩ (mv_noH hno _) (fun w104 σ104 h104 => ?_)
    obtain ⟨rfl, rfl⟩ := h104
    refine mv_pop (pc := 107) B d_Weaver_statement_107 rfl ?_
    refine mv_aload_n (pc := 108) B d_Weaver_statement_108 rfl 0 rfl ?_
    refine mv_getR (pc := 109) (ci := 1) (C := R_Weaver) (T := F_Weaver) (N := 16) B 0 rfl rfl (by decide) i_Weaver (B.2.2.2.1 _ k_228) rfl (hb.1.1 2 0 _ rfl) d_Weaver_statement_109 ?_
    refine mv_bipush (pc := 112) (v := nI 59) B d_Weaver_statement_112 (by decide) ?_
    obtain ⟨v15, h14, eh14, hf⟩ := xeb_e hf
    refine mv_callVi (pc := 114) (n := 1) (ci := 2) (C := R_Tokens) B (mK_ok sk sv) hNs rfl rfl (cx_Tokens_take l hi _ hb _ _ eh14) rfl (ma_goodc kc_Tokens_take) (B.2.2.2.1 _ k_1266) (B.2.2.2.1 _ k_1267) (B.2.2.2.1 _ k_1268) (B.2.2.2.1 _ k_3) ⟨by decide +kernel, by decide +kernel, by decide +kernel⟩ rfl d_Weaver_statement_114 rfl (Nat.le_of_ble_eq_true rfl) ⟨by decide, by decide⟩ ⟨by decide, by decide⟩ ⟨by decide, by decide⟩ (mv_noH hno _) (fun w114 σ114 h114 => ?_)
    obtain ⟨rfl, rfl⟩ := h114
    refine mv_pop (pc := 117) B d_Weaver_statement_117 rfl ?_
    refine mv_goto (pc := 118) (tgt := 143) B d_Weaver_statement_118 rfl ?_
    exact mv_vret (pc := 143) B hr d_Weaver_statement_143 (Nat.le_refl _) (Nat.le_refl _) ⟨rfl, xret_v hf⟩
  have hf := x_sw_f (y := 208) (by decide) h7n208 hf
  refine ⟨fun h7 => ?_, fun h7n209 => ?_⟩
  · skip
    have hf := x_sw_t (y := 209) (by decide) h7 hf
    show mv_V _ _ _ _ _ _ _ _ _ _ _ _ _ _ _ _ 121 _ _
    refine mv_aload_n (pc := 121) B d_Weaver_statement_121 rfl 0 rfl ?_
    refine mv_iconst (pc := 122) (v := nI 4294967295) B d_Weaver_statement_122 (by decide) ?_
    obtain ⟨h16, eh16, hf⟩ := xev_e hf
    refine mv_callVv (pc := 123) (n := 1) (ci := 1) (C := R_Weaver) B (mK_ok sk sv) hNs rfl rfl (cx_Weaver_beginIf l hi _ hb _ _ eh16) rfl (ma_goodc kc_Weaver_beginIf) (B.2.2.2.1 _ k_1388) (B.2.2.2.1 _ k_1390) (B.2.2.2.1 _ ks_46) (B.2.2.2.1 _ k_2) ⟨by decide +kernel, by decide +kernel, by decide +kernel⟩ rfl d_Weaver_statement_123 rfl (Nat.le_of_ble_eq_true rfl) ⟨by decide, by decide⟩ ⟨by decide, by decide⟩ ⟨by decide, by decide⟩ (mv_noH hno _) (fun σ123 h123 => ?_)
    subst h123
    refine mv_goto (pc := 126) (tgt := 143) B d_Weaver_statement_126 rfl ?_
    exact mv_vret (pc := 143) B hr d_Weaver_statement_143 (Nat.le_refl _) (Nat.le_refl _) ⟨rfl, xret_v hf⟩
  have hf := x_sw_f (y := 209) (by decide) h7n209 hf
  show mv_V _ _ _ _ _ _ _ _ _ _ _ _ _ _ _ _ 136 _ _
  refine mv_aload_n (pc := 136) B d_Weaver_statement_136 rfl 0 rfl ?_
  refine mv_getR (pc := 137) (ci := 1) (C := R_Weaver) (T := F_Weaver) (N := 16) B 0 rfl rfl (by decide) i_Weaver (B.2.2.2.1 _ k_228) rfl (hb.1.1 2 0 _ rfl) d_Weaver_statement_137 ?_
  obtain ⟨h17, eh17, hf⟩ := xev_e hf
  refine mv_callVv (pc := 140) (n := 0) (ci := 2) (C := R_Tokens) B (mK_ok sk sv) hNs rfl rfl (cx_Tokens_wrong l hi _ hb _ eh17) rfl (ma_goodc kc_Tokens_wrong) (B.2.2.2.1 _ k_1362) (B.2.2.2.1 _ k_1275) (B.2.2.2.1 _ k_1276) (B.2.2.2.1 _ k_3) ⟨by decide +kernel, by decide +kernel, by decide +kernel⟩ rfl d_Weaver_statement_140 rfl (Nat.le_of_ble_eq_true rfl) ⟨by decide, by decide⟩ ⟨by decide, by decide⟩ ⟨by decide, by decide⟩ (mv_noH hno _) (fun σ140 h140 => ?_)
  subst h140
  exact mv_vret (pc := 143) B hr d_Weaver_statement_143 (Nat.le_refl _) (Nat.le_refl _) ⟨rfl, xret_v hf⟩
def g_Weaver_item (h : xE) : Option xE := xeb (g_Tokens_kind h) fun v2 h1 => bif xeq v2 1 then (xwi h1 1 4 fun h3 => some h3) else (bif xeq v2 201 then (xev (g_Weaver_register h1) fun h4 => some h4) else (bif xeq v2 202 then (xev (g_Weaver_file h1) fun h5 => some h5) else (bif xeq v2 204 then (xev (g_Weaver_fetch h1) fun h6 => some h6) else (bif xeq v2 206 then (xev (g_Weaver_op h1) fun h7 => some h7) else (xev (g_Tokens_wrong h1) fun h8 => some h8)))))
set_option maxHeartbeats 4000000 in
set_option maxRecDepth 100000 in
theorem cx_Weaver_item (l : Launch) {dA : FieldType → ClassId} {D : va_G} {al : Nat → Nat} {sk sv : Nat → Nat} (hi : mv_inj (mg dA D al me)) (b : mv_H) (hb : xR (mv_r b)) (h : xE) {rg : xE} (hf : g_Weaver_item h = some rg) : mv_C l y_Weaver_item (Cond.code y_Weaver_item b_Weaver_item 1 (Option.none : Option Jvm.ClassFile.FieldType) :: ma) ({ frames := 5, cells := 0, slots := 0, locals := 111 }) (mg dA D al me) (mK sk sv) [.ref (al 2)] (ab b h) (mv_Rv (fun σ1 => σ1 = ab b rg)) := by
  refine mv_C.ofV (cc := b_Weaver_item) (nL := 1) (ret := (Option.none : Option Jvm.ClassFile.FieldType)) (by decide +kernel) rfl hi (Nat.le_of_ble_eq_true rfl) ?_
  intro p e s m below meth c B hNs hr hnm hno
  unfold g_Weaver_item at hf
  refine mv_aload_n (pc := 0) B d_Weaver_item_0 rfl 0 rfl ?_
  refine mv_getR (pc := 1) (ci := 1) (C := R_Weaver) (T := F_Weaver) (N := 16) B 0 rfl rfl (by decide) i_Weaver (B.2.2.2.1 _ k_228) rfl (hb.1.1 2 0 _ rfl) d_Weaver_item_1 ?_
  obtain ⟨v2, h1, eh1, hf⟩ := xeb_e hf
  refine mv_callVi (pc := 4) (n := 0) (ci := 2) (C := R_Tokens) B (mK_ok sk sv) hNs rfl rfl (cx_Tokens_kind l hi _ hb _ eh1) rfl (ma_goodc kc_Tokens_kind) (B.2.2.2.1 _ k_1299) (B.2.2.2.1 _ k_1271) (B.2.2.2.1 _ k_1272) (B.2.2.2.1 _ k_3) ⟨by decide +kernel, by decide +kernel, by decide +kernel⟩ rfl d_Weaver_item_4 rfl (Nat.le_of_ble_eq_true rfl) ⟨by decide, by decide⟩ ⟨by decide, by decide⟩ ⟨by decide, by decide⟩ (mv_noH hno _) (fun w4 σ4 h4 => ?_)
  obtain ⟨rfl, rfl⟩ := h4
  refine mv_lsw (pc := 7) B d_Weaver_item_7 (by decide) (by decide) ?_
  refine ⟨fun h7 => ?_, fun h7n1 => ?_⟩
  · skip
    have hf := x_sw_t (y := 1) (by decide) h7 hf
    show mv_V _ _ _ _ _ _ _ _ _ _ _ _ _ _ _ _ 84 _ _
    refine mv_aload_n (pc := 84) B d_Weaver_item_84 rfl 0 rfl ?_
    refine mv_iconst (pc := 85) (v := nI 4) B d_Weaver_item_85 (by decide) ?_
    refine mv_putI (pc := 86) (ci := 1) (C := R_Weaver) (T := F_Weaver) (N := 16) B 6 rfl rfl (by decide) i_Weaver t_Weaver_ok n_Weaver (B.2.2.2.1 _ k_236) rfl rfl rfl rfl d_Weaver_item_86 ?_
    refine mvn_hp (xwi_2_6 _ _ _) (xwi_f hf) (fun h3 hf => ?_)
    refine mv_goto (pc := 89) (tgt := 99) B d_Weaver_item_89 rfl ?_
    exact mv_vret (pc := 99) B hr d_Weaver_item_99 (Nat.le_refl _) (Nat.le_refl _) ⟨rfl, xret_v hf⟩
  have hf := x_sw_f (y := 1) (by decide) h7n1 hf
  refine ⟨fun h7 => ?_, fun h7n201 => ?_⟩
  · skip
    have hf := x_sw_t (y := 201) (by decide) h7 hf
    show mv_V _ _ _ _ _ _ _ _ _ _ _ _ _ _ _ _ 56 _ _
    refine mv_aload_n (pc := 56) B d_Weaver_item_56 rfl 0 rfl ?_
    obtain ⟨h4, eh4, hf⟩ := xev_e hf
    refine mv_callVv (pc := 57) (n := 0) (ci := 1) (C := R_Weaver) B (mK_ok sk sv) hNs rfl rfl (cx_Weaver_register l hi _ hb _ eh4) rfl (ma_goodc kc_Weaver_register) (B.2.2.2.1 _ k_1300) (B.2.2.2.1 _ k_1302) (B.2.2.2.1 _ ks_34) (B.2.2.2.1 _ k_2) ⟨by decide +kernel, by decide +kernel, by decide +kernel⟩ rfl d_Weaver_item_57 rfl (Nat.le_of_ble_eq_true rfl) ⟨by decide, by decide⟩ ⟨by decide, by decide⟩ ⟨by decide, by decide⟩ (mv_noH hno _) (fun σ57 h57 => ?_)
    subst h57
    refine mv_goto (pc := 60) (tgt := 99) B d_Weaver_item_60 rfl ?_
    exact mv_vret (pc := 99) B hr d_Weaver_item_99 (Nat.le_refl _) (Nat.le_refl _) ⟨rfl, xret_v hf⟩
  have hf := x_sw_f (y := 201) (by decide) h7n201 hf
  refine ⟨fun h7 => ?_, fun h7n202 => ?_⟩
  · skip
    have hf := x_sw_t (y := 202) (by decide) h7 hf
    show mv_V _ _ _ _ _ _ _ _ _ _ _ _ _ _ _ _ 63 _ _
    refine mv_aload_n (pc := 63) B d_Weaver_item_63 rfl 0 rfl ?_
    obtain ⟨h5, eh5, hf⟩ := xev_e hf
    refine mv_callVv (pc := 64) (n := 0) (ci := 1) (C := R_Weaver) B (mK_ok sk sv) hNs rfl rfl (cx_Weaver_file l hi _ hb _ eh5) rfl (ma_goodc kc_Weaver_file) (B.2.2.2.1 _ k_1333) (B.2.2.2.1 _ k_1335) (B.2.2.2.1 _ ks_38) (B.2.2.2.1 _ k_2) ⟨by decide +kernel, by decide +kernel, by decide +kernel⟩ rfl d_Weaver_item_64 rfl (Nat.le_of_ble_eq_true rfl) ⟨by decide, by decide⟩ ⟨by decide, by decide⟩ ⟨by decide, by decide⟩ (mv_noH hno _) (fun σ64 h64 => ?_)
    subst h64
    refine mv_goto (pc := 67) (tgt := 99) B d_Weaver_item_67 rfl ?_
    exact mv_vret (pc := 99) B hr d_Weaver_item_99 (Nat.le_refl _) (Nat.le_refl _) ⟨rfl, xret_v hf⟩
  have hf := x_sw_f (y := 202) (by decide) h7n202 hf
  refine ⟨fun h7 => ?_, fun h7n204 => ?_⟩
  · skip
    have hf := x_sw_t (y := 204) (by decide) h7 hf
    show mv_V _ _ _ _ _ _ _ _ _ _ _ _ _ _ _ _ 70 _ _
    refine mv_aload_n (pc := 70) B d_Weaver_item_70 rfl 0 rfl ?_
    obtain ⟨h6, eh6, hf⟩ := xev_e hf
    refine mv_callVv (pc := 71) (n := 0) (ci := 1) (C := R_Weaver) B (mK_ok sk sv) hNs rfl rfl (cx_Weaver_fetch l hi _ hb _ eh6) rfl (ma_goodc kc_Weaver_fetch) (B.2.2.2.1 _ k_1337) (B.2.2.2.1 _ k_1339) (B.2.2.2.1 _ ks_39) (B.2.2.2.1 _ k_2) ⟨by decide +kernel, by decide +kernel, by decide +kernel⟩ rfl d_Weaver_item_71 rfl (Nat.le_of_ble_eq_true rfl) ⟨by decide, by decide⟩ ⟨by decide, by decide⟩ ⟨by decide, by decide⟩ (mv_noH hno _) (fun σ71 h71 => ?_)
    subst h71
    refine mv_goto (pc := 74) (tgt := 99) B d_Weaver_item_74 rfl ?_
    exact mv_vret (pc := 99) B hr d_Weaver_item_99 (Nat.le_refl _) (Nat.le_refl _) ⟨rfl, xret_v hf⟩
  have hf := x_sw_f (y := 204) (by decide) h7n204 hf
  refine ⟨fun h7 => ?_, fun h7n206 => ?_⟩
  · skip
    have hf := x_sw_t (y := 206) (by decide) h7 hf
    show mv_V _ _ _ _ _ _ _ _ _ _ _ _ _ _ _ _ 77 _ _
    refine mv_aload_n (pc := 77) B d_Weaver_item_77 rfl 0 rfl ?_
    obtain ⟨h7, eh7, hf⟩ := xev_e hf
    refine mv_callVv (pc := 78) (n := 0) (ci := 1) (C := R_Weaver) B (mK_ok sk sv) hNs rfl rfl (cx_Weaver_op l hi _ hb _ eh7) rfl (ma_goodc kc_Weaver_op) (B.2.2.2.1 _ k_1341) (B.2.2.2.1 _ k_1343) (B.2.2.2.1 _ ks_40) (B.2.2.2.1 _ k_2) ⟨by decide +kernel, by decide +kernel, by decide +kernel⟩ rfl d_Weaver_item_78 rfl (Nat.le_of_ble_eq_true rfl) ⟨by decide, by decide⟩ ⟨by decide, by decide⟩ ⟨by decide, by decide⟩ (mv_noH hno _) (fun σ78 h78 => ?_)
    subst h78
    refine mv_goto (pc := 81) (tgt := 99) B d_Weaver_item_81 rfl ?_
    exact mv_vret (pc := 99) B hr d_Weaver_item_99 (Nat.le_refl _) (Nat.le_refl _) ⟨rfl, xret_v hf⟩
  have hf := x_sw_f (y := 206) (by decide) h7n206 hf
  show mv_V _ _ _ _ _ _ _ _ _ _ _ _ _ _ _ _ 92 _ _
  refine mv_aload_n (pc := 92) B d_Weaver_item_92 rfl 0 rfl ?_
  refine mv_getR (pc := 93) (ci := 1) (C := R_Weaver) (T := F_Weaver) (N := 16) B 0 rfl rfl (by decide) i_Weaver (B.2.2.2.1 _ k_228) rfl (hb.1.1 2 0 _ rfl) d_Weaver_item_93 ?_
  obtain ⟨h8, eh8, hf⟩ := xev_e hf
  refine mv_callVv (pc := 96) (n := 0) (ci := 2) (C := R_Tokens) B (mK_ok sk sv) hNs rfl rfl (cx_Tokens_wrong l hi _ hb _ eh8) rfl (ma_goodc kc_Tokens_wrong) (B.2.2.2.1 _ k_1362) (B.2.2.2.1 _ k_1275) (B.2.2.2.1 _ k_1276) (B.2.2.2.1 _ k_3) ⟨by decide +kernel, by decide +kernel, by decide +kernel⟩ rfl d_Weaver_item_96 rfl (Nat.le_of_ble_eq_true rfl) ⟨by decide, by decide⟩ ⟨by decide, by decide⟩ ⟨by decide, by decide⟩ (mv_noH hno _) (fun σ96 h96 => ?_)
  subst h96
  exact mv_vret (pc := 99) B hr d_Weaver_item_99 (Nat.le_refl _) (Nat.le_refl _) ⟨rfl, xret_v hf⟩
def g_Weaver_addLet (h : xE) (a0 : Nat) : Option xE := xer (ep_g h.1 4) fun v1 => bif xlt v1 0 then (some h) else (xer (ep_g h.1 14) fun v2 => xeb (g_Program_emit h 313 (xi2l v2)) fun v4 h3 => xer (ep_g h3.1 4) fun v5 => xev (g_Names_addLet h3 v5 a0) fun h6 => some h6)
set_option maxHeartbeats 4000000 in
set_option maxRecDepth 100000 in
theorem cx_Weaver_addLet (l : Launch) {dA : FieldType → ClassId} {D : va_G} {al : Nat → Nat} {sk sv : Nat → Nat} (hi : mv_inj (mg dA D al me)) (b : mv_H) (hb : xR (mv_r b)) (h : xE) (a0 : Nat) {rg : xE} (hf : g_Weaver_addLet h a0 = some rg) : mv_C l y_Weaver_addLet (Cond.code y_Weaver_addLet b_Weaver_addLet 2 (Option.none : Option Jvm.ClassFile.FieldType) :: ma) ({ frames := 2, cells := 0, slots := 0, locals := 45 }) (mg dA D al me) (mK sk sv) [.ref (al 2), .int (nI a0)] (ab b h) (mv_Rv (fun σ1 => σ1 = ab b rg)) := by
  refine mv_C.ofV (cc := b_Weaver_addLet) (nL := 2) (ret := (Option.none : Option Jvm.ClassFile.FieldType)) (by decide +kernel) rfl hi (Nat.le_of_ble_eq_true rfl) ?_
  intro p e s m below meth c B hNs hr hnm hno
  unfold g_Weaver_addLet at hf
  refine mv_aload_n (pc := 0) B d_Weaver_addLet_0 rfl 0 rfl ?_
  refine mv_getI (pc := 1) (ci := 1) (C := R_Weaver) (T := F_Weaver) (N := 16) B 9 rfl rfl (by decide) i_Weaver (B.2.2.2.1 _ k_239) rfl d_Weaver_addLet_1 ?_
  obtain ⟨v1, ev1, hf⟩ := xer_e hf
  refine mvn_top (xfi_2_9 ev1) ?_
  refine mv_if_lt (pc := 4) (tgt := 38) B d_Weaver_addLet_4 rfl (fun h4 => ?_) (fun h4 => ?_)
  · skip
    have hf := x_lt_t (y := 0) h4 hf
    exact mv_vret (pc := 38) B hr d_Weaver_addLet_38 (Nat.le_refl _) (Nat.le_refl _) ⟨rfl, xret_v hf⟩
  · skip
    have hf := x_lt_f (y := 0) h4 hf
    refine mv_aload_n (pc := 7) B d_Weaver_addLet_7 rfl 0 rfl ?_
    refine mv_getR (pc := 8) (ci := 1) (C := R_Weaver) (T := F_Weaver) (N := 16) B 5 rfl rfl (by decide) i_Weaver (B.2.2.2.1 _ k_235) rfl hb.1.2.2.1 d_Weaver_addLet_8 ?_
    refine mv_sipush (pc := 11) (v := nI 313) B d_Weaver_addLet_11 (by decide) ?_
    refine mv_aload_n (pc := 14) B d_Weaver_addLet_14 rfl 0 rfl ?_
    refine mv_getR (pc := 15) (ci := 1) (C := R_Weaver) (T := F_Weaver) (N := 16) B 1 rfl rfl (by decide) i_Weaver (B.2.2.2.1 _ k_229) rfl (hb.1.1 2 1 _ rfl) d_Weaver_addLet_15 ?_
    refine mv_getI (pc := 18) (ci := 4) (C := R_Names) (T := F_Names) (N := 10) B 9 rfl rfl (by decide) i_Names (B.2.2.2.1 _ k_149) rfl d_Weaver_addLet_18 ?_
    obtain ⟨v2, ev2, hf⟩ := xer_e hf
    refine mvn_top (xfi_13_9 ev2) ?_
    refine mvn_i2l (pc := 21) B d_Weaver_addLet_21 ?_
    obtain ⟨v4, h3, eh3, hf⟩ := xeb_e hf
    refine mv_callVi (pc := 22) (n := 2) (ci := 7) (C := R_Program) B (mK_ok sk sv) hNs rfl rfl (cx_Program_emit l hi _ hb _ _ _ eh3) rfl (ma_goodc kc_Program_emit) (B.2.2.2.1 _ k_1384) (B.2.2.2.1 _ k_1385) (B.2.2.2.1 _ k_1386) (B.2.2.2.1 _ k_8) ⟨by decide +kernel, by decide +kernel, by decide +kernel⟩ rfl d_Weaver_addLet_22 rfl (Nat.le_of_ble_eq_true rfl) ⟨by decide, by decide⟩ ⟨by decide, by decide⟩ ⟨by decide, by decide⟩ (mv_noH hno _) (fun w22 σ22 h22 => ?_)
    obtain ⟨rfl, rfl⟩ := h22
    refine mv_pop (pc := 25) B d_Weaver_addLet_25 rfl ?_
    refine mv_aload_n (pc := 26) B d_Weaver_addLet_26 rfl 0 rfl ?_
    refine mv_getR (pc := 27) (ci := 1) (C := R_Weaver) (T := F_Weaver) (N := 16) B 1 rfl rfl (by decide) i_Weaver (B.2.2.2.1 _ k_229) rfl (hb.1.1 2 1 _ rfl) d_Weaver_addLet_27 ?_
    refine mv_aload_n (pc := 30) B d_Weaver_addLet_30 rfl 0 rfl ?_
    refine mv_getI (pc := 31) (ci := 1) (C := R_Weaver) (T := F_Weaver) (N := 16) B 9 rfl rfl (by decide) i_Weaver (B.2.2.2.1 _ k_239) rfl d_Weaver_addLet_31 ?_
    obtain ⟨v5, ev5, hf⟩ := xer_e hf
    refine mvn_top (xfi_2_9 ev5) ?_
    refine mv_iload_n (pc := 34) B d_Weaver_addLet_34 rfl 1 rfl ?_
    obtain ⟨h6, eh6, hf⟩ := xev_e hf
    refine mv_callVv (pc := 35) (n := 2) (ci := 4) (C := R_Names) B (mK_ok sk sv) hNs rfl rfl (cx_Names_addLet l hi _ hb _ _ _ eh6) rfl (ma_goodc kc_Names_addLet) (B.2.2.2.1 _ k_1531) (B.2.2.2.1 _ k_1532) (B.2.2.2.1 _ k_1533) (B.2.2.2.1 _ k_5) ⟨by decide +kernel, by decide +kernel, by decide +kernel⟩ rfl d_Weaver_addLet_35 rfl (Nat.le_of_ble_eq_true rfl) ⟨by decide, by decide⟩ ⟨by decide, by decide⟩ ⟨by decide, by decide⟩ (mv_noH hno _) (fun σ35 h35 => ?_)
    subst h35
    exact mv_vret (pc := 38) B hr d_Weaver_addLet_38 (Nat.le_refl _) (Nat.le_refl _) ⟨rfl, xret_v hf⟩
def g_Weaver_assign_63 (y0 : Nat) (h : xE) : Option xE := xer (ep_g h.1 4) fun v1 => xeb (g_Program_emit h y0 (xi2l v1)) fun v3 h2 => some h2
def g_Weaver_assign_42 (h : xE) : Option xE := xer (ep_g h.1 2) fun v4 => bif xeq v4 2 then (g_Weaver_assign_63 314 h) else (g_Weaver_assign_63 315 h)
def g_Weaver_assign (h : xE) (a0 : Nat) : Option xE := xer (ep_g h.1 4) fun v5 => bif xlt v5 0 then (some h) else (xer (ep_g h.1 4) fun v6 => bif Nat.blt v6 64 then xer (ep_g (xL_146 h.2) v6) fun v8 => bif xlt 0 a0 then (bif xlt 0 v8 then (bif xeq a0 v8 then (g_Weaver_assign_42  h) else (xer (ep_g h.1 3) fun v9 => xev (g_Weaver_tell h v9 4) fun h10 => g_Weaver_assign_42  h10)) else (g_Weaver_assign_42  h)) else (g_Weaver_assign_42  h) else none)
set_option maxHeartbeats 4000000 in
set_option maxRecDepth 100000 in
theorem cx_Weaver_assign (l : Launch) {dA : FieldType → ClassId} {D : va_G} {al : Nat → Nat} {sk sv : Nat → Nat} (hi : mv_inj (mg dA D al me)) (b : mv_H) (hb : xR (mv_r b)) (h : xE) (a0 : Nat) {rg : xE} (hf : g_Weaver_assign h a0 = some rg) : mv_C l y_Weaver_assign (Cond.code y_Weaver_assign b_Weaver_assign 3 (Option.none : Option Jvm.ClassFile.FieldType) :: ma) ({ frames := 2, cells := 0, slots := 0, locals := 44 }) (mg dA D al me) (mK sk sv) [.ref (al 2), .int (nI a0)] (ab b h) (mv_Rv (fun σ1 => σ1 = ab b rg)) := by
  refine mv_C.ofV (cc := b_Weaver_assign) (nL := 3) (ret := (Option.none : Option Jvm.ClassFile.FieldType)) (by decide +kernel) rfl hi (Nat.le_of_ble_eq_true rfl) ?_
  intro p e s m below meth c B hNs hr hnm hno
  have jn63 : ∀ (y0 : Nat) (h : xE), g_Weaver_assign_63 y0 h = some rg → mv_V p l e ({ frames := 2, cells := 0, slots := 0, locals := 44 }) s m ([.ref (al 2), .int (nI a0)] : List Value).toArray below meth c (mg dA D al me) 3 0 0 (mv_Q (mg dA D al me) below s 0 0 (mv_Rv (fun σ1 => σ1 = ab b rg))) (ab b h) 63 [(0, .ref (al 2))] [.int (nI y0), .ref (al 145)] := by
    intro y0 h hf
    unfold g_Weaver_assign_63 at hf
    refine mv_aload_n (pc := 63) B d_Weaver_assign_63 rfl 0 rfl ?_
    refine mv_getI (pc := 64) (ci := 1) (C := R_Weaver) (T := F_Weaver) (N := 16) B 9 rfl rfl (by decide) i_Weaver (B.2.2.2.1 _ k_239) rfl d_Weaver_assign_64 ?_
    obtain ⟨v1, ev1, hf⟩ := xer_e hf
    refine mvn_top (xfi_2_9 ev1) ?_
    refine mvn_i2l (pc := 67) B d_Weaver_assign_67 ?_
    obtain ⟨v3, h2, eh2, hf⟩ := xeb_e hf
    refine mv_callVi (pc := 68) (n := 2) (ci := 7) (C := R_Program) B (mK_ok sk sv) hNs rfl rfl (cx_Program_emit l hi _ hb _ _ _ eh2) rfl (ma_goodc kc_Program_emit) (B.2.2.2.1 _ k_1384) (B.2.2.2.1 _ k_1385) (B.2.2.2.1 _ k_1386) (B.2.2.2.1 _ k_8) ⟨by decide +kernel, by decide +kernel, by decide +kernel⟩ rfl d_Weaver_assign_68 rfl (Nat.le_of_ble_eq_true rfl) ⟨by decide, by decide⟩ ⟨by decide, by decide⟩ ⟨by decide, by decide⟩ (mv_noH hno _) (fun w68 σ68 h68 => ?_)
    obtain ⟨rfl, rfl⟩ := h68
    refine mv_pop (pc := 71) B d_Weaver_assign_71 rfl ?_
    exact mv_vret (pc := 72) B hr d_Weaver_assign_72 (Nat.le_refl _) (Nat.le_refl _) ⟨rfl, xret_v hf⟩
  have jn42 : ∀ (h : xE), g_Weaver_assign_42  h = some rg → mv_V p l e ({ frames := 2, cells := 0, slots := 0, locals := 44 }) s m ([.ref (al 2), .int (nI a0)] : List Value).toArray below meth c (mg dA D al me) 3 0 0 (mv_Q (mg dA D al me) below s 0 0 (mv_Rv (fun σ1 => σ1 = ab b rg))) (ab b h) 42 [(0, .ref (al 2))] [] := by
    intro  h hf
    unfold g_Weaver_assign_42 at hf
    refine mv_aload_n (pc := 42) B d_Weaver_assign_42 rfl 0 rfl ?_
    refine mv_getR (pc := 43) (ci := 1) (C := R_Weaver) (T := F_Weaver) (N := 16) B 5 rfl rfl (by decide) i_Weaver (B.2.2.2.1 _ k_235) rfl hb.1.2.2.1 d_Weaver_assign_43 ?_
    refine mv_aload_n (pc := 46) B d_Weaver_assign_46 rfl 0 rfl ?_
    refine mv_getI (pc := 47) (ci := 1) (C := R_Weaver) (T := F_Weaver) (N := 16) B 7 rfl rfl (by decide) i_Weaver (B.2.2.2.1 _ k_237) rfl d_Weaver_assign_47 ?_
    obtain ⟨v4, ev4, hf⟩ := xer_e hf
    refine mvn_top (xfi_2_7 ev4) ?_
    refine mv_iconst (pc := 50) (v := nI 2) B d_Weaver_assign_50 (by decide) ?_
    refine mv_icmp_ne (pc := 51) (tgt := 60) B d_Weaver_assign_51 rfl (fun h51 => ?_) (fun h51 => ?_)
    · skip
      have hf := x_eq_f h51 hf
      refine mv_sipush (pc := 60) (v := nI 315) B d_Weaver_assign_60 (by decide) ?_
      refine mv_lpick [0] rfl ?_
      exact jn63 _ _ hf
    · skip
      have hf := x_eq_t h51 hf
      refine mv_sipush (pc := 54) (v := nI 314) B d_Weaver_assign_54 (by decide) ?_
      refine mv_goto (pc := 57) (tgt := 63) B d_Weaver_assign_57 rfl ?_
      refine mv_lpick [0] rfl ?_
      exact jn63 _ _ hf
  unfold g_Weaver_assign at hf
  refine mv_aload_n (pc := 0) B d_Weaver_assign_0 rfl 0 rfl ?_
  refine mv_getI (pc := 1) (ci := 1) (C := R_Weaver) (T := F_Weaver) (N := 16) B 9 rfl rfl (by decide) i_Weaver (B.2.2.2.1 _ k_239) rfl d_Weaver_assign_1 ?_
  obtain ⟨v5, ev5, hf⟩ := xer_e hf
  refine mvn_top (xfi_2_9 ev5) ?_
  refine mv_if_lt (pc := 4) (tgt := 72) B d_Weaver_assign_4 rfl (fun h4 => ?_) (fun h4 => ?_)
  · skip
    have hf := x_lt_t (y := 0) h4 hf
    exact mv_vret (pc := 72) B hr d_Weaver_assign_72 (Nat.le_refl _) (Nat.le_refl _) ⟨rfl, xret_v hf⟩
  · skip
    have hf := x_lt_f (y := 0) h4 hf
    refine mv_aload_n (pc := 7) B d_Weaver_assign_7 rfl 0 rfl ?_
    refine mv_getR (pc := 8) (ci := 1) (C := R_Weaver) (T := F_Weaver) (N := 16) B 5 rfl rfl (by decide) i_Weaver (B.2.2.2.1 _ k_235) rfl hb.1.2.2.1 d_Weaver_assign_8 ?_
    refine mv_getR (pc := 11) (ci := 7) (C := R_Program) (T := F_Program) (N := 19) B 2 rfl rfl (by decide) i_Program (B.2.2.2.1 _ k_321) rfl (hb.1.2.1 145 2 146 rfl) d_Weaver_assign_11 ?_
    refine mv_aload_n (pc := 14) B d_Weaver_assign_14 rfl 0 rfl ?_
    refine mv_getI (pc := 15) (ci := 1) (C := R_Weaver) (T := F_Weaver) (N := 16) B 9 rfl rfl (by decide) i_Weaver (B.2.2.2.1 _ k_239) rfl d_Weaver_assign_15 ?_
    obtain ⟨v6, ev6, hf⟩ := xer_e hf
    refine mvn_top (xfi_2_9 ev6) ?_
    obtain ⟨q7, hf⟩ := xix_e hf
    refine mv_iald (pc := 18) B rfl (xin q7 (by decide)) d_Weaver_assign_18 ?_
    obtain ⟨v8, ev8, hf⟩ := xer_e hf
    refine mvn_top (xfa_146 q7 ev8) ?_
    refine mv_istore_n (pc := 19) B d_Weaver_assign_19 rfl (by decide) rfl ?_
    refine mv_iload_n (pc := 20) B d_Weaver_assign_20 rfl 2 rfl ?_
    refine mv_if_le (pc := 21) (tgt := 42) B d_Weaver_assign_21 rfl (fun h21 => ?_) (fun h21 => ?_)
    · skip
      have hf := x_le_t (y := 0) h21 hf
      refine mv_lpick [1] rfl ?_
      exact jn42  _ hf
    · skip
      have hf := x_le_f (y := 0) h21 hf
      refine mv_iload_n (pc := 24) B d_Weaver_assign_24 rfl 0 rfl ?_
      refine mv_if_le (pc := 25) (tgt := 42) B d_Weaver_assign_25 rfl (fun h25 => ?_) (fun h25 => ?_)
      · skip
        have hf := x_le_t (y := 0) h25 hf
        refine mv_lpick [1] rfl ?_
        exact jn42  _ hf
      · skip
        have hf := x_le_f (y := 0) h25 hf
        refine mv_iload_n (pc := 28) B d_Weaver_assign_28 rfl 2 rfl ?_
        refine mv_iload_n (pc := 29) B d_Weaver_assign_29 rfl 0 rfl ?_
        refine mv_icmp_eq (pc := 30) (tgt := 42) B d_Weaver_assign_30 rfl (fun h30 => ?_) (fun h30 => ?_)
        · skip
          have hf := x_eq_t h30 hf
          refine mv_lpick [1] rfl ?_
          exact jn42  _ hf
        · skip
          have hf := x_eq_f h30 hf
          refine mv_aload_n (pc := 33) B d_Weaver_assign_33 rfl 1 rfl ?_
          refine mv_aload_n (pc := 34) B d_Weaver_assign_34 rfl 1 rfl ?_
          refine mv_getI (pc := 35) (ci := 1) (C := R_Weaver) (T := F_Weaver) (N := 16) B 8 rfl rfl (by decide) i_Weaver (B.2.2.2.1 _ k_238) rfl d_Weaver_assign_35 ?_
          obtain ⟨v9, ev9, hf⟩ := xer_e hf
          refine mvn_top (xfi_2_8 ev9) ?_
          refine mv_iconst (pc := 38) (v := nI 4) B d_Weaver_assign_38 (by decide) ?_
          obtain ⟨h10, eh10, hf⟩ := xev_e hf
          refine mv_callVv (pc := 39) (n := 2) (ci := 1) (C := R_Weaver) B (mK_ok sk sv) hNs rfl rfl (cx_Weaver_tell l hi _ hb _ _ _ eh10) rfl (ma_goodc kc_Weaver_tell) (B.2.2.2.1 _ k_1282) (B.2.2.2.1 _ k_1284) (B.2.2.2.1 _ ks_32) (B.2.2.2.1 _ k_2) ⟨by decide +kernel, by decide +kernel, by decide +kernel⟩ rfl d_Weaver_assign_39 rfl (Nat.le_of_ble_eq_true rfl) ⟨by decide, by decide⟩ ⟨by decide, by decide⟩ ⟨by decide, by decide⟩ (mv_noH hno _) (fun σ39 h39 => ?_)
          subst h39
          refine mv_lpick [1] rfl ?_
          exact jn42  _ hf
def g_Weaver_finish_115 (h : xE) : Option xE := xeb (g_Tokens_take h 59) fun v2 h1 => some h1
def g_Weaver_finish_72 (h : xE) : Option xE := xeb (g_Program_emit h 312 0) fun v4 h3 => xer (ep_g h3.1 5) fun v5 => xev (g_Weaver_openBlock h3 209 v4 v5) fun h6 => some h6
def g_Weaver_finish (h : xE) : Option xE := xeb (g_Exprs_release h) fun v8 h7 => xer (ep_g h7.1 2) fun v9 => bif xeq v9 1 then (xeb (g_Tokens_close h7 93) fun v18 h17 => xeb (g_Tokens_take h17 61) fun v20 h19 => xwi h19 3 v20 fun h21 => xev (g_Weaver_beginExpr h21 3) fun h22 => some h22) else (xwi h7 1 1 fun h10 => xer (ep_g h10.1 2) fun v11 => bif xeq v11 4 then (bif xlt 1 v8 then (xer (ep_g h10.1 3) fun v15 => xev (g_Weaver_tell h10 v15 4) fun h16 => g_Weaver_finish_72  h16) else (g_Weaver_finish_72  h10)) else (xer (ep_g h10.1 2) fun v12 => bif xeq v12 0 then (xev (g_Weaver_addLet h10 v8) fun h14 => g_Weaver_finish_115  h14) else (xev (g_Weaver_assign h10 v8) fun h13 => g_Weaver_finish_115  h13)))
set_option maxHeartbeats 4000000 in
set_option maxRecDepth 100000 in
theorem cx_Weaver_finish (l : Launch) {dA : FieldType → ClassId} {D : va_G} {al : Nat → Nat} {sk sv : Nat → Nat} (hi : mv_inj (mg dA D al me)) (b : mv_H) (hb : xR (mv_r b)) (h : xE) {rg : xE} (hf : g_Weaver_finish h = some rg) : mv_C l y_Weaver_finish (Cond.code y_Weaver_finish b_Weaver_finish 2 (Option.none : Option Jvm.ClassFile.FieldType) :: ma) ({ frames := 4, cells := 0, slots := 0, locals := 86 }) (mg dA D al me) (mK sk sv) [.ref (al 2)] (ab b h) (mv_Rv (fun σ1 => σ1 = ab b rg)) := by
  refine mv_C.ofV (cc := b_Weaver_finish) (nL := 2) (ret := (Option.none : Option Jvm.ClassFile.FieldType)) (by decide +kernel) rfl hi (Nat.le_of_ble_eq_true rfl) ?_
  intro p e s m below meth c B hNs hr hnm hno
  have jn115 : ∀ (h : xE), g_Weaver_finish_115  h = some rg → mv_V p l e ({ frames := 4, cells := 0, slots := 0, locals := 86 }) s m ([.ref (al 2)] : List Value).toArray below meth c (mg dA D al me) 2 0 0 (mv_Q (mg dA D al me) below s 0 0 (mv_Rv (fun σ1 => σ1 = ab b rg))) (ab b h) 115 [(0, .ref (al 2))] [] := by
    intro  h hf
    unfold g_Weaver_finish_115 at hf
    refine mv_aload_n (pc := 115) B d_Weaver_finish_115 rfl 0 rfl ?_
    refine mv_getR (pc := 116) (ci := 1) (C := R_Weaver) (T := F_Weaver) (N := 16) B 0 rfl rfl (by decide) i_Weaver (B.2.2.2.1 _ k_228) rfl (hb.1.1 2 0 _ rfl) d_Weaver_finish_116 ?_
    refine mv_bipush (pc := 119) (v := nI 59) B d_Weaver_finish_119 (by decide) ?_
    obtain ⟨v2, h1, eh1, hf⟩ := xeb_e hf
    refine mv_callVi (pc := 121) (n := 1) (ci := 2) (C := R_Tokens) B (mK_ok sk sv) hNs rfl rfl (cx_Tokens_take l hi _ hb _ _ eh1) rfl (ma_goodc kc_Tokens_take) (B.2.2.2.1 _ k_1266) (B.2.2.2.1 _ k_1267) (B.2.2.2.1 _ k_1268) (B.2.2.2.1 _ k_3) ⟨by decide +kernel, by decide +kernel, by decide +kernel⟩ rfl d_Weaver_finish_121 rfl (Nat.le_of_ble_eq_true rfl) ⟨by decide, by decide⟩ ⟨by decide, by decide⟩ ⟨by decide, by decide⟩ (mv_noH hno _) (fun w121 σ121 h121 => ?_)
    obtain ⟨rfl, rfl⟩ := h121
    refine mv_pop (pc := 124) B d_Weaver_finish_124 rfl ?_
    exact mv_vret (pc := 125) B hr d_Weaver_finish_125 (Nat.le_refl _) (Nat.le_refl _) ⟨rfl, xret_v hf⟩
  have jn72 : ∀ (h : xE), g_Weaver_finish_72  h = some rg → mv_V p l e ({ frames := 4, cells := 0, slots := 0, locals := 86 }) s m ([.ref (al 2)] : List Value).toArray below meth c (mg dA D al me) 2 0 0 (mv_Q (mg dA D al me) below s 0 0 (mv_Rv (fun σ1 => σ1 = ab b rg))) (ab b h) 72 [(0, .ref (al 2))] [] := by
    intro  h hf
    unfold g_Weaver_finish_72 at hf
    refine mv_aload_n (pc := 72) B d_Weaver_finish_72 rfl 0 rfl ?_
    refine mv_sipush (pc := 73) (v := nI 209) B d_Weaver_finish_73 (by decide) ?_
    refine mv_aload_n (pc := 76) B d_Weaver_finish_76 rfl 0 rfl ?_
    refine mv_getR (pc := 77) (ci := 1) (C := R_Weaver) (T := F_Weaver) (N := 16) B 5 rfl rfl (by decide) i_Weaver (B.2.2.2.1 _ k_235) rfl hb.1.2.2.1 d_Weaver_finish_77 ?_
    refine mv_sipush (pc := 80) (v := nI 312) B d_Weaver_finish_80 (by decide) ?_
    refine mv_lconst (pc := 83) (v := nJ 0) B d_Weaver_finish_83 (by decide) ?_
    obtain ⟨v4, h3, eh3, hf⟩ := xeb_e hf
    refine mv_callVi (pc := 84) (n := 2) (ci := 7) (C := R_Program) B (mK_ok sk sv) hNs rfl rfl (cx_Program_emit l hi _ hb _ _ _ eh3) rfl (ma_goodc kc_Program_emit) (B.2.2.2.1 _ k_1384) (B.2.2.2.1 _ k_1385) (B.2.2.2.1 _ k_1386) (B.2.2.2.1 _ k_8) ⟨by decide +kernel, by decide +kernel, by decide +kernel⟩ rfl d_Weaver_finish_84 rfl (Nat.le_of_ble_eq_true rfl) ⟨by decide, by decide⟩ ⟨by decide, by decide⟩ ⟨by decide, by decide⟩ (mv_noH hno _) (fun w84 σ84 h84 => ?_)
    obtain ⟨rfl, rfl⟩ := h84
    refine mv_aload_n (pc := 87) B d_Weaver_finish_87 rfl 0 rfl ?_
    refine mv_getI (pc := 88) (ci := 1) (C := R_Weaver) (T := F_Weaver) (N := 16) B 10 rfl rfl (by decide) i_Weaver (B.2.2.2.1 _ k_240) rfl d_Weaver_finish_88 ?_
    obtain ⟨v5, ev5, hf⟩ := xer_e hf
    refine mvn_top (xfi_2_10 ev5) ?_
    obtain ⟨h6, eh6, hf⟩ := xev_e hf
    refine mv_callVv (pc := 91) (n := 3) (ci := 1) (C := R_Weaver) B (mK_ok sk sv) hNs rfl rfl (cx_Weaver_openBlock l hi _ hb _ _ _ _ eh6) rfl (ma_goodc kc_Weaver_openBlock) (B.2.2.2.1 _ k_1345) (B.2.2.2.1 _ k_1347) (B.2.2.2.1 _ ks_41) (B.2.2.2.1 _ k_2) ⟨by decide +kernel, by decide +kernel, by decide +kernel⟩ rfl d_Weaver_finish_91 rfl (Nat.le_of_ble_eq_true rfl) ⟨by decide, by decide⟩ ⟨by decide, by decide⟩ ⟨by decide, by decide⟩ (mv_noH hno _) (fun σ91 h91 => ?_)
    subst h91
    exact mv_vret (pc := 94) B hr d_Weaver_finish_94 (Nat.le_refl _) (Nat.le_refl _) ⟨rfl, xret_v hf⟩
  unfold g_Weaver_finish at hf
  refine mv_aload_n (pc := 0) B d_Weaver_finish_0 rfl 0 rfl ?_
  refine mv_getR (pc := 1) (ci := 1) (C := R_Weaver) (T := F_Weaver) (N := 16) B 3 rfl rfl (by decide) i_Weaver (B.2.2.2.1 _ k_232) rfl (hb.1.1 2 3 _ rfl) d_Weaver_finish_1 ?_
  obtain ⟨v8, h7, eh7, hf⟩ := xeb_e hf
  refine mv_callVi (pc := 4) (n := 0) (ci := 6) (C := R_Exprs) B (mK_ok sk sv) hNs rfl rfl (cx_Exprs_release l hi _ hb _ eh7) rfl (ma_goodc kc_Exprs_release) (B.2.2.2.1 _ k_1526) (B.2.2.2.1 _ k_1470) (B.2.2.2.1 _ k_1471) (B.2.2.2.1 _ k_7) ⟨by decide +kernel, by decide +kernel, by decide +kernel⟩ rfl d_Weaver_finish_4 rfl (Nat.le_of_ble_eq_true rfl) ⟨by decide, by decide⟩ ⟨by decide, by decide⟩ ⟨by decide, by decide⟩ (mv_noH hno _) (fun w4 σ4 h4 => ?_)
  obtain ⟨rfl, rfl⟩ := h4
  refine mv_istore_n (pc := 7) B d_Weaver_finish_7 rfl (by decide) rfl ?_
  refine mv_aload_n (pc := 8) B d_Weaver_finish_8 rfl 1 rfl ?_
  refine mv_getI (pc := 9) (ci := 1) (C := R_Weaver) (T := F_Weaver) (N := 16) B 7 rfl rfl (by decide) i_Weaver (B.2.2.2.1 _ k_237) rfl d_Weaver_finish_9 ?_
  obtain ⟨v9, ev9, hf⟩ := xer_e hf
  refine mvn_top (xfi_2_7 ev9) ?_
  refine mv_iconst (pc := 12) (v := nI 1) B d_Weaver_finish_12 (by decide) ?_
  refine mv_icmp_ne (pc := 13) (tgt := 45) B d_Weaver_finish_13 rfl (fun h13 => ?_) (fun h13 => ?_)
  · skip
    have hf := x_eq_f h13 hf
    refine mv_aload_n (pc := 45) B d_Weaver_finish_45 rfl 1 rfl ?_
    refine mv_iconst (pc := 46) (v := nI 1) B d_Weaver_finish_46 (by decide) ?_
    refine mv_putI (pc := 47) (ci := 1) (C := R_Weaver) (T := F_Weaver) (N := 16) B 6 rfl rfl (by decide) i_Weaver t_Weaver_ok n_Weaver (B.2.2.2.1 _ k_236) rfl rfl rfl rfl d_Weaver_finish_47 ?_
    refine mvn_hp (xwi_2_6 _ _ _) (xwi_f hf) (fun h10 hf => ?_)
    refine mv_aload_n (pc := 50) B d_Weaver_finish_50 rfl 1 rfl ?_
    refine mv_getI (pc := 51) (ci := 1) (C := R_Weaver) (T := F_Weaver) (N := 16) B 7 rfl rfl (by decide) i_Weaver (B.2.2.2.1 _ k_237) rfl d_Weaver_finish_51 ?_
    obtain ⟨v11, ev11, hf⟩ := xer_e hf
    refine mvn_top (xfi_2_7 ev11) ?_
    refine mv_iconst (pc := 54) (v := nI 4) B d_Weaver_finish_54 (by decide) ?_
    refine mv_icmp_ne (pc := 55) (tgt := 95) B d_Weaver_finish_55 rfl (fun h55 => ?_) (fun h55 => ?_)
    · skip
      have hf := x_eq_f h55 hf
      refine mv_aload_n (pc := 95) B d_Weaver_finish_95 rfl 1 rfl ?_
      refine mv_getI (pc := 96) (ci := 1) (C := R_Weaver) (T := F_Weaver) (N := 16) B 7 rfl rfl (by decide) i_Weaver (B.2.2.2.1 _ k_237) rfl d_Weaver_finish_96 ?_
      obtain ⟨v12, ev12, hf⟩ := xer_e hf
      refine mvn_top (xfi_2_7 ev12) ?_
      refine mv_if_ne (pc := 99) (tgt := 110) B d_Weaver_finish_99 rfl (fun h99 => ?_) (fun h99 => ?_)
      · skip
        have hf := x_eq_f (y := 0) h99 hf
        refine mv_aload_n (pc := 110) B d_Weaver_finish_110 rfl 1 rfl ?_
        refine mv_iload_n (pc := 111) B d_Weaver_finish_111 rfl 0 rfl ?_
        obtain ⟨h13, eh13, hf⟩ := xev_e hf
        refine mv_callVv (pc := 112) (n := 1) (ci := 1) (C := R_Weaver) B (mK_ok sk sv) hNs rfl rfl (cx_Weaver_assign l hi _ hb _ _ eh13) rfl (ma_goodc kc_Weaver_assign) (B.2.2.2.1 _ k_1536) (B.2.2.2.1 _ k_1538) (B.2.2.2.1 _ ks_67) (B.2.2.2.1 _ k_2) ⟨by decide +kernel, by decide +kernel, by decide +kernel⟩ rfl d_Weaver_finish_112 rfl (Nat.le_of_ble_eq_true rfl) ⟨by decide, by decide⟩ ⟨by decide, by decide⟩ ⟨by decide, by decide⟩ (mv_noH hno _) (fun σ112 h112 => ?_)
        subst h112
        refine mv_lpick [1] rfl ?_
        exact jn115  _ hf
      · skip
        have hf := x_eq_t (y := 0) h99 hf
        refine mv_aload_n (pc := 102) B d_Weaver_finish_102 rfl 1 rfl ?_
        refine mv_iload_n (pc := 103) B d_Weaver_finish_103 rfl 0 rfl ?_
        obtain ⟨h14, eh14, hf⟩ := xev_e hf
        refine mv_callVv (pc := 104) (n := 1) (ci := 1) (C := R_Weaver) B (mK_ok sk sv) hNs rfl rfl (cx_Weaver_addLet l hi _ hb _ _ eh14) rfl (ma_goodc kc_Weaver_addLet) (B.2.2.2.1 _ k_1527) (B.2.2.2.1 _ k_1529) (B.2.2.2.1 _ ks_66) (B.2.2.2.1 _ k_2) ⟨by decide +kernel, by decide +kernel, by decide +kernel⟩ rfl d_Weaver_finish_104 rfl (Nat.le_of_ble_eq_true rfl) ⟨by decide, by decide⟩ ⟨by decide, by decide⟩ ⟨by decide, by decide⟩ (mv_noH hno _) (fun σ104 h104 => ?_)
        subst h104
        refine mv_goto (pc := 107) (tgt := 115) B d_Weaver_finish_107 rfl ?_
        refine mv_lpick [1] rfl ?_
        exact jn115  _ hf
    · skip
      have hf := x_eq_t h55 hf
      refine mv_iload_n (pc := 58) B d_Weaver_finish_58 rfl 0 rfl ?_
      refine mv_iconst (pc := 59) (v := nI 1) B d_Weaver_finish_59 (by decide) ?_
      refine mv_icmp_le (pc := 60) (tgt := 72) B d_Weaver_finish_60 rfl (fun h60 => ?_) (fun h60 => ?_)
      · skip
        have hf := x_le_t h60 hf
        refine mv_lpick [1] rfl ?_
        exact jn72  _ hf
      · skip
        have hf := x_le_f h60 hf
        refine mv_aload_n (pc := 63) B d_Weaver_finish_63 rfl 1 rfl ?_
        refine mv_aload_n (pc := 64) B d_Weaver_finish_64 rfl 1 rfl ?_
        refine mv_getI (pc := 65) (ci := 1) (C := R_Weaver) (T := F_Weaver) (N := 16) B 8 rfl rfl (by decide) i_Weaver (B.2.2.2.1 _ k_238) rfl d_Weaver_finish_65 ?_
        obtain ⟨v15, ev15, hf⟩ := xer_e hf
        refine mvn_top (xfi_2_8 ev15) ?_
        refine mv_iconst (pc := 68) (v := nI 4) B d_Weaver_finish_68 (by decide) ?_
        obtain ⟨h16, eh16, hf⟩ := xev_e hf
        refine mv_callVv (pc := 69) (n := 2) (ci := 1) (C := R_Weaver) B (mK_ok sk sv) hNs rfl rfl (cx_Weaver_tell l hi _ hb _ _ _ eh16) rfl (ma_goodc kc_Weaver_tell) (B.2.2.2.1 _ k_1282) (B.2.2.2.1 _ k_1284) (B.2.2.2.1 _ ks_32) (B.2.2.2.1 _ k_2) ⟨by decide +kernel, by decide +kernel, by decide +kernel⟩ rfl d_Weaver_finish_69 rfl (Nat.le_of_ble_eq_true rfl) ⟨by decide, by decide⟩ ⟨by decide, by decide⟩ ⟨by decide, by decide⟩ (mv_noH hno _) (fun σ69 h69 => ?_)
        subst h69
        refine mv_lpick [1] rfl ?_
        exact jn72  _ hf
  · skip
    have hf := x_eq_t h13 hf
    refine mv_aload_n (pc := 16) B d_Weaver_finish_16 rfl 1 rfl ?_
    refine mv_getR (pc := 17) (ci := 1) (C := R_Weaver) (T := F_Weaver) (N := 16) B 0 rfl rfl (by decide) i_Weaver (B.2.2.2.1 _ k_228) rfl (hb.1.1 2 0 _ rfl) d_Weaver_finish_17 ?_
    refine mv_bipush (pc := 20) (v := nI 93) B d_Weaver_finish_20 (by decide) ?_
    obtain ⟨v18, h17, eh17, hf⟩ := xeb_e hf
    refine mv_callVi (pc := 22) (n := 1) (ci := 2) (C := R_Tokens) B (mK_ok sk sv) hNs rfl rfl (cx_Tokens_close l hi _ hb _ _ eh17) rfl (ma_goodc kc_Tokens_close) (B.2.2.2.1 _ k_1396) (B.2.2.2.1 _ k_1397) (B.2.2.2.1 _ k_1398) (B.2.2.2.1 _ k_3) ⟨by decide +kernel, by decide +kernel, by decide +kernel⟩ rfl d_Weaver_finish_22 rfl (Nat.le_of_ble_eq_true rfl) ⟨by decide, by decide⟩ ⟨by decide, by decide⟩ ⟨by decide, by decide⟩ (mv_noH hno _) (fun w22 σ22 h22 => ?_)
    obtain ⟨rfl, rfl⟩ := h22
    refine mv_pop (pc := 25) B d_Weaver_finish_25 rfl ?_
    refine mv_aload_n (pc := 26) B d_Weaver_finish_26 rfl 1 rfl ?_
    refine mv_aload_n (pc := 27) B d_Weaver_finish_27 rfl 1 rfl ?_
    refine mv_getR (pc := 28) (ci := 1) (C := R_Weaver) (T := F_Weaver) (N := 16) B 0 rfl rfl (by decide) i_Weaver (B.2.2.2.1 _ k_228) rfl (hb.1.1 2 0 _ rfl) d_Weaver_finish_28 ?_
    refine mv_bipush (pc := 31) (v := nI 61) B d_Weaver_finish_31 (by decide) ?_
    obtain ⟨v20, h19, eh19, hf⟩ := xeb_e hf
    refine mv_callVi (pc := 33) (n := 1) (ci := 2) (C := R_Tokens) B (mK_ok sk sv) hNs rfl rfl (cx_Tokens_take l hi _ hb _ _ eh19) rfl (ma_goodc kc_Tokens_take) (B.2.2.2.1 _ k_1266) (B.2.2.2.1 _ k_1267) (B.2.2.2.1 _ k_1268) (B.2.2.2.1 _ k_3) ⟨by decide +kernel, by decide +kernel, by decide +kernel⟩ rfl d_Weaver_finish_33 rfl (Nat.le_of_ble_eq_true rfl) ⟨by decide, by decide⟩ ⟨by decide, by decide⟩ ⟨by decide, by decide⟩ (mv_noH hno _) (fun w33 σ33 h33 => ?_)
    obtain ⟨rfl, rfl⟩ := h33
    refine mv_putI (pc := 36) (ci := 1) (C := R_Weaver) (T := F_Weaver) (N := 16) B 8 rfl rfl (by decide) i_Weaver t_Weaver_ok n_Weaver (B.2.2.2.1 _ k_238) rfl rfl rfl rfl d_Weaver_finish_36 ?_
    refine mvn_hp (xwi_2_8 _ _ _) (xwi_f hf) (fun h21 hf => ?_)
    refine mv_aload_n (pc := 39) B d_Weaver_finish_39 rfl 1 rfl ?_
    refine mv_iconst (pc := 40) (v := nI 3) B d_Weaver_finish_40 (by decide) ?_
    obtain ⟨h22, eh22, hf⟩ := xev_e hf
    refine mv_callVv (pc := 41) (n := 1) (ci := 1) (C := R_Weaver) B (mK_ok sk sv) hNs rfl rfl (cx_Weaver_beginExpr l hi _ hb _ _ eh22) rfl (ma_goodc kc_Weaver_beginExpr) (B.2.2.2.1 _ k_1371) (B.2.2.2.1 _ k_1373) (B.2.2.2.1 _ ks_44) (B.2.2.2.1 _ k_2) ⟨by decide +kernel, by decide +kernel, by decide +kernel⟩ rfl d_Weaver_finish_41 rfl (Nat.le_of_ble_eq_true rfl) ⟨by decide, by decide⟩ ⟨by decide, by decide⟩ ⟨by decide, by decide⟩ (mv_noH hno _) (fun σ41 h41 => ?_)
    subst h41
    exact mv_vret (pc := 44) B hr d_Weaver_finish_44 (Nat.le_refl _) (Nat.le_refl _) ⟨rfl, xret_v hf⟩
def g_Weaver_readBits_72 (x2 : Nat) (h : xE) : Option xE := xwi h 20 (x2 % 4294967296) fun h1 => some h1
def g_Weaver_readBits (h : xE) : Option xE := xeb (g_Tokens_take h 200) fun v3 h2 => xeb (g_Tokens_take h2 4) fun v5 h4 => xeb (g_Tokens_take h4 59) fun v7 h6 => bif Nat.blt v5 32770 then xer (ep_g (xL_6 h6.2) v5) fun v9 => bif xeq (ycmp v9 8) 0 then (g_Weaver_readBits_72 v9 h6) else (bif xeq (ycmp v9 16) 0 then (g_Weaver_readBits_72 v9 h6) else (bif xeq (ycmp v9 32) 0 then (g_Weaver_readBits_72 v9 h6) else (bif xeq (ycmp v9 64) 0 then (g_Weaver_readBits_72 v9 h6) else (xev (g_Weaver_tell h6 v5 3) fun h10 => some h10)))) else none
set_option maxHeartbeats 4000000 in
set_option maxRecDepth 100000 in
theorem cx_Weaver_readBits (l : Launch) {dA : FieldType → ClassId} {D : va_G} {al : Nat → Nat} {sk sv : Nat → Nat} (hi : mv_inj (mg dA D al me)) (b : mv_H) (hb : xR (mv_r b)) (h : xE) {rg : xE} (hf : g_Weaver_readBits h = some rg) : mv_C l y_Weaver_readBits (Cond.code y_Weaver_readBits b_Weaver_readBits 4 (Option.none : Option Jvm.ClassFile.FieldType) :: ma) ({ frames := 2, cells := 0, slots := 0, locals := 44 }) (mg dA D al me) (mK sk sv) [.ref (al 2)] (ab b h) (mv_Rv (fun σ1 => σ1 = ab b rg)) := by
  refine mv_C.ofV (cc := b_Weaver_readBits) (nL := 4) (ret := (Option.none : Option Jvm.ClassFile.FieldType)) (by decide +kernel) rfl hi (Nat.le_of_ble_eq_true rfl) ?_
  intro p e s m below meth c B hNs hr hnm hno
  have jn72 : ∀ (x2 : Nat) (h : xE), g_Weaver_readBits_72 x2 h = some rg → mv_V p l e ({ frames := 2, cells := 0, slots := 0, locals := 44 }) s m ([.ref (al 2)] : List Value).toArray below meth c (mg dA D al me) 4 0 0 (mv_Q (mg dA D al me) below s 0 0 (mv_Rv (fun σ1 => σ1 = ab b rg))) (ab b h) 72 [(0, .ref (al 2)), (2, .long (nJ x2))] [] := by
    intro x2 h hf
    unfold g_Weaver_readBits_72 at hf
    refine mv_aload_n (pc := 72) B d_Weaver_readBits_72 rfl 0 rfl ?_
    refine mv_getR (pc := 73) (ci := 1) (C := R_Weaver) (T := F_Weaver) (N := 16) B 5 rfl rfl (by decide) i_Weaver (B.2.2.2.1 _ k_235) rfl hb.1.2.2.1 d_Weaver_readBits_73 ?_
    refine mv_lload_n (pc := 76) B d_Weaver_readBits_76 rfl 1 rfl ?_
    refine mvn_l2i (pc := 77) B d_Weaver_readBits_77 ?_
    refine mv_putI (pc := 78) (ci := 7) (C := R_Program) (T := F_Program) (N := 19) B 0 rfl rfl (by decide) i_Program t_Program_ok n_Program (B.2.2.2.1 _ k_313) rfl rfl rfl rfl d_Weaver_readBits_78 ?_
    refine mvn_hp (xwi_145_0 _ _ _) (xwi_f hf) (fun h1 hf => ?_)
    refine mv_goto (pc := 81) (tgt := 90) B d_Weaver_readBits_81 rfl ?_
    exact mv_vret (pc := 90) B hr d_Weaver_readBits_90 (Nat.le_refl _) (Nat.le_refl _) ⟨rfl, xret_v hf⟩
  unfold g_Weaver_readBits at hf
  refine mv_aload_n (pc := 0) B d_Weaver_readBits_0 rfl 0 rfl ?_
  refine mv_getR (pc := 1) (ci := 1) (C := R_Weaver) (T := F_Weaver) (N := 16) B 0 rfl rfl (by decide) i_Weaver (B.2.2.2.1 _ k_228) rfl (hb.1.1 2 0 _ rfl) d_Weaver_readBits_1 ?_
  refine mv_sipush (pc := 4) (v := nI 200) B d_Weaver_readBits_4 (by decide) ?_
  obtain ⟨v3, h2, eh2, hf⟩ := xeb_e hf
  refine mv_callVi (pc := 7) (n := 1) (ci := 2) (C := R_Tokens) B (mK_ok sk sv) hNs rfl rfl (cx_Tokens_take l hi _ hb _ _ eh2) rfl (ma_goodc kc_Tokens_take) (B.2.2.2.1 _ k_1266) (B.2.2.2.1 _ k_1267) (B.2.2.2.1 _ k_1268) (B.2.2.2.1 _ k_3) ⟨by decide +kernel, by decide +kernel, by decide +kernel⟩ rfl d_Weaver_readBits_7 rfl (Nat.le_of_ble_eq_true rfl) ⟨by decide, by decide⟩ ⟨by decide, by decide⟩ ⟨by decide, by decide⟩ (mv_noH hno _) (fun w7 σ7 h7 => ?_)
  obtain ⟨rfl, rfl⟩ := h7
  refine mv_pop (pc := 10) B d_Weaver_readBits_10 rfl ?_
  refine mv_aload_n (pc := 11) B d_Weaver_readBits_11 rfl 0 rfl ?_
  refine mv_getR (pc := 12) (ci := 1) (C := R_Weaver) (T := F_Weaver) (N := 16) B 0 rfl rfl (by decide) i_Weaver (B.2.2.2.1 _ k_228) rfl (hb.1.1 2 0 _ rfl) d_Weaver_readBits_12 ?_
  refine mv_iconst (pc := 15) (v := nI 4) B d_Weaver_readBits_15 (by decide) ?_
  obtain ⟨v5, h4, eh4, hf⟩ := xeb_e hf
  refine mv_callVi (pc := 16) (n := 1) (ci := 2) (C := R_Tokens) B (mK_ok sk sv) hNs rfl rfl (cx_Tokens_take l hi _ hb _ _ eh4) rfl (ma_goodc kc_Tokens_take) (B.2.2.2.1 _ k_1266) (B.2.2.2.1 _ k_1267) (B.2.2.2.1 _ k_1268) (B.2.2.2.1 _ k_3) ⟨by decide +kernel, by decide +kernel, by decide +kernel⟩ rfl d_Weaver_readBits_16 rfl (Nat.le_of_ble_eq_true rfl) ⟨by decide, by decide⟩ ⟨by decide, by decide⟩ ⟨by decide, by decide⟩ (mv_noH hno _) (fun w16 σ16 h16 => ?_)
  obtain ⟨rfl, rfl⟩ := h16
  refine mv_istore_n (pc := 19) B d_Weaver_readBits_19 rfl (by decide) rfl ?_
  refine mv_aload_n (pc := 20) B d_Weaver_readBits_20 rfl 1 rfl ?_
  refine mv_getR (pc := 21) (ci := 1) (C := R_Weaver) (T := F_Weaver) (N := 16) B 0 rfl rfl (by decide) i_Weaver (B.2.2.2.1 _ k_228) rfl (hb.1.1 2 0 _ rfl) d_Weaver_readBits_21 ?_
  refine mv_bipush (pc := 24) (v := nI 59) B d_Weaver_readBits_24 (by decide) ?_
  obtain ⟨v7, h6, eh6, hf⟩ := xeb_e hf
  refine mv_callVi (pc := 26) (n := 1) (ci := 2) (C := R_Tokens) B (mK_ok sk sv) hNs rfl rfl (cx_Tokens_take l hi _ hb _ _ eh6) rfl (ma_goodc kc_Tokens_take) (B.2.2.2.1 _ k_1266) (B.2.2.2.1 _ k_1267) (B.2.2.2.1 _ k_1268) (B.2.2.2.1 _ k_3) ⟨by decide +kernel, by decide +kernel, by decide +kernel⟩ rfl d_Weaver_readBits_26 rfl (Nat.le_of_ble_eq_true rfl) ⟨by decide, by decide⟩ ⟨by decide, by decide⟩ ⟨by decide, by decide⟩ (mv_noH hno _) (fun w26 σ26 h26 => ?_)
  obtain ⟨rfl, rfl⟩ := h26
  refine mv_pop (pc := 29) B d_Weaver_readBits_29 rfl ?_
  refine mv_aload_n (pc := 30) B d_Weaver_readBits_30 rfl 1 rfl ?_
  refine mv_getR (pc := 31) (ci := 1) (C := R_Weaver) (T := F_Weaver) (N := 16) B 0 rfl rfl (by decide) i_Weaver (B.2.2.2.1 _ k_228) rfl (hb.1.1 2 0 _ rfl) d_Weaver_readBits_31 ?_
  refine mv_getR (pc := 34) (ci := 2) (C := R_Tokens) (T := F_Tokens) (N := 10) B 2 rfl rfl (by decide) i_Tokens (B.2.2.2.1 _ k_94) rfl (hb.1.1 3 2 _ rfl) d_Weaver_readBits_34 ?_
  refine mv_iload_n (pc := 37) B d_Weaver_readBits_37 rfl 0 rfl ?_
  obtain ⟨q8, hf⟩ := xix_e hf
  refine mv_lald (pc := 38) B rfl (xin q8 (by decide)) d_Weaver_readBits_38 ?_
  obtain ⟨v9, ev9, hf⟩ := xer_e hf
  refine mvn_topl (xfb_6 q8 ev9) ?_
  refine mv_lstore_n (pc := 39) B d_Weaver_readBits_39 rfl (by decide) rfl ?_
  refine mv_lload_n (pc := 40) B d_Weaver_readBits_40 rfl 0 rfl ?_
  refine mv_ldc2 (pc := 41) (v := 8) B (B.2.2.2.1 _ k_1278) d_Weaver_readBits_41 ?_
  refine mvn_topl (n := 8) (by decide) ?_
  refine mvn_lcmp (pc := 44) B d_Weaver_readBits_44 ?_
  refine mv_if_eq (pc := 45) (tgt := 72) B d_Weaver_readBits_45 rfl (fun h45 => ?_) (fun h45 => ?_)
  · skip
    have hf := x_eq_t (y := 0) h45 hf
    refine mv_lpick [2, 0] rfl ?_
    exact jn72 _ _ hf
  · skip
    have hf := x_eq_f (y := 0) h45 hf
    refine mv_lload_n (pc := 48) B d_Weaver_readBits_48 rfl 0 rfl ?_
    refine mv_ldc2 (pc := 49) (v := 16) B (B.2.2.2.1 _ k_1279) d_Weaver_readBits_49 ?_
    refine mvn_topl (n := 16) (by decide) ?_
    refine mvn_lcmp (pc := 52) B d_Weaver_readBits_52 ?_
    refine mv_if_eq (pc := 53) (tgt := 72) B d_Weaver_readBits_53 rfl (fun h53 => ?_) (fun h53 => ?_)
    · skip
      have hf := x_eq_t (y := 0) h53 hf
      refine mv_lpick [2, 0] rfl ?_
      exact jn72 _ _ hf
    · skip
      have hf := x_eq_f (y := 0) h53 hf
      refine mv_lload_n (pc := 56) B d_Weaver_readBits_56 rfl 0 rfl ?_
      refine mv_ldc2 (pc := 57) (v := 32) B (B.2.2.2.1 _ k_1280) d_Weaver_readBits_57 ?_
      refine mvn_topl (n := 32) (by decide) ?_
      refine mvn_lcmp (pc := 60) B d_Weaver_readBits_60 ?_
      refine mv_if_eq (pc := 61) (tgt := 72) B d_Weaver_readBits_61 rfl (fun h61 => ?_) (fun h61 => ?_)
      · skip
        have hf := x_eq_t (y := 0) h61 hf
        refine mv_lpick [2, 0] rfl ?_
        exact jn72 _ _ hf
      · skip
        have hf := x_eq_f (y := 0) h61 hf
        refine mv_lload_n (pc := 64) B d_Weaver_readBits_64 rfl 0 rfl ?_
        refine mv_ldc2 (pc := 65) (v := 64) B (B.2.2.2.1 _ k_1281) d_Weaver_readBits_65 ?_
        refine mvn_topl (n := 64) (by decide) ?_
        refine mvn_lcmp (pc := 68) B d_Weaver_readBits_68 ?_
        refine mv_if_ne (pc := 69) (tgt := 84) B d_Weaver_readBits_69 rfl (fun h69 => ?_) (fun h69 => ?_)
        · skip
          have hf := x_eq_f (y := 0) h69 hf
          refine mv_aload_n (pc := 84) B d_Weaver_readBits_84 rfl 2 rfl ?_
          refine mv_iload_n (pc := 85) B d_Weaver_readBits_85 rfl 1 rfl ?_
          refine mv_iconst (pc := 86) (v := nI 3) B d_Weaver_readBits_86 (by decide) ?_
          obtain ⟨h10, eh10, hf⟩ := xev_e hf
          refine mv_callVv (pc := 87) (n := 2) (ci := 1) (C := R_Weaver) B (mK_ok sk sv) hNs rfl rfl (cx_Weaver_tell l hi _ hb _ _ _ eh10) rfl (ma_goodc kc_Weaver_tell) (B.2.2.2.1 _ k_1282) (B.2.2.2.1 _ k_1284) (B.2.2.2.1 _ ks_32) (B.2.2.2.1 _ k_2) ⟨by decide +kernel, by decide +kernel, by decide +kernel⟩ rfl d_Weaver_readBits_87 rfl (Nat.le_of_ble_eq_true rfl) ⟨by decide, by decide⟩ ⟨by decide, by decide⟩ ⟨by decide, by decide⟩ (mv_noH hno _) (fun σ87 h87 => ?_)
          subst h87
          exact mv_vret (pc := 90) B hr d_Weaver_readBits_90 (Nat.le_refl _) (Nat.le_refl _) ⟨rfl, xret_v hf⟩
        · skip
          have hf := x_eq_t (y := 0) h69 hf
          refine mv_lpick [2, 0] rfl ?_
          exact jn72 _ _ hf
def gF_Weaver_areApart_15 (k2 : Nat → xE → Option (Nat × xE)) (k15 : Nat → Nat → xE → Option (Nat × xE)) (x1 : Nat) (x2 : Nat) (h : xE) : Option (Nat × xE) := xfz x1 fun x1 => xfz x2 fun x2 => bif xlt x2 x1 then (xeb (g_Program_apart h x2 x1) fun v2 h1 => bif xeq v2 0 then (xev (g_Faults_tell h1 x1 7) fun h3 => xwi h3 0 x2 fun h4 => bif Nat.blt 0 2 then some (0, h4) else none) else (k15 x1 (xadd x2 1) h1)) else (k2 (xadd x1 1) h)
def g_Weaver_areApart_15 (k2 : Nat → xE → Option (Nat × xE)) : Nat → Nat → Nat → xE → Option (Nat × xE)
  | 0 => fun _ _ _ => none
  | nn + 1 => gF_Weaver_areApart_15 k2 (g_Weaver_areApart_15 k2 nn)
def gF_Weaver_areApart_2 (k2 : Nat → xE → Option (Nat × xE)) (x1 : Nat) (h : xE) : Option (Nat × xE) := xfz x1 fun x1 => xer (ep_g h.1 26) fun v6 => bif xlt x1 v6 then (g_Weaver_areApart_15 k2 200000 x1 0 h) else (bif Nat.blt 1 2 then some (1, h) else none)
def g_Weaver_areApart_2 : Nat → Nat → xE → Option (Nat × xE)
  | 0 => fun _ _ => none
  | nn + 1 => gF_Weaver_areApart_2 (g_Weaver_areApart_2 nn)
def g_Weaver_areApart (h : xE) : Option (Nat × xE) := g_Weaver_areApart_2 200000 1 h
set_option maxHeartbeats 4000000 in
set_option maxRecDepth 100000 in
theorem cx_Weaver_areApart (l : Launch) {dA : FieldType → ClassId} {D : va_G} {al : Nat → Nat} {sk sv : Nat → Nat} (hi : mv_inj (mg dA D al me)) (b : mv_H) (hb : xR (mv_r b)) (h : xE) {rv : Nat} {rg : xE} (hf : g_Weaver_areApart h = some (rv, rg)) : mv_C l y_Weaver_areApart (Cond.code y_Weaver_areApart b_Weaver_areApart 3 (Option.some Jvm.ClassFile.FieldType.boolean) :: ma) ({ frames := 1, cells := 0, slots := 0, locals := 22 }) (mg dA D al me) (mK sk sv) [.ref (al 2)] (ab b h) (mv_Ri (fun v σ1 => v = nI rv ∧ σ1 = ab b rg)) := by
  refine mv_C.ofV (cc := b_Weaver_areApart) (nL := 3) (ret := (Option.some Jvm.ClassFile.FieldType.boolean)) (by decide +kernel) rfl hi (Nat.le_of_ble_eq_true rfl) ?_
  intro p e s m below meth c B hNs hr hnm hno
  have lp2 : ∀ (nn2 : Nat) (x1 : Nat) (h : xE), g_Weaver_areApart_2 nn2 x1 h = some (rv, rg) → mv_V p l e ({ frames := 1, cells := 0, slots := 0, locals := 22 }) s m ([.ref (al 2)] : List Value).toArray below meth c (mg dA D al me) 3 0 0 (mv_Q (mg dA D al me) below s 0 0 (mv_Ri (fun v σ1 => v = nI rv ∧ σ1 = ab b rg))) (ab b h) 2 [(0, .ref (al 2)), (1, .int (nI x1))] [] := by
    intro nn2
    induction nn2 with
    | zero => intro x1 h hf; cases hf
    | succ nn2 ih2 =>
      intro x1 h hf
      have lp15 : ∀ (nn15 : Nat) (x1 : Nat) (x2 : Nat) (h : xE), g_Weaver_areApart_15 (g_Weaver_areApart_2 nn2) nn15 x1 x2 h = some (rv, rg) → mv_V p l e ({ frames := 1, cells := 0, slots := 0, locals := 22 }) s m ([.ref (al 2)] : List Value).toArray below meth c (mg dA D al me) 3 0 0 (mv_Q (mg dA D al me) below s 0 0 (mv_Ri (fun v σ1 => v = nI rv ∧ σ1 = ab b rg))) (ab b h) 15 [(0, .ref (al 2)), (1, .int (nI x1)), (2, .int (nI x2))] [] := by
        intro nn15
        induction nn15 with
        | zero => intro x1 x2 h hf; cases hf
        | succ nn15 ih15 =>
          intro x1 x2 h hf
          have hf : gF_Weaver_areApart_15 (g_Weaver_areApart_2 nn2) (g_Weaver_areApart_15 (g_Weaver_areApart_2 nn2) nn15) x1 x2 h = some (rv, rg) := hf
          unfold gF_Weaver_areApart_15 at hf
          have hf := (xfz_e _ _).symm.trans hf
          have hf := (xfz_e _ _).symm.trans hf
          refine mv_iload_n (pc := 15) B d_Weaver_areApart_15 rfl 2 rfl ?_
          refine mv_iload_n (pc := 16) B d_Weaver_areApart_16 rfl 1 rfl ?_
          refine mv_icmp_ge (pc := 17) (tgt := 55) B d_Weaver_areApart_17 rfl (fun h17 => ?_) (fun h17 => ?_)
          · skip
            have hf := x_le_t h17 hf
            refine mvn_iinc (pc := 55) (j := 1) (v := 1) B d_Weaver_areApart_55 rfl (by decide) (by decide) rfl ?_
            refine mv_goto (pc := 58) (tgt := 2) B d_Weaver_areApart_58 rfl ?_
            refine mv_lpick [1, 0] rfl ?_
            exact ih2 _ _ hf
          · skip
            have hf := x_le_f h17 hf
            refine mv_aload_n (pc := 20) B d_Weaver_areApart_20 rfl 0 rfl ?_
            refine mv_getR (pc := 21) (ci := 1) (C := R_Weaver) (T := F_Weaver) (N := 16) B 5 rfl rfl (by decide) i_Weaver (B.2.2.2.1 _ k_235) rfl hb.1.2.2.1 d_Weaver_areApart_21 ?_
            refine mv_iload_n (pc := 24) B d_Weaver_areApart_24 rfl 2 rfl ?_
            refine mv_iload_n (pc := 25) B d_Weaver_areApart_25 rfl 1 rfl ?_
            obtain ⟨v2, h1, eh1, hf⟩ := xeb_e hf
            refine mv_callVi (pc := 26) (n := 2) (ci := 7) (C := R_Program) B (mK_ok sk sv) hNs rfl rfl (cx_Program_apart l hi _ hb _ _ _ eh1) rfl (ma_goodc kc_Program_apart) (B.2.2.2.1 _ k_1544) (B.2.2.2.1 _ k_1545) (B.2.2.2.1 _ k_1546) (B.2.2.2.1 _ k_8) ⟨by decide +kernel, by decide +kernel, by decide +kernel⟩ rfl d_Weaver_areApart_26 rfl (Nat.le_of_ble_eq_true rfl) ⟨by decide, by decide⟩ ⟨by decide, by decide⟩ ⟨by decide, by decide⟩ (mv_noH hno _) (fun w26 σ26 h26 => ?_)
            obtain ⟨rfl, rfl⟩ := h26
            refine mv_if_ne (pc := 29) (tgt := 49) B d_Weaver_areApart_29 rfl (fun h29 => ?_) (fun h29 => ?_)
            · skip
              have hf := x_eq_f (y := 0) h29 hf
              refine mvn_iinc (pc := 49) (j := 2) (v := 1) B d_Weaver_areApart_49 rfl (by decide) (by decide) rfl ?_
              refine mv_goto (pc := 52) (tgt := 15) B d_Weaver_areApart_52 rfl ?_
              refine mv_lpick [1, 2, 0] rfl ?_
              exact ih15 _ _ _ hf
            · skip
              have hf := x_eq_t (y := 0) h29 hf
              refine mv_aload_n (pc := 32) B d_Weaver_areApart_32 rfl 0 rfl ?_
              refine mv_getR (pc := 33) (ci := 1) (C := R_Weaver) (T := F_Weaver) (N := 16) B 2 rfl rfl (by decide) i_Weaver (B.2.2.2.1 _ k_230) rfl (hb.1.1 2 2 _ rfl) d_Weaver_areApart_33 ?_
              refine mv_iload_n (pc := 36) B d_Weaver_areApart_36 rfl 1 rfl ?_
              refine mv_bipush (pc := 37) (v := nI 7) B d_Weaver_areApart_37 (by decide) ?_
              obtain ⟨h3, eh3, hf⟩ := xev_e hf
              refine mv_callVv (pc := 39) (n := 2) (ci := 5) (C := R_Faults) B (mK_ok sk sv) hNs rfl rfl (cx_Faults_tell l hi _ _ _ _ eh3) rfl (ma_goodc kc_Faults_tell) (B.2.2.2.1 _ k_1286) (B.2.2.2.1 _ k_1287) (B.2.2.2.1 _ k_1288) (B.2.2.2.1 _ k_6) ⟨by decide +kernel, by decide +kernel, by decide +kernel⟩ rfl d_Weaver_areApart_39 rfl (Nat.le_of_ble_eq_true rfl) ⟨by decide, by decide⟩ ⟨by decide, by decide⟩ ⟨by decide, by decide⟩ (mv_noH hno _) (fun σ39 h39 => ?_)
              subst h39
              refine mv_aload_n (pc := 42) B d_Weaver_areApart_42 rfl 0 rfl ?_
              refine mv_iload_n (pc := 43) B d_Weaver_areApart_43 rfl 2 rfl ?_
              refine mv_putI (pc := 44) (ci := 1) (C := R_Weaver) (T := F_Weaver) (N := 16) B 4 rfl rfl (by decide) i_Weaver t_Weaver_ok n_Weaver (B.2.2.2.1 _ k_233) rfl rfl rfl rfl d_Weaver_areApart_44 ?_
              refine mvn_hp (xwi_2_4 _ _ _) (xwi_f hf) (fun h4 hf => ?_)
              refine mv_iconst (pc := 47) (v := nI 0) B d_Weaver_areApart_47 (by decide) ?_
              obtain ⟨q5, hf⟩ := xix_e hf
              exact mv_iret (pc := 48) B hr (xz1 q5) d_Weaver_areApart_48 (Nat.le_refl _) (Nat.le_refl _) ⟨_, rfl, xret_i hf⟩
      have hf : gF_Weaver_areApart_2 (g_Weaver_areApart_2 nn2) x1 h = some (rv, rg) := hf
      unfold gF_Weaver_areApart_2 at hf
      have hf := (xfz_e _ _).symm.trans hf
      refine mv_iload_n (pc := 2) B d_Weaver_areApart_2 rfl 1 rfl ?_
      refine mv_aload_n (pc := 3) B d_Weaver_areApart_3 rfl 0 rfl ?_
      refine mv_getR (pc := 4) (ci := 1) (C := R_Weaver) (T := F_Weaver) (N := 16) B 5 rfl rfl (by decide) i_Weaver (B.2.2.2.1 _ k_235) rfl hb.1.2.2.1 d_Weaver_areApart_4 ?_
      refine mv_getI (pc := 7) (ci := 7) (C := R_Program) (T := F_Program) (N := 19) B 10 rfl rfl (by decide) i_Program (B.2.2.2.1 _ k_347) rfl d_Weaver_areApart_7 ?_
      obtain ⟨v6, ev6, hf⟩ := xer_e hf
      refine mvn_top (xfi_145_10 ev6) ?_
      refine mv_icmp_ge (pc := 10) (tgt := 61) B d_Weaver_areApart_10 rfl (fun h10 => ?_) (fun h10 => ?_)
      · skip
        have hf := x_le_t h10 hf
        refine mv_iconst (pc := 61) (v := nI 1) B d_Weaver_areApart_61 (by decide) ?_
        obtain ⟨q7, hf⟩ := xix_e hf
        exact mv_iret (pc := 62) B hr (xz1 q7) d_Weaver_areApart_62 (Nat.le_refl _) (Nat.le_refl _) ⟨_, rfl, xret_i hf⟩
      · skip
        have hf := x_le_f h10 hf
        refine mv_iconst (pc := 13) (v := nI 0) B d_Weaver_areApart_13 (by decide) ?_
        refine mv_istore_n (pc := 14) B d_Weaver_areApart_14 rfl (by decide) rfl ?_
        refine mv_lpick [1, 2, 0] rfl ?_
        exact lp15 _ _ _ _ hf
  unfold g_Weaver_areApart at hf
  refine mv_iconst (pc := 0) (v := nI 1) B d_Weaver_areApart_0 (by decide) ?_
  refine mv_istore_n (pc := 1) B d_Weaver_areApart_1 rfl (by decide) rfl ?_
  refine mv_lpick [1, 0] rfl ?_
  exact lp2 _ _ _ hf
theorem xR_b2 {b : mv_H} (h : mh (mv_r b) ∧ Ph 145 (mv_r b)) : Rw 145 (mv_r (mv_sr (mv_sr b 2 5 (some 145)) 22 3 (some 145))) :=
  ⟨mh_sr (mh_sr h.1 rfl) rfl, Ph_sr (by unfold PQ; omega) (Ph_sr (by unfold PQ; omega) h.2 (by omega)) (by omega), rfl, rfl⟩
theorem fg_ext {σ τ : mv_H} {k : Int32} (f : Fr (fun o k => o = 13 ∧ k = 7) (fun o => o = 14) (fun _ => False) σ τ) (e : mv_i τ 13 7 = k) : τ = mv_si (mv_ca σ 14 (mv_a τ 14)) 13 7 k := by
  obtain ⟨f1, f2, f3, f4, f5⟩ := f
  refine Prod.ext ?_ (Prod.ext f4 (Prod.ext f5 (Prod.ext ?_ ?_)))
  · funext o k'
    show mv_i τ o k' = if o = 13 ∧ k' = 7 then k else mv_i σ o k'
    by_cases h : o = 13 ∧ k' = 7
    · rw [if_pos h, h.1, h.2]; exact e
    · rw [if_neg h]; exact f1 o k' h
  · funext o
    show mv_a τ o = if o = 14 then mv_a τ 14 else mv_a σ o
    by_cases h : o = 14
    · rw [if_pos h, h]
    · rw [if_neg h]; exact f2 o h
  · funext o
    exact f3 o (fun q => q)
set_option maxHeartbeats 4000000 in
set_option maxRecDepth 100000 in
theorem c_Names_leaveOpX (l : Launch) {dA : FieldType → ClassId} {D : va_G} {al : Nat → Nat} {ext : mv_Sh} {sk sv : Nat → Nat} (hi : mv_inj (mg dA D al ext)) (σ : mv_H) (hsh : mh (mv_r σ)) (hNs9 : Ns σ) : mv_C l y_Names_leaveOp (Cond.code y_Names_leaveOp b_Names_leaveOp 1 (Option.none : Option Jvm.ClassFile.FieldType) :: ma) ({ frames := 1, cells := 0, slots := 0, locals := 24 }) (mg dA D al ext) (mK sk sv) [.ref (al 13)] σ (mv_Rv (fun σ1 => ∃ f : Nat → Int32, (∀ j, f j = mv_a σ 14 j ∨ f j = 0) ∧ σ1 = mv_si (mv_si (mv_ca (mv_fl (mv_fi σ 17 0 128 0) 18 0 128 0) 14 f) 13 7 0) 13 9 0)) := by
  refine mv_C.ofV (cc := b_Names_leaveOp) (nL := 1) (ret := (Option.none : Option Jvm.ClassFile.FieldType)) (by decide +kernel) rfl hi (Nat.le_of_ble_eq_true rfl) ?_
  intro p e s m below meth c B hNs hr hnm hno
  refine mv_aload_n (pc := 0) B d_Names_leaveOp_0 rfl 0 rfl ?_
  refine mv_getR (pc := 1) (ci := 4) (C := R_Names) (T := F_Names) (N := 10) B 4 rfl rfl (by decide) i_Names (B.2.2.2.1 _ k_141) rfl (hsh _ 4 _ rfl) d_Names_leaveOp_1 ?_
  refine mv_iconst (pc := 4) (v := 0) B d_Names_leaveOp_4 (by decide) ?_
  refine mv_callSv (pc := 5) (n := 2) B (mK_ok sk sv) hNs (c_Arrays_fill_0 l hi _ 17 128 rfl (by decide) _) rfl (ma_goodc kc_Arrays_fill_0) (B.2.2.2.1 _ k_1254) (B.2.2.2.1 _ k_798) (B.2.2.2.1 _ k_20) ⟨by decide +kernel, by decide +kernel, by decide +kernel⟩ rfl d_Names_leaveOp_5 rfl (Nat.le_of_ble_eq_true rfl) ⟨by decide, by decide⟩ ⟨by decide, by decide⟩ ⟨by decide, by decide⟩ (mv_noH hno _) (fun σ5 h5 => ?_)
  subst h5
  refine mv_aload_n (pc := 8) B d_Names_leaveOp_8 rfl 0 rfl ?_
  refine mv_getR (pc := 9) (ci := 4) (C := R_Names) (T := F_Names) (N := 10) B 5 rfl rfl (by decide) i_Names (B.2.2.2.1 _ k_142) rfl (hsh _ 5 _ rfl) d_Names_leaveOp_9 ?_
  refine mv_lconst (pc := 12) (v := 0) B d_Names_leaveOp_12 (by decide) ?_
  refine mv_callSv (pc := 13) (n := 2) B (mK_ok sk sv) hNs (c_Arrays_fill_3 l hi _ 18 128 rfl (by decide) _) rfl (ma_goodc kc_Arrays_fill_3) (B.2.2.2.1 _ k_1255) (B.2.2.2.1 _ k_1256) (B.2.2.2.1 _ k_20) ⟨by decide +kernel, by decide +kernel, by decide +kernel⟩ rfl d_Names_leaveOp_13 rfl (Nat.le_of_ble_eq_true rfl) ⟨by decide, by decide⟩ ⟨by decide, by decide⟩ ⟨by decide, by decide⟩ (mv_noH hno _) (fun σ13 h13 => ?_)
  subst h13
  refine mv_aload_n (pc := 16) B d_Names_leaveOp_16 rfl 0 rfl ?_
  refine mv_iconst (pc := 17) (v := 0) B d_Names_leaveOp_17 (by decide) ?_
  refine mv_callVv (pc := 18) (n := 1) (ci := 4) (C := R_Names) B (mK_ok sk sv) hNs rfl rfl (c_Names_forget l hi _ _ hsh hNs9 (by decide)) rfl (ma_goodc kc_Names_forget) (B.2.2.2.1 _ k_1258) (B.2.2.2.1 _ k_1259) (B.2.2.2.1 _ k_1260) (B.2.2.2.1 _ k_5) ⟨by decide +kernel, by decide +kernel, by decide +kernel⟩ rfl d_Names_leaveOp_18 rfl (Nat.le_of_ble_eq_true rfl) ⟨by decide, by decide⟩ ⟨by decide, by decide⟩ ⟨by decide, by decide⟩ (mv_noH hno _) (fun σ18 h18 => ?_)
  obtain ⟨f18, n18, i18⟩ := h18
  have e18 := fg_ext f18 i18
  refine mv_aload_n (pc := 21) B d_Names_leaveOp_21 rfl 0 rfl ?_
  refine mv_iconst (pc := 22) (v := 0) B d_Names_leaveOp_22 (by decide) ?_
  refine mv_putI (pc := 23) (ci := 4) (C := R_Names) (T := F_Names) (N := 10) B 9 rfl rfl (by decide) i_Names t_Names_ok n_Names (B.2.2.2.1 _ k_148) rfl rfl rfl rfl d_Names_leaveOp_23 ?_
  exact mv_vret (pc := 26) B hr d_Names_leaveOp_26 (Nat.le_refl _) (Nat.le_refl _) ⟨rfl, mv_a σ18 14, fun j => n18 j, congrArg (fun q => mv_si q 13 9 0) e18⟩
set_option maxHeartbeats 4000000 in
set_option maxRecDepth 100000 in
theorem c_Names_clearX (l : Launch) {dA : FieldType → ClassId} {D : va_G} {al : Nat → Nat} {ext : mv_Sh} {sk sv : Nat → Nat} (hi : mv_inj (mg dA D al ext)) (σ : mv_H) (hsh : mh (mv_r σ)) (g0 : 0 ≤ (mv_i σ 7 5).toInt) (g1 : (mv_i σ 7 5).toInt ≤ 16448) (hNs9 : Ns σ) : mv_C l y_Names_clear (Cond.code y_Names_clear b_Names_clear 1 (Option.none : Option Jvm.ClassFile.FieldType) :: ma) ({ frames := 2, cells := 0, slots := 0, locals := 46 }) (mg dA D al ext) (mK sk sv) [.ref (al 13)] σ (mv_Rv (fun σ1 => ∃ f : Nat → Int32, (∀ j, f j = mv_a (mv_fi σ 14 (0 : Int32).toNatClampNeg (mv_i σ 7 5).toNatClampNeg 0) 14 j ∨ f j = 0) ∧ σ1 = mv_si (mv_si (mv_ca (mv_fl (mv_fi (mv_fi (mv_fi σ 14 (0 : Int32).toNatClampNeg (mv_i σ 7 5).toNatClampNeg 0) 16 (0 : Int32).toNatClampNeg (mv_i σ 7 5).toNatClampNeg (vp_nar .byte 0)) 17 0 128 0) 18 0 128 0) 14 f) 13 7 0) 13 9 0)) := by
  refine mv_C.ofV (cc := b_Names_clear) (nL := 1) (ret := (Option.none : Option Jvm.ClassFile.FieldType)) (by decide +kernel) rfl hi (Nat.le_of_ble_eq_true rfl) ?_
  intro p e s m below meth c B hNs hr hnm hno
  refine mv_aload_n (pc := 0) B d_Names_clear_0 rfl 0 rfl ?_
  refine mv_getR (pc := 1) (ci := 4) (C := R_Names) (T := F_Names) (N := 10) B 1 rfl rfl (by decide) i_Names (B.2.2.2.1 _ k_135) rfl (hsh _ 1 _ rfl) d_Names_clear_1 ?_
  refine mv_iconst (pc := 4) (v := 0) B d_Names_clear_4 (by decide) ?_
  refine mv_aload_n (pc := 5) B d_Names_clear_5 rfl 0 rfl ?_
  refine mv_getR (pc := 6) (ci := 4) (C := R_Names) (T := F_Names) (N := 10) B 0 rfl rfl (by decide) i_Names (B.2.2.2.1 _ k_134) rfl (hsh _ 0 _ rfl) d_Names_clear_6 ?_
  refine mv_getI (pc := 9) (ci := 3) (C := R_Symbols) (T := F_Symbols) (N := 6) B 5 rfl rfl (by decide) i_Symbols (B.2.2.2.1 _ k_71) rfl d_Names_clear_9 ?_
  refine mv_iconst (pc := 12) (v := 0) B d_Names_clear_12 (by decide) ?_
  refine mv_callSv (pc := 13) (n := 4) B (mK_ok sk sv) hNs (c_Arrays_fill_1 l hi _ 14 16448 rfl (by decide) _ _ _ (by decide) (by exact g0) (by exact g1)) rfl (ma_goodc kc_Arrays_fill_1) (B.2.2.2.1 _ k_948) (B.2.2.2.1 _ k_949) (B.2.2.2.1 _ k_20) ⟨by decide +kernel, by decide +kernel, by decide +kernel⟩ rfl d_Names_clear_13 rfl (Nat.le_of_ble_eq_true rfl) ⟨by decide, by decide⟩ ⟨by decide, by decide⟩ ⟨by decide, by decide⟩ (mv_noH hno _) (fun σ13 h13 => ?_)
  subst h13
  refine mv_aload_n (pc := 16) B d_Names_clear_16 rfl 0 rfl ?_
  refine mv_getR (pc := 17) (ci := 4) (C := R_Names) (T := F_Names) (N := 10) B 3 rfl rfl (by decide) i_Names (B.2.2.2.1 _ k_139) rfl (hsh _ 3 _ rfl) d_Names_clear_17 ?_
  refine mv_iconst (pc := 20) (v := 0) B d_Names_clear_20 (by decide) ?_
  refine mv_aload_n (pc := 21) B d_Names_clear_21 rfl 0 rfl ?_
  refine mv_getR (pc := 22) (ci := 4) (C := R_Names) (T := F_Names) (N := 10) B 0 rfl rfl (by decide) i_Names (B.2.2.2.1 _ k_134) rfl (hsh _ 0 _ rfl) d_Names_clear_22 ?_
  refine mv_getI (pc := 25) (ci := 3) (C := R_Symbols) (T := F_Symbols) (N := 6) B 5 rfl rfl (by decide) i_Symbols (B.2.2.2.1 _ k_71) rfl d_Names_clear_25 ?_
  refine mv_iconst (pc := 28) (v := 0) B d_Names_clear_28 (by decide) ?_
  refine mv_callSv (pc := 29) (n := 4) B (mK_ok sk sv) hNs (c_Arrays_fill_2 l hi _ 16 16448 rfl (by decide) _ _ _ (by decide) (by exact g0) (by exact g1)) rfl (ma_goodc kc_Arrays_fill_2) (B.2.2.2.1 _ k_1247) (B.2.2.2.1 _ k_1248) (B.2.2.2.1 _ k_20) ⟨by decide +kernel, by decide +kernel, by decide +kernel⟩ rfl d_Names_clear_29 rfl (Nat.le_of_ble_eq_true rfl) ⟨by decide, by decide⟩ ⟨by decide, by decide⟩ ⟨by decide, by decide⟩ (mv_noH hno _) (fun σ29 h29 => ?_)
  subst h29
  refine mv_aload_n (pc := 32) B d_Names_clear_32 rfl 0 rfl ?_
  refine mv_callVv (pc := 33) (n := 0) (ci := 4) (C := R_Names) B (mK_ok sk sv) hNs rfl rfl (c_Names_leaveOpX l hi _ hsh hNs9) rfl (ma_goodc kc_Names_leaveOp) (B.2.2.2.1 _ k_1250) (B.2.2.2.1 _ k_1251) (B.2.2.2.1 _ k_1252) (B.2.2.2.1 _ k_5) ⟨by decide +kernel, by decide +kernel, by decide +kernel⟩ rfl d_Names_clear_33 rfl (Nat.le_of_ble_eq_true rfl) ⟨by decide, by decide⟩ ⟨by decide, by decide⟩ ⟨by decide, by decide⟩ (mv_noH hno _) (fun σ33 h33 => ?_)
  obtain ⟨f, hf1, hf2⟩ := h33
  exact mv_vret (pc := 36) B hr d_Names_clear_36 (Nat.le_refl _) (Nat.le_refl _) ⟨rfl, f, fun j => hf1 j, hf2⟩
theorem xbq_e {α : Type} {x : Nat} {A : Option α} {r : α} (h : (bif Nat.beq x 0 then A else none) = some r) : x = 0 ∧ A = some r := by
  cases e : Nat.beq x 0
  · rw [e] at h; cases h
  · rw [e] at h; exact ⟨Nat.eq_of_beq_eq_true e, h⟩
def g_Names_clearZ (h : xE) : Option xE := xer (ep_g h.1 12) fun n => bif Nat.blt n 16449 then bif Nat.beq (ep_g h.1 13) 0 then bif Nat.beq (xL_19 h.2) 0 then bif Nat.beq (xL_14 h.2) 0 then xwN xS_14 h (xfill n (xL_14 h.2) 0 0) fun h => xwN xS_16 h (xfill n (xL_16 h.2) 0 (xi2b 0)) fun h => xwN xS_17 h (xfill 128 (xL_17 h.2) 0 0) fun h => xwN xS_18 h (xfill 128 (xL_18 h.2) 0 0) fun h => xwi h 13 0 fun h => xwi h 14 0 fun h => some h else none else none else none else none
theorem ep_0 (k : Nat) : ep_g 0 k = 0 := by unfold ep_g; rw [Nat.zero_shiftRight]
theorem ab_junk (b : mv_H) (h : xE) {f : Nat → Int32} (hf : ∀ j, f j = xd (ep_g (xg6 h.2 7) j) (f j)) : mv_ca (ab b h) 14 f = ab (mv_ca b 14 f) h := by
  refine Prod.ext rfl (Prod.ext rfl (Prod.ext rfl (Prod.ext ?_ rfl)))
  funext o' k'
  show (if o' = 14 then f else fun k => if o' ∈ xA then xd (ep_g (xg6 h.2 (xA.idxOf o')) k) (mv_a b o' k) else mv_a b o' k) k' = if o' ∈ xA then xd (ep_g (xg6 h.2 (xA.idxOf o')) k') ((if o' = 14 then f else mv_a b o') k') else (if o' = 14 then f else mv_a b o') k'
  by_cases e : o' = 14
  · subst e
    rw [if_pos rfl, if_pos (by decide), if_pos rfl]
    exact hf k'
  · rw [if_neg e, if_neg e]
theorem cx_Names_clearZ (l : Launch) {dA : FieldType → ClassId} {D : va_G} {al : Nat → Nat} {sk sv : Nat → Nat} (hi : mv_inj (mg dA D al me)) (b : mv_H) (hb : xR (mv_r b)) (h : xE) (hN : Ns b) {rg : xE} (hf : g_Names_clearZ h = some rg) : mv_C l y_Names_clear (Cond.code y_Names_clear b_Names_clear 1 (Option.none : Option Jvm.ClassFile.FieldType) :: ma) ({ frames := 2, cells := 0, slots := 0, locals := 46 }) (mg dA D al me) (mK sk sv) [.ref (al 13)] (ab b h) (mv_Rv (fun σ1 => ∃ b2, mv_r b2 = mv_r b ∧ σ1 = ab b2 rg)) := by
  unfold g_Names_clearZ at hf
  obtain ⟨n, en, hf⟩ := xer_e hf
  obtain ⟨q, hf⟩ := xix_e hf
  obtain ⟨z1, hf⟩ := xbq_e hf
  obtain ⟨z2, hf⟩ := xbq_e hf
  obtain ⟨z3, hf⟩ := xbq_e hf
  have hf := xwN_f xSe_14 hf
  have hf := xwN_f xSe_16 hf
  have hf := xwN_f xSe_17 hf
  have hf := xwN_f xSe_18 hf
  have hf := xwi_f hf
  have hf := xwi_f hf
  have eg := Option.some.inj hf
  have e5 : mv_i (ab b h) 7 5 = nI n := xfi_7_5 en
  have en2 : (nI n).toInt = n := nI_toInt (by omega)
  have r1 : mv_i (ab b h) 13 7 = mv_i b 13 7 := by
    show (if ((13, 7) : Nat × Nat) ∈ xfl then xd (ep_g h.1 (xfl.idxOf (13, 7))) (mv_i b 13 7) else mv_i b 13 7) = _
    rw [if_pos (by decide), show xfl.idxOf ((13, 7) : Nat × Nat) = 13 by decide, z1]
    rfl
  have r2 : mv_a (ab b h) 19 = mv_a b 19 := by
    funext k
    show (if (19 : Nat) ∈ xA then xd (ep_g (xg6 h.2 (xA.idxOf 19)) k) (mv_a b 19 k) else mv_a b 19 k) = _
    have z2' : xg6 h.2 11 = 0 := z2
    rw [if_pos (by decide), show xA.idxOf 19 = 11 by decide, z2', ep_0]
    rfl
  have hN2 : Ns (ab b h) := by
    unfold Ns
    rw [r1, r2]
    exact hN
  refine (c_Names_clearX l hi (ab b h) hb.1.1 (by rw [e5]; omega) (by rw [e5]; omega) hN2).imp (fun r τ q9 => ?_)
  obtain ⟨e1, f, h1, h2⟩ := q9
  refine ⟨e1, mv_ca b 14 f, rfl, ?_⟩
  rw [h2, e5]
  rw [e5] at h1
  have E1 : mv_fi (ab b h) 14 (0 : Int32).toNatClampNeg (nI n).toNatClampNeg 0 = ab b (h.1, xs6 h.2 7 (xfill n (xL_14 h.2) 0 0)) := xfg_14 b h n 0 q
  rw [E1] at h1 ⊢
  have E2 : ∀ g : xE, mv_fi (ab b g) 16 (0 : Int32).toNatClampNeg (nI n).toNatClampNeg (vp_nar .byte 0) = ab b (g.1, xs6 g.2 9 (xfill n (xL_16 g.2) 0 (xi2b 0))) := fun g => xfg_16 b g n (xi2b 0) q
  rw [E2]
  have E3 : ∀ g : xE, mv_fi (ab b g) 17 0 128 0 = ab b (g.1, xs6 g.2 10 (xfill 128 (xL_17 g.2) 0 0)) := fun g => xff_17 b g 0
  rw [E3]
  have E4 : ∀ g : xE, mv_fl (ab b g) 18 0 128 0 = ab b (g.1, xs6 g.2 49 (xfill 128 (xL_18 g.2) 0 0)) := fun g => xff_18 b g 0
  rw [E4]
  have z3' : xL_14 h.2 = 0 := z3
  have lf : ∀ (t : x6) (j N : Nat), j < 64 → ¬ 7 = j → xg6 (xs6 t j N) 7 = xg6 t 7 := fun t j N hj hne => by rw [xok6 _ _ _ _ hj (by decide), if_neg hne]
  have l0 : ∀ (t : x6) (N : Nat), xg6 (xs6 t 7 N) 7 = N := fun t N => by rw [xok6 _ _ _ _ (by decide) (by decide), if_pos rfl]
  rw [ab_junk]
  · have W7 : ∀ (b2 : mv_H) (g : xE), mv_si (ab b2 g) 13 7 0 = ab b2 (ep_s g.1 13 0, g.2) := fun b2 g => xwi_13_7 b2 g 0
    have W9 : ∀ (b2 : mv_H) (g : xE), mv_si (ab b2 g) 13 9 0 = ab b2 (ep_s g.1 14 0, g.2) := fun b2 g => xwi_13_9 b2 g 0
    rw [W7, W9, ← eg]
  · intro j
    show f j = xd (ep_g (xg6 (xs6 (xs6 (xs6 (xs6 h.2 7 _) 9 _) 10 _) 49 _) 7) j) (f j)
    rw [lf _ _ _ (by decide) (by decide), lf _ _ _ (by decide) (by decide), lf _ _ _ (by decide) (by decide), l0, xfill_g, z3', ep_0]
    by_cases hj : 0 ≤ j ∧ j < 0 + n
    · rw [if_pos hj]
      have h3 := h1 j
      have h4 : mv_a (ab b (h.1, xs6 h.2 7 (xfill n (xL_14 h.2) 0 0))) 14 j = nI 0 := ab_a (j := 7) (by decide) (by decide) (by show ep_g (xg6 (xs6 h.2 7 (xfill n (xL_14 h.2) 0 0)) 7) j = _; rw [l0, xfill_g, if_pos hj])
      rw [h4] at h3
      have h5 : f j = nI 0 := h3.elim (fun e => e) (fun e => e)
      exact h5
    · rw [if_neg hj]
      rfl
theorem xret_w {b4 b3 : mv_H} {t v : Nat} {h g : xE} (hr : mv_r b4 = mv_r b3) (hf : some (t, h) = some (v, g)) : nI t = nI v ∧ ∃ b2, mv_r b2 = mv_r b3 ∧ ab b4 h = ab b2 g := by cases hf; exact ⟨rfl, b4, hr, rfl⟩
def g_Weaver_weave_200 (h : xE) : Option (Nat × xE) := bif Nat.blt 0 2 then some (0, h) else none
def g_Weaver_weave_183 (h : xE) : Option (Nat × xE) := xer (ep_g h.1 15) fun v2 => bif xeq v2 0 then (xeb (g_Weaver_areApart h) fun v4 h3 => bif xeq v4 0 then (g_Weaver_weave_200  h3) else (xev (g_Tree_grow h3) fun h5 => bif Nat.blt 1 2 then some (1, h5) else none)) else (g_Weaver_weave_200  h)
def g_Weaver_weave_151 (h : xE) : Option (Nat × xE) := xeb (g_Tokens_right h) fun v8 h7 => bif xeq v8 0 then (xev (g_Faults_clear h7) fun h9 => xer (ep_g h9.1 11) fun v10 => xev (g_Faults_tell h9 v10 1) fun h11 => g_Weaver_weave_183  h11) else (g_Weaver_weave_183  h7)
def g_Weaver_weave_145 (k28 : Nat → xE → Option (Nat × xE)) (x4 : Nat) (h : xE) : Option (Nat × xE) := k28 (xadd x4 1) h
def g_Weaver_weave_132 (k28 : Nat → xE → Option (Nat × xE)) (x4 : Nat) (x5 : Nat) (y0 : Nat) (h : xE) : Option (Nat × xE) := xwi h 1 y0 fun h12 => bif xeq x5 2 then (xev (g_Weaver_finish h12) fun h13 => g_Weaver_weave_145 k28 x4 h13) else (g_Weaver_weave_145 k28 x4 h12)
def g_Weaver_weave_106 (k28 : Nat → xE → Option (Nat × xE)) (x4 : Nat) (y0 : Nat) (h : xE) : Option (Nat × xE) := xwi h 1 y0 fun h14 => g_Weaver_weave_145 k28 x4 h14
def gF_Weaver_weave_28 (k28 : Nat → xE → Option (Nat × xE)) (x4 : Nat) (h : xE) : Option (Nat × xE) := xfz x4 fun x4 => bif xlt x4 131072 then (xer (ep_g h.1 1) fun v15 => bif xeq v15 4 then (g_Weaver_weave_151  h) else (xeb (g_Tokens_right h) fun v17 h16 => bif xeq v17 0 then (g_Weaver_weave_151  h16) else (xer (ep_g h16.1 1) fun v18 => bif xeq v18 0 then (xev (g_Weaver_item h16) fun h26 => g_Weaver_weave_145 k28 x4 h26) else (xer (ep_g h16.1 1) fun v19 => bif xeq v19 1 then (xev (g_Weaver_statement h16) fun h25 => g_Weaver_weave_145 k28 x4 h25) else (xer (ep_g h16.1 1) fun v20 => bif xeq v20 2 then (xeb (g_Exprs_operand h16) fun v24 h23 => bif xeq v24 0 then (g_Weaver_weave_106 k28 x4 2 h23) else (g_Weaver_weave_106 k28 x4 3 h23)) else (xeb (g_Exprs_after h16) fun v22 h21 => bif xeq v22 0 then (g_Weaver_weave_132 k28 x4 v22 2 h21) else (g_Weaver_weave_132 k28 x4 v22 3 h21))))))) else (g_Weaver_weave_151  h)
def g_Weaver_weave_28 : Nat → Nat → xE → Option (Nat × xE)
  | 0 => fun _ _ => none
  | nn + 1 => gF_Weaver_weave_28 (g_Weaver_weave_28 nn)
def g_Weaver_weave (h : xE) (a1 : Nat) : Option (Nat × xE) := xev (g_Weaver_begin h) fun h27 => xev (g_Tokens_cut h27 a1) fun h28 => xev (g_Names_clearZ h28) fun h29 => xev (g_Weaver_readBits h29) fun h30 => g_Weaver_weave_28 200000 0 h30
set_option maxHeartbeats 4000000 in
set_option maxRecDepth 100000 in
theorem cx_Weaver_weave (l : Launch) {dA : FieldType → ClassId} {D : va_G} {al : Nat → Nat} {sk sv : Nat → Nat} (hi : mv_inj (mg dA D al me)) (b : mv_H) (hb : mh (mv_r b) ∧ Ph 145 (mv_r b)) (hN : Ns b) (h : xE) (a1 : Nat) {rv : Nat} {rg : xE} (hf : g_Weaver_weave h a1 = some (rv, rg)) : mv_C l y_Weaver_weave (Cond.code y_Weaver_weave b_Weaver_weave 6 (Option.some Jvm.ClassFile.FieldType.boolean) :: ma) ({ frames := 7, cells := 0, slots := 0, locals := 176 }) (mg dA D al me) (mK sk sv) [.ref (al 2), .ref (al 144), .int (nI a1), .ref (al 145)] (ab b h) (mv_Ri (fun v σ1 => v = nI rv ∧ ∃ b2, mv_r b2 = mv_r (mv_sr (mv_sr (mv_sr b 2 5 (some 145)) 22 3 (some 145)) 3 4 (some 144)) ∧ σ1 = ab b2 rg)) := by
  refine mv_C.ofV (cc := b_Weaver_weave) (nL := 6) (ret := (Option.some Jvm.ClassFile.FieldType.boolean)) (by decide +kernel) rfl hi (Nat.le_of_ble_eq_true rfl) ?_
  intro p e s m below meth c B hNs hr hnm hno
  have hb2 : Rw 145 (mv_r (mv_sr (mv_sr b 2 5 (some 145)) 22 3 (some 145))) := xR_b2 hb
  have hb3 : xR (mv_r (mv_sr (mv_sr (mv_sr b 2 5 (some 145)) 22 3 (some 145)) 3 4 (some 144))) := xR_cut hb2
  unfold g_Weaver_weave at hf
  refine mv_aload_n (pc := 0) B d_Weaver_weave_0 rfl 0 rfl ?_
  refine mv_aload_n (pc := 1) B d_Weaver_weave_1 rfl 3 rfl ?_
  obtain ⟨h27, eh27, hf⟩ := xev_e hf
  refine mv_callVv (pc := 2) (n := 1) (ci := 1) (C := R_Weaver) B (mK_ok sk sv) hNs rfl rfl (cx_Weaver_begin l hi _ hb.1 _ eh27) rfl (ma_goodc kc_Weaver_begin) (B.2.2.2.1 _ k_780) (B.2.2.2.1 _ k_782) (B.2.2.2.1 _ ks_16) (B.2.2.2.1 _ k_2) ⟨by decide +kernel, by decide +kernel, by decide +kernel⟩ rfl d_Weaver_weave_2 rfl (Nat.le_of_ble_eq_true rfl) ⟨by decide, by decide⟩ ⟨by decide, by decide⟩ ⟨by decide, by decide⟩ (mv_noH hno _) (fun σ2 h2 => ?_)
  subst h2
  refine mv_aload_n (pc := 5) B d_Weaver_weave_5 rfl 0 rfl ?_
  refine mv_getR (pc := 6) (ci := 1) (C := R_Weaver) (T := F_Weaver) (N := 16) B 0 rfl rfl (by decide) i_Weaver (B.2.2.2.1 _ k_228) rfl (hb2.1 2 0 _ rfl) d_Weaver_weave_6 ?_
  refine mv_aload_n (pc := 9) B d_Weaver_weave_9 rfl 1 rfl ?_
  refine mv_iload_n (pc := 10) B d_Weaver_weave_10 rfl 2 rfl ?_
  obtain ⟨h28, eh28, hf⟩ := xev_e hf
  refine mv_callVv (pc := 11) (n := 2) (ci := 2) (C := R_Tokens) B (mK_ok sk sv) hNs rfl rfl (cx_Tokens_cut l hi _ hb2 _ _ eh28) rfl (ma_goodc kc_Tokens_cut) (B.2.2.2.1 _ k_789) (B.2.2.2.1 _ k_790) (B.2.2.2.1 _ k_791) (B.2.2.2.1 _ k_3) ⟨by decide +kernel, by decide +kernel, by decide +kernel⟩ rfl d_Weaver_weave_11 rfl (Nat.le_of_ble_eq_true rfl) ⟨by decide, by decide⟩ ⟨by decide, by decide⟩ ⟨by decide, by decide⟩ (mv_noH hno _) (fun σ11 h11 => ?_)
  subst h11
  refine mv_aload_n (pc := 14) B d_Weaver_weave_14 rfl 0 rfl ?_
  refine mv_getR (pc := 15) (ci := 1) (C := R_Weaver) (T := F_Weaver) (N := 16) B 1 rfl rfl (by decide) i_Weaver (B.2.2.2.1 _ k_229) rfl (hb3.1.1 2 1 _ rfl) d_Weaver_weave_15 ?_
  obtain ⟨h29, eh29, hf⟩ := xev_e hf
  refine mv_callVv (pc := 18) (n := 0) (ci := 4) (C := R_Names) B (mK_ok sk sv) hNs rfl rfl (cx_Names_clearZ l hi _ hb3 _ hN eh29) rfl (ma_goodc kc_Names_clear) (B.2.2.2.1 _ k_944) (B.2.2.2.1 _ k_945) (B.2.2.2.1 _ k_946) (B.2.2.2.1 _ k_5) ⟨by decide +kernel, by decide +kernel, by decide +kernel⟩ rfl d_Weaver_weave_18 rfl (Nat.le_of_ble_eq_true rfl) ⟨by decide, by decide⟩ ⟨by decide, by decide⟩ ⟨by decide, by decide⟩ (mv_noH hno _) (fun σ18 h18 => ?_)
  obtain ⟨b4, hr4, rfl⟩ := h18
  have hb4 : xR (mv_r b4) := by rw [hr4]; exact hb3
  have jn200 : ∀ (h : xE), g_Weaver_weave_200  h = some (rv, rg) → mv_V p l e ({ frames := 7, cells := 0, slots := 0, locals := 176 }) s m ([.ref (al 2), .ref (al 144), .int (nI a1), .ref (al 145)] : List Value).toArray below meth c (mg dA D al me) 6 0 0 (mv_Q (mg dA D al me) below s 0 0 (mv_Ri (fun v σ1 => v = nI rv ∧ ∃ b2, mv_r b2 = mv_r (mv_sr (mv_sr (mv_sr b 2 5 (some 145)) 22 3 (some 145)) 3 4 (some 144)) ∧ σ1 = ab b2 rg))) (ab b4 h) 200 [] [] := by
    intro  h hf
    unfold g_Weaver_weave_200 at hf
    refine mv_iconst (pc := 200) (v := nI 0) B d_Weaver_weave_200 (by decide) ?_
    obtain ⟨q1, hf⟩ := xix_e hf
    exact mv_iret (pc := 201) B hr (xz1 q1) d_Weaver_weave_201 (Nat.le_refl _) (Nat.le_refl _) ⟨_, rfl, xret_w hr4 hf⟩
  have jn183 : ∀ (h : xE), g_Weaver_weave_183  h = some (rv, rg) → mv_V p l e ({ frames := 7, cells := 0, slots := 0, locals := 176 }) s m ([.ref (al 2), .ref (al 144), .int (nI a1), .ref (al 145)] : List Value).toArray below meth c (mg dA D al me) 6 0 0 (mv_Q (mg dA D al me) below s 0 0 (mv_Ri (fun v σ1 => v = nI rv ∧ ∃ b2, mv_r b2 = mv_r (mv_sr (mv_sr (mv_sr b 2 5 (some 145)) 22 3 (some 145)) 3 4 (some 144)) ∧ σ1 = ab b2 rg))) (ab b4 h) 183 [(0, .ref (al 2))] [] := by
    intro  h hf
    unfold g_Weaver_weave_183 at hf
    refine mv_aload_n (pc := 183) B d_Weaver_weave_183 rfl 0 rfl ?_
    refine mv_getR (pc := 184) (ci := 1) (C := R_Weaver) (T := F_Weaver) (N := 16) B 2 rfl rfl (by decide) i_Weaver (B.2.2.2.1 _ k_230) rfl (hb4.1.1 2 2 _ rfl) d_Weaver_weave_184 ?_
    refine mv_getI (pc := 187) (ci := 5) (C := R_Faults) (T := F_Faults) (N := 2) B 0 rfl rfl (by decide) i_Faults (B.2.2.2.1 _ k_178) rfl d_Weaver_weave_187 ?_
    obtain ⟨v2, ev2, hf⟩ := xer_e hf
    refine mvn_top (xfi_21_0 ev2) ?_
    refine mv_if_ne (pc := 190) (tgt := 200) B d_Weaver_weave_190 rfl (fun h190 => ?_) (fun h190 => ?_)
    · skip
      have hf := x_eq_f (y := 0) h190 hf
      refine mv_lpick [] rfl ?_
      exact jn200  _ hf
    · skip
      have hf := x_eq_t (y := 0) h190 hf
      refine mv_aload_n (pc := 193) B d_Weaver_weave_193 rfl 0 rfl ?_
      obtain ⟨v4, h3, eh3, hf⟩ := xeb_e hf
      refine mv_callVi (pc := 194) (n := 0) (ci := 1) (C := R_Weaver) B (mK_ok sk sv) hNs rfl rfl (cx_Weaver_areApart l hi _ hb4 _ eh3) rfl (ma_goodc kc_Weaver_areApart) (B.2.2.2.1 _ k_1540) (B.2.2.2.1 _ k_1542) (B.2.2.2.1 _ ks_68) (B.2.2.2.1 _ k_2) ⟨by decide +kernel, by decide +kernel, by decide +kernel⟩ rfl d_Weaver_weave_194 rfl (Nat.le_of_ble_eq_true rfl) ⟨by decide, by decide⟩ ⟨by decide, by decide⟩ ⟨by decide, by decide⟩ (mv_noH hno _) (fun w194 σ194 h194 => ?_)
      obtain ⟨rfl, rfl⟩ := h194
      refine mv_if_ne (pc := 197) (tgt := 202) B d_Weaver_weave_197 rfl (fun h197 => ?_) (fun h197 => ?_)
      · skip
        have hf := x_eq_f (y := 0) h197 hf
        refine mv_aload_n (pc := 202) B d_Weaver_weave_202 rfl 0 rfl ?_
        refine mv_getR (pc := 203) (ci := 1) (C := R_Weaver) (T := F_Weaver) (N := 16) B 5 rfl rfl (by decide) i_Weaver (B.2.2.2.1 _ k_235) rfl hb4.1.2.2.1 d_Weaver_weave_203 ?_
        refine mv_getR (pc := 206) (ci := 7) (C := R_Program) (T := F_Program) (N := 19) B 18 rfl rfl (by decide) i_Program (B.2.2.2.1 _ k_365) rfl (hb4.1.2.1 145 18 156 rfl) d_Weaver_weave_206 ?_
        refine mv_aload_n (pc := 209) B d_Weaver_weave_209 rfl 0 rfl ?_
        refine mv_getR (pc := 210) (ci := 1) (C := R_Weaver) (T := F_Weaver) (N := 16) B 5 rfl rfl (by decide) i_Weaver (B.2.2.2.1 _ k_235) rfl hb4.1.2.2.1 d_Weaver_weave_210 ?_
        obtain ⟨h5, eh5, hf⟩ := xev_e hf
        refine mv_callVv (pc := 213) (n := 1) (ci := 8) (C := R_Tree) B (mK_ok sk sv) hNs rfl rfl (cx_Tree_grow l hi _ hb4 _ eh5) rfl (ma_goodc kc_Tree_grow) (B.2.2.2.1 _ k_1548) (B.2.2.2.1 _ k_411) (B.2.2.2.1 _ k_412) (B.2.2.2.1 _ k_9) ⟨by decide +kernel, by decide +kernel, by decide +kernel⟩ rfl d_Weaver_weave_213 rfl (Nat.le_of_ble_eq_true rfl) ⟨by decide, by decide⟩ ⟨by decide, by decide⟩ ⟨by decide, by decide⟩ (mv_noH hno _) (fun σ213 h213 => ?_)
        subst h213
        refine mv_iconst (pc := 216) (v := nI 1) B d_Weaver_weave_216 (by decide) ?_
        obtain ⟨q6, hf⟩ := xix_e hf
        exact mv_iret (pc := 217) B hr (xz1 q6) d_Weaver_weave_217 (Nat.le_refl _) (Nat.le_refl _) ⟨_, rfl, xret_w hr4 hf⟩
      · skip
        have hf := x_eq_t (y := 0) h197 hf
        refine mv_lpick [] rfl ?_
        exact jn200  _ hf
  have jn151 : ∀ (h : xE), g_Weaver_weave_151  h = some (rv, rg) → mv_V p l e ({ frames := 7, cells := 0, slots := 0, locals := 176 }) s m ([.ref (al 2), .ref (al 144), .int (nI a1), .ref (al 145)] : List Value).toArray below meth c (mg dA D al me) 6 0 0 (mv_Q (mg dA D al me) below s 0 0 (mv_Ri (fun v σ1 => v = nI rv ∧ ∃ b2, mv_r b2 = mv_r (mv_sr (mv_sr (mv_sr b 2 5 (some 145)) 22 3 (some 145)) 3 4 (some 144)) ∧ σ1 = ab b2 rg))) (ab b4 h) 151 [(0, .ref (al 2))] [] := by
    intro  h hf
    unfold g_Weaver_weave_151 at hf
    refine mv_aload_n (pc := 151) B d_Weaver_weave_151 rfl 0 rfl ?_
    refine mv_getR (pc := 152) (ci := 1) (C := R_Weaver) (T := F_Weaver) (N := 16) B 0 rfl rfl (by decide) i_Weaver (B.2.2.2.1 _ k_228) rfl (hb4.1.1 2 0 _ rfl) d_Weaver_weave_152 ?_
    obtain ⟨v8, h7, eh7, hf⟩ := xeb_e hf
    refine mv_callVi (pc := 155) (n := 0) (ci := 2) (C := R_Tokens) B (mK_ok sk sv) hNs rfl rfl (cx_Tokens_right l hi _ _ eh7) rfl (ma_goodc kc_Tokens_right) (B.2.2.2.1 _ k_1291) (B.2.2.2.1 _ k_1292) (B.2.2.2.1 _ k_1293) (B.2.2.2.1 _ k_3) ⟨by decide +kernel, by decide +kernel, by decide +kernel⟩ rfl d_Weaver_weave_155 rfl (Nat.le_of_ble_eq_true rfl) ⟨by decide, by decide⟩ ⟨by decide, by decide⟩ ⟨by decide, by decide⟩ (mv_noH hno _) (fun w155 σ155 h155 => ?_)
    obtain ⟨rfl, rfl⟩ := h155
    refine mv_if_ne (pc := 158) (tgt := 183) B d_Weaver_weave_158 rfl (fun h158 => ?_) (fun h158 => ?_)
    · skip
      have hf := x_eq_f (y := 0) h158 hf
      refine mv_lpick [0] rfl ?_
      exact jn183  _ hf
    · skip
      have hf := x_eq_t (y := 0) h158 hf
      refine mv_aload_n (pc := 161) B d_Weaver_weave_161 rfl 0 rfl ?_
      refine mv_getR (pc := 162) (ci := 1) (C := R_Weaver) (T := F_Weaver) (N := 16) B 2 rfl rfl (by decide) i_Weaver (B.2.2.2.1 _ k_230) rfl (hb4.1.1 2 2 _ rfl) d_Weaver_weave_162 ?_
      obtain ⟨h9, eh9, hf⟩ := xev_e hf
      refine mv_callVv (pc := 165) (n := 0) (ci := 5) (C := R_Faults) B (mK_ok sk sv) hNs rfl rfl (cx_Faults_clear l hi _ _ eh9) rfl (ma_goodc kc_Faults_clear) (B.2.2.2.1 _ k_785) (B.2.2.2.1 _ k_786) (B.2.2.2.1 _ k_787) (B.2.2.2.1 _ k_6) ⟨by decide +kernel, by decide +kernel, by decide +kernel⟩ rfl d_Weaver_weave_165 rfl (Nat.le_of_ble_eq_true rfl) ⟨by decide, by decide⟩ ⟨by decide, by decide⟩ ⟨by decide, by decide⟩ (mv_noH hno _) (fun σ165 h165 => ?_)
      subst h165
      refine mv_aload_n (pc := 168) B d_Weaver_weave_168 rfl 0 rfl ?_
      refine mv_getR (pc := 169) (ci := 1) (C := R_Weaver) (T := F_Weaver) (N := 16) B 2 rfl rfl (by decide) i_Weaver (B.2.2.2.1 _ k_230) rfl (hb4.1.1 2 2 _ rfl) d_Weaver_weave_169 ?_
      refine mv_aload_n (pc := 172) B d_Weaver_weave_172 rfl 0 rfl ?_
      refine mv_getR (pc := 173) (ci := 1) (C := R_Weaver) (T := F_Weaver) (N := 16) B 0 rfl rfl (by decide) i_Weaver (B.2.2.2.1 _ k_228) rfl (hb4.1.1 2 0 _ rfl) d_Weaver_weave_173 ?_
      refine mv_getI (pc := 176) (ci := 2) (C := R_Tokens) (T := F_Tokens) (N := 10) B 9 rfl rfl (by decide) i_Tokens (B.2.2.2.1 _ k_106) rfl d_Weaver_weave_176 ?_
      obtain ⟨v10, ev10, hf⟩ := xer_e hf
      refine mvn_top (xfi_3_9 ev10) ?_
      refine mv_iconst (pc := 179) (v := nI 1) B d_Weaver_weave_179 (by decide) ?_
      obtain ⟨h11, eh11, hf⟩ := xev_e hf
      refine mv_callVv (pc := 180) (n := 2) (ci := 5) (C := R_Faults) B (mK_ok sk sv) hNs rfl rfl (cx_Faults_tell l hi _ _ _ _ eh11) rfl (ma_goodc kc_Faults_tell) (B.2.2.2.1 _ k_1286) (B.2.2.2.1 _ k_1287) (B.2.2.2.1 _ k_1288) (B.2.2.2.1 _ k_6) ⟨by decide +kernel, by decide +kernel, by decide +kernel⟩ rfl d_Weaver_weave_180 rfl (Nat.le_of_ble_eq_true rfl) ⟨by decide, by decide⟩ ⟨by decide, by decide⟩ ⟨by decide, by decide⟩ (mv_noH hno _) (fun σ180 h180 => ?_)
      subst h180
      refine mv_lpick [0] rfl ?_
      exact jn183  _ hf
  have lp28 : ∀ (nn28 : Nat) (x4 : Nat) (h : xE), g_Weaver_weave_28 nn28 x4 h = some (rv, rg) → mv_V p l e ({ frames := 7, cells := 0, slots := 0, locals := 176 }) s m ([.ref (al 2), .ref (al 144), .int (nI a1), .ref (al 145)] : List Value).toArray below meth c (mg dA D al me) 6 0 0 (mv_Q (mg dA D al me) below s 0 0 (mv_Ri (fun v σ1 => v = nI rv ∧ ∃ b2, mv_r b2 = mv_r (mv_sr (mv_sr (mv_sr b 2 5 (some 145)) 22 3 (some 145)) 3 4 (some 144)) ∧ σ1 = ab b2 rg))) (ab b4 h) 28 [(0, .ref (al 2)), (4, .int (nI x4))] [] := by
    intro nn28
    induction nn28 with
    | zero => intro x4 h hf; cases hf
    | succ nn28 ih28 =>
      intro x4 h hf
      have jn145 : ∀ (x4 : Nat) (h : xE), g_Weaver_weave_145 (g_Weaver_weave_28 nn28) x4 h = some (rv, rg) → mv_V p l e ({ frames := 7, cells := 0, slots := 0, locals := 176 }) s m ([.ref (al 2), .ref (al 144), .int (nI a1), .ref (al 145)] : List Value).toArray below meth c (mg dA D al me) 6 0 0 (mv_Q (mg dA D al me) below s 0 0 (mv_Ri (fun v σ1 => v = nI rv ∧ ∃ b2, mv_r b2 = mv_r (mv_sr (mv_sr (mv_sr b 2 5 (some 145)) 22 3 (some 145)) 3 4 (some 144)) ∧ σ1 = ab b2 rg))) (ab b4 h) 145 [(0, .ref (al 2)), (4, .int (nI x4))] [] := by
        intro x4 h hf
        unfold g_Weaver_weave_145 at hf
        refine mvn_iinc (pc := 145) (j := 1) (v := 1) B d_Weaver_weave_145 rfl (by decide) (by decide) rfl ?_
        refine mv_goto (pc := 148) (tgt := 28) B d_Weaver_weave_148 rfl ?_
        refine mv_lpick [1, 0] rfl ?_
        exact ih28 _ _ hf
      have jn132 : ∀ (x4 : Nat) (x5 : Nat) (y0 : Nat) (h : xE), g_Weaver_weave_132 (g_Weaver_weave_28 nn28) x4 x5 y0 h = some (rv, rg) → mv_V p l e ({ frames := 7, cells := 0, slots := 0, locals := 176 }) s m ([.ref (al 2), .ref (al 144), .int (nI a1), .ref (al 145)] : List Value).toArray below meth c (mg dA D al me) 6 0 0 (mv_Q (mg dA D al me) below s 0 0 (mv_Ri (fun v σ1 => v = nI rv ∧ ∃ b2, mv_r b2 = mv_r (mv_sr (mv_sr (mv_sr b 2 5 (some 145)) 22 3 (some 145)) 3 4 (some 144)) ∧ σ1 = ab b2 rg))) (ab b4 h) 132 [(0, .ref (al 2)), (4, .int (nI x4)), (5, .int (nI x5))] [.int (nI y0), .ref (al 2)] := by
        intro x4 x5 y0 h hf
        unfold g_Weaver_weave_132 at hf
        refine mv_putI (pc := 132) (ci := 1) (C := R_Weaver) (T := F_Weaver) (N := 16) B 6 rfl rfl (by decide) i_Weaver t_Weaver_ok n_Weaver (B.2.2.2.1 _ k_236) rfl rfl rfl rfl d_Weaver_weave_132 ?_
        refine mvn_hp (xwi_2_6 _ _ _) (xwi_f hf) (fun h12 hf => ?_)
        refine mv_iload (pc := 135) B d_Weaver_weave_135 2 rfl ?_
        refine mv_iconst (pc := 137) (v := nI 2) B d_Weaver_weave_137 (by decide) ?_
        refine mv_icmp_ne (pc := 138) (tgt := 145) B d_Weaver_weave_138 rfl (fun h138 => ?_) (fun h138 => ?_)
        · skip
          have hf := x_eq_f h138 hf
          refine mv_lpick [0, 1] rfl ?_
          exact jn145 _ _ hf
        · skip
          have hf := x_eq_t h138 hf
          refine mv_aload_n (pc := 141) B d_Weaver_weave_141 rfl 0 rfl ?_
          obtain ⟨h13, eh13, hf⟩ := xev_e hf
          refine mv_callVv (pc := 142) (n := 0) (ci := 1) (C := R_Weaver) B (mK_ok sk sv) hNs rfl rfl (cx_Weaver_finish l hi _ hb4 _ eh13) rfl (ma_goodc kc_Weaver_finish) (B.2.2.2.1 _ k_1522) (B.2.2.2.1 _ k_1524) (B.2.2.2.1 _ ks_65) (B.2.2.2.1 _ k_2) ⟨by decide +kernel, by decide +kernel, by decide +kernel⟩ rfl d_Weaver_weave_142 rfl (Nat.le_of_ble_eq_true rfl) ⟨by decide, by decide⟩ ⟨by decide, by decide⟩ ⟨by decide, by decide⟩ (mv_noH hno _) (fun σ142 h142 => ?_)
          subst h142
          refine mv_lpick [0, 1] rfl ?_
          exact jn145 _ _ hf
      have jn106 : ∀ (x4 : Nat) (y0 : Nat) (h : xE), g_Weaver_weave_106 (g_Weaver_weave_28 nn28) x4 y0 h = some (rv, rg) → mv_V p l e ({ frames := 7, cells := 0, slots := 0, locals := 176 }) s m ([.ref (al 2), .ref (al 144), .int (nI a1), .ref (al 145)] : List Value).toArray below meth c (mg dA D al me) 6 0 0 (mv_Q (mg dA D al me) below s 0 0 (mv_Ri (fun v σ1 => v = nI rv ∧ ∃ b2, mv_r b2 = mv_r (mv_sr (mv_sr (mv_sr b 2 5 (some 145)) 22 3 (some 145)) 3 4 (some 144)) ∧ σ1 = ab b2 rg))) (ab b4 h) 106 [(0, .ref (al 2)), (4, .int (nI x4))] [.int (nI y0), .ref (al 2)] := by
        intro x4 y0 h hf
        unfold g_Weaver_weave_106 at hf
        refine mv_putI (pc := 106) (ci := 1) (C := R_Weaver) (T := F_Weaver) (N := 16) B 6 rfl rfl (by decide) i_Weaver t_Weaver_ok n_Weaver (B.2.2.2.1 _ k_236) rfl rfl rfl rfl d_Weaver_weave_106 ?_
        refine mvn_hp (xwi_2_6 _ _ _) (xwi_f hf) (fun h14 hf => ?_)
        refine mv_goto (pc := 109) (tgt := 145) B d_Weaver_weave_109 rfl ?_
        refine mv_lpick [0, 1] rfl ?_
        exact jn145 _ _ hf
      have hf : gF_Weaver_weave_28 (g_Weaver_weave_28 nn28) x4 h = some (rv, rg) := hf
      unfold gF_Weaver_weave_28 at hf
      have hf := (xfz_e _ _).symm.trans hf
      refine mv_iload (pc := 28) B d_Weaver_weave_28 1 rfl ?_
      refine mv_ldc (pc := 30) (v := 131072) B (B.2.2.2.1 _ k_1290) d_Weaver_weave_30 ?_
      refine mvn_top (n := 131072) (by decide) ?_
      refine mv_icmp_ge (pc := 32) (tgt := 151) B d_Weaver_weave_32 rfl (fun h32 => ?_) (fun h32 => ?_)
      · skip
        have hf := x_le_t h32 hf
        refine mv_lpick [0] rfl ?_
        exact jn151  _ hf
      · skip
        have hf := x_le_f h32 hf
        refine mv_aload_n (pc := 35) B d_Weaver_weave_35 rfl 0 rfl ?_
        refine mv_getI (pc := 36) (ci := 1) (C := R_Weaver) (T := F_Weaver) (N := 16) B 6 rfl rfl (by decide) i_Weaver (B.2.2.2.1 _ k_236) rfl d_Weaver_weave_36 ?_
        obtain ⟨v15, ev15, hf⟩ := xer_e hf
        refine mvn_top (xfi_2_6 ev15) ?_
        refine mv_iconst (pc := 39) (v := nI 4) B d_Weaver_weave_39 (by decide) ?_
        refine mv_icmp_eq (pc := 40) (tgt := 151) B d_Weaver_weave_40 rfl (fun h40 => ?_) (fun h40 => ?_)
        · skip
          have hf := x_eq_t h40 hf
          refine mv_lpick [0] rfl ?_
          exact jn151  _ hf
        · skip
          have hf := x_eq_f h40 hf
          refine mv_aload_n (pc := 43) B d_Weaver_weave_43 rfl 0 rfl ?_
          refine mv_getR (pc := 44) (ci := 1) (C := R_Weaver) (T := F_Weaver) (N := 16) B 0 rfl rfl (by decide) i_Weaver (B.2.2.2.1 _ k_228) rfl (hb4.1.1 2 0 _ rfl) d_Weaver_weave_44 ?_
          obtain ⟨v17, h16, eh16, hf⟩ := xeb_e hf
          refine mv_callVi (pc := 47) (n := 0) (ci := 2) (C := R_Tokens) B (mK_ok sk sv) hNs rfl rfl (cx_Tokens_right l hi _ _ eh16) rfl (ma_goodc kc_Tokens_right) (B.2.2.2.1 _ k_1291) (B.2.2.2.1 _ k_1292) (B.2.2.2.1 _ k_1293) (B.2.2.2.1 _ k_3) ⟨by decide +kernel, by decide +kernel, by decide +kernel⟩ rfl d_Weaver_weave_47 rfl (Nat.le_of_ble_eq_true rfl) ⟨by decide, by decide⟩ ⟨by decide, by decide⟩ ⟨by decide, by decide⟩ (mv_noH hno _) (fun w47 σ47 h47 => ?_)
          obtain ⟨rfl, rfl⟩ := h47
          refine mv_if_eq (pc := 50) (tgt := 151) B d_Weaver_weave_50 rfl (fun h50 => ?_) (fun h50 => ?_)
          · skip
            have hf := x_eq_t (y := 0) h50 hf
            refine mv_lpick [0] rfl ?_
            exact jn151  _ hf
          · skip
            have hf := x_eq_f (y := 0) h50 hf
            refine mv_aload_n (pc := 53) B d_Weaver_weave_53 rfl 0 rfl ?_
            refine mv_getI (pc := 54) (ci := 1) (C := R_Weaver) (T := F_Weaver) (N := 16) B 6 rfl rfl (by decide) i_Weaver (B.2.2.2.1 _ k_236) rfl d_Weaver_weave_54 ?_
            obtain ⟨v18, ev18, hf⟩ := xer_e hf
            refine mvn_top (xfi_2_6 ev18) ?_
            refine mv_if_ne (pc := 57) (tgt := 67) B d_Weaver_weave_57 rfl (fun h57 => ?_) (fun h57 => ?_)
            · skip
              have hf := x_eq_f (y := 0) h57 hf
              refine mv_aload_n (pc := 67) B d_Weaver_weave_67 rfl 0 rfl ?_
              refine mv_getI (pc := 68) (ci := 1) (C := R_Weaver) (T := F_Weaver) (N := 16) B 6 rfl rfl (by decide) i_Weaver (B.2.2.2.1 _ k_236) rfl d_Weaver_weave_68 ?_
              obtain ⟨v19, ev19, hf⟩ := xer_e hf
              refine mvn_top (xfi_2_6 ev19) ?_
              refine mv_iconst (pc := 71) (v := nI 1) B d_Weaver_weave_71 (by decide) ?_
              refine mv_icmp_ne (pc := 72) (tgt := 82) B d_Weaver_weave_72 rfl (fun h72 => ?_) (fun h72 => ?_)
              · skip
                have hf := x_eq_f h72 hf
                refine mv_aload_n (pc := 82) B d_Weaver_weave_82 rfl 0 rfl ?_
                refine mv_getI (pc := 83) (ci := 1) (C := R_Weaver) (T := F_Weaver) (N := 16) B 6 rfl rfl (by decide) i_Weaver (B.2.2.2.1 _ k_236) rfl d_Weaver_weave_83 ?_
                obtain ⟨v20, ev20, hf⟩ := xer_e hf
                refine mvn_top (xfi_2_6 ev20) ?_
                refine mv_iconst (pc := 86) (v := nI 2) B d_Weaver_weave_86 (by decide) ?_
                refine mv_icmp_ne (pc := 87) (tgt := 112) B d_Weaver_weave_87 rfl (fun h87 => ?_) (fun h87 => ?_)
                · skip
                  have hf := x_eq_f h87 hf
                  refine mv_aload_n (pc := 112) B d_Weaver_weave_112 rfl 0 rfl ?_
                  refine mv_getR (pc := 113) (ci := 1) (C := R_Weaver) (T := F_Weaver) (N := 16) B 3 rfl rfl (by decide) i_Weaver (B.2.2.2.1 _ k_232) rfl (hb4.1.1 2 3 _ rfl) d_Weaver_weave_113 ?_
                  obtain ⟨v22, h21, eh21, hf⟩ := xeb_e hf
                  refine mv_callVi (pc := 116) (n := 0) (ci := 6) (C := R_Exprs) B (mK_ok sk sv) hNs rfl rfl (cx_Exprs_after l hi _ hb4 _ eh21) rfl (ma_goodc kc_Exprs_after) (B.2.2.2.1 _ k_1460) (B.2.2.2.1 _ k_1461) (B.2.2.2.1 _ k_1462) (B.2.2.2.1 _ k_7) ⟨by decide +kernel, by decide +kernel, by decide +kernel⟩ rfl d_Weaver_weave_116 rfl (Nat.le_of_ble_eq_true rfl) ⟨by decide, by decide⟩ ⟨by decide, by decide⟩ ⟨by decide, by decide⟩ (mv_noH hno _) (fun w116 σ116 h116 => ?_)
                  obtain ⟨rfl, rfl⟩ := h116
                  refine mv_istore (pc := 119) B d_Weaver_weave_119 (by decide) rfl ?_
                  refine mv_aload_n (pc := 121) B d_Weaver_weave_121 rfl 1 rfl ?_
                  refine mv_iload (pc := 122) B d_Weaver_weave_122 0 rfl ?_
                  refine mv_if_ne (pc := 124) (tgt := 131) B d_Weaver_weave_124 rfl (fun h124 => ?_) (fun h124 => ?_)
                  · skip
                    have hf := x_eq_f (y := 0) h124 hf
                    refine mv_iconst (pc := 131) (v := nI 3) B d_Weaver_weave_131 (by decide) ?_
                    refine mv_lpick [1, 2, 0] rfl ?_
                    exact jn132 _ _ _ _ hf
                  · skip
                    have hf := x_eq_t (y := 0) h124 hf
                    refine mv_iconst (pc := 127) (v := nI 2) B d_Weaver_weave_127 (by decide) ?_
                    refine mv_goto (pc := 128) (tgt := 132) B d_Weaver_weave_128 rfl ?_
                    refine mv_lpick [1, 2, 0] rfl ?_
                    exact jn132 _ _ _ _ hf
                · skip
                  have hf := x_eq_t h87 hf
                  refine mv_aload_n (pc := 90) B d_Weaver_weave_90 rfl 0 rfl ?_
                  refine mv_aload_n (pc := 91) B d_Weaver_weave_91 rfl 0 rfl ?_
                  refine mv_getR (pc := 92) (ci := 1) (C := R_Weaver) (T := F_Weaver) (N := 16) B 3 rfl rfl (by decide) i_Weaver (B.2.2.2.1 _ k_232) rfl (hb4.1.1 2 3 _ rfl) d_Weaver_weave_92 ?_
                  obtain ⟨v24, h23, eh23, hf⟩ := xeb_e hf
                  refine mv_callVi (pc := 95) (n := 0) (ci := 6) (C := R_Exprs) B (mK_ok sk sv) hNs rfl rfl (cx_Exprs_operand l hi _ hb4 _ eh23) rfl (ma_goodc kc_Exprs_operand) (B.2.2.2.1 _ k_1410) (B.2.2.2.1 _ k_1411) (B.2.2.2.1 _ k_1412) (B.2.2.2.1 _ k_7) ⟨by decide +kernel, by decide +kernel, by decide +kernel⟩ rfl d_Weaver_weave_95 rfl (Nat.le_of_ble_eq_true rfl) ⟨by decide, by decide⟩ ⟨by decide, by decide⟩ ⟨by decide, by decide⟩ (mv_noH hno _) (fun w95 σ95 h95 => ?_)
                  obtain ⟨rfl, rfl⟩ := h95
                  refine mv_if_eq (pc := 98) (tgt := 105) B d_Weaver_weave_98 rfl (fun h98 => ?_) (fun h98 => ?_)
                  · skip
                    have hf := x_eq_t (y := 0) h98 hf
                    refine mv_iconst (pc := 105) (v := nI 2) B d_Weaver_weave_105 (by decide) ?_
                    refine mv_lpick [0, 1] rfl ?_
                    exact jn106 _ _ _ hf
                  · skip
                    have hf := x_eq_f (y := 0) h98 hf
                    refine mv_iconst (pc := 101) (v := nI 3) B d_Weaver_weave_101 (by decide) ?_
                    refine mv_goto (pc := 102) (tgt := 106) B d_Weaver_weave_102 rfl ?_
                    refine mv_lpick [0, 1] rfl ?_
                    exact jn106 _ _ _ hf
              · skip
                have hf := x_eq_t h72 hf
                refine mv_aload_n (pc := 75) B d_Weaver_weave_75 rfl 0 rfl ?_
                obtain ⟨h25, eh25, hf⟩ := xev_e hf
                refine mv_callVv (pc := 76) (n := 0) (ci := 1) (C := R_Weaver) B (mK_ok sk sv) hNs rfl rfl (cx_Weaver_statement l hi _ hb4 _ eh25) rfl (ma_goodc kc_Weaver_statement) (B.2.2.2.1 _ k_1363) (B.2.2.2.1 _ k_1365) (B.2.2.2.1 _ ks_42) (B.2.2.2.1 _ k_2) ⟨by decide +kernel, by decide +kernel, by decide +kernel⟩ rfl d_Weaver_weave_76 rfl (Nat.le_of_ble_eq_true rfl) ⟨by decide, by decide⟩ ⟨by decide, by decide⟩ ⟨by decide, by decide⟩ (mv_noH hno _) (fun σ76 h76 => ?_)
                subst h76
                refine mv_goto (pc := 79) (tgt := 145) B d_Weaver_weave_79 rfl ?_
                refine mv_lpick [0, 1] rfl ?_
                exact jn145 _ _ hf
            · skip
              have hf := x_eq_t (y := 0) h57 hf
              refine mv_aload_n (pc := 60) B d_Weaver_weave_60 rfl 0 rfl ?_
              obtain ⟨h26, eh26, hf⟩ := xev_e hf
              refine mv_callVv (pc := 61) (n := 0) (ci := 1) (C := R_Weaver) B (mK_ok sk sv) hNs rfl rfl (cx_Weaver_item l hi _ hb4 _ eh26) rfl (ma_goodc kc_Weaver_item) (B.2.2.2.1 _ k_1295) (B.2.2.2.1 _ k_1297) (B.2.2.2.1 _ ks_33) (B.2.2.2.1 _ k_2) ⟨by decide +kernel, by decide +kernel, by decide +kernel⟩ rfl d_Weaver_weave_61 rfl (Nat.le_of_ble_eq_true rfl) ⟨by decide, by decide⟩ ⟨by decide, by decide⟩ ⟨by decide, by decide⟩ (mv_noH hno _) (fun σ61 h61 => ?_)
              subst h61
              refine mv_goto (pc := 64) (tgt := 145) B d_Weaver_weave_64 rfl ?_
              refine mv_lpick [0, 1] rfl ?_
              exact jn145 _ _ hf
  refine mv_aload_n (pc := 21) B d_Weaver_weave_21 rfl 0 rfl ?_
  obtain ⟨h30, eh30, hf⟩ := xev_e hf
  refine mv_callVv (pc := 22) (n := 0) (ci := 1) (C := R_Weaver) B (mK_ok sk sv) hNs rfl rfl (cx_Weaver_readBits l hi _ hb4 _ eh30) rfl (ma_goodc kc_Weaver_readBits) (B.2.2.2.1 _ k_1262) (B.2.2.2.1 _ k_1264) (B.2.2.2.1 _ ks_31) (B.2.2.2.1 _ k_2) ⟨by decide +kernel, by decide +kernel, by decide +kernel⟩ rfl d_Weaver_weave_22 rfl (Nat.le_of_ble_eq_true rfl) ⟨by decide, by decide⟩ ⟨by decide, by decide⟩ ⟨by decide, by decide⟩ (mv_noH hno _) (fun σ22 h22 => ?_)
  subst h22
  refine mv_iconst (pc := 25) (v := nI 0) B d_Weaver_weave_25 (by decide) ?_
  refine mv_istore (pc := 26) B d_Weaver_weave_26 (by decide) rfl ?_
  refine mv_lpick [1, 0] rfl ?_
  exact lp28 _ _ _ hf
