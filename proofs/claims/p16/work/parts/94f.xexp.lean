/-! exact runs: Exprs -/
def g_Exprs_levelOf_140 (h : xE) : Option (Nat × xE) := some (8, h)
def g_Exprs_levelOf_137 (h : xE) : Option (Nat × xE) := some (7, h)
def g_Exprs_levelOf_134 (h : xE) : Option (Nat × xE) := some (6, h)
def g_Exprs_levelOf_132 (h : xE) : Option (Nat × xE) := some (5, h)
def g_Exprs_levelOf_130 (h : xE) : Option (Nat × xE) := some (4, h)
def g_Exprs_levelOf (h : xE) (a0 : Nat) : Option (Nat × xE) := bif xeq a0 37 then (g_Exprs_levelOf_140  h) else (bif xeq a0 38 then (some (3, h)) else (bif xeq a0 42 then (g_Exprs_levelOf_140  h) else (bif xeq a0 43 then (g_Exprs_levelOf_137  h) else (bif xeq a0 45 then (g_Exprs_levelOf_137  h) else (bif xeq a0 47 then (g_Exprs_levelOf_140  h) else (bif xeq a0 60 then (g_Exprs_levelOf_132  h) else (bif xeq a0 94 then (some (2, h)) else (bif xeq a0 124 then (some (1, h)) else (bif xeq a0 128 then (g_Exprs_levelOf_130  h) else (bif xeq a0 129 then (g_Exprs_levelOf_130  h) else (bif xeq a0 130 then (g_Exprs_levelOf_132  h) else (bif xeq a0 131 then (g_Exprs_levelOf_134  h) else (bif xeq a0 132 then (g_Exprs_levelOf_134  h) else (some (0, h)))))))))))))))
set_option maxHeartbeats 4000000 in
set_option maxRecDepth 100000 in
theorem cx_Exprs_levelOf (l : Launch) {dA : FieldType → ClassId} {D : va_G} {al : Nat → Nat} {sk sv : Nat → Nat} (hi : mv_inj (mg dA D al me)) (b : mv_H) (h : xE) (a0 : Nat) {rv : Nat} {rg : xE} (hf : g_Exprs_levelOf h a0 = some (rv, rg)) : mv_C l y_Exprs_levelOf (Cond.code y_Exprs_levelOf b_Exprs_levelOf 1 (Option.some Jvm.ClassFile.FieldType.int) :: ma) ({ frames := 0, cells := 0, slots := 0, locals := 0 }) (mg dA D al me) (mK sk sv) [.int (nI a0)] (ab b h) (mv_Ri (fun v σ1 => v = nI rv ∧ σ1 = ab b rg)) := by
  refine mv_C.ofV (cc := b_Exprs_levelOf) (nL := 1) (ret := (Option.some Jvm.ClassFile.FieldType.int)) (by decide +kernel) rfl hi (Nat.le_of_ble_eq_true rfl) ?_
  intro p e s m below meth c B hNs hr hnm hno
  have jn140 : ∀ (h : xE), g_Exprs_levelOf_140  h = some (rv, rg) → mv_V p l e ({ frames := 0, cells := 0, slots := 0, locals := 0 }) s m ([.int (nI a0)] : List Value).toArray below meth c (mg dA D al me) 1 0 0 (mv_Q (mg dA D al me) below s 0 0 (mv_Ri (fun v σ1 => v = nI rv ∧ σ1 = ab b rg))) (ab b h) 140 [] [] := by
    intro  h hf
    unfold g_Exprs_levelOf_140 at hf
    refine mv_bipush (pc := 140) (v := nI 8) B d_Exprs_levelOf_140 (by decide) ?_
    exact mv_iret (pc := 142) B hr rfl d_Exprs_levelOf_142 (Nat.le_refl _) (Nat.le_refl _) ⟨_, rfl, xret_i hf⟩
  have jn137 : ∀ (h : xE), g_Exprs_levelOf_137  h = some (rv, rg) → mv_V p l e ({ frames := 0, cells := 0, slots := 0, locals := 0 }) s m ([.int (nI a0)] : List Value).toArray below meth c (mg dA D al me) 1 0 0 (mv_Q (mg dA D al me) below s 0 0 (mv_Ri (fun v σ1 => v = nI rv ∧ σ1 = ab b rg))) (ab b h) 137 [] [] := by
    intro  h hf
    unfold g_Exprs_levelOf_137 at hf
    refine mv_bipush (pc := 137) (v := nI 7) B d_Exprs_levelOf_137 (by decide) ?_
    exact mv_iret (pc := 139) B hr rfl d_Exprs_levelOf_139 (Nat.le_refl _) (Nat.le_refl _) ⟨_, rfl, xret_i hf⟩
  have jn134 : ∀ (h : xE), g_Exprs_levelOf_134  h = some (rv, rg) → mv_V p l e ({ frames := 0, cells := 0, slots := 0, locals := 0 }) s m ([.int (nI a0)] : List Value).toArray below meth c (mg dA D al me) 1 0 0 (mv_Q (mg dA D al me) below s 0 0 (mv_Ri (fun v σ1 => v = nI rv ∧ σ1 = ab b rg))) (ab b h) 134 [] [] := by
    intro  h hf
    unfold g_Exprs_levelOf_134 at hf
    refine mv_bipush (pc := 134) (v := nI 6) B d_Exprs_levelOf_134 (by decide) ?_
    exact mv_iret (pc := 136) B hr rfl d_Exprs_levelOf_136 (Nat.le_refl _) (Nat.le_refl _) ⟨_, rfl, xret_i hf⟩
  have jn132 : ∀ (h : xE), g_Exprs_levelOf_132  h = some (rv, rg) → mv_V p l e ({ frames := 0, cells := 0, slots := 0, locals := 0 }) s m ([.int (nI a0)] : List Value).toArray below meth c (mg dA D al me) 1 0 0 (mv_Q (mg dA D al me) below s 0 0 (mv_Ri (fun v σ1 => v = nI rv ∧ σ1 = ab b rg))) (ab b h) 132 [] [] := by
    intro  h hf
    unfold g_Exprs_levelOf_132 at hf
    refine mv_iconst (pc := 132) (v := nI 5) B d_Exprs_levelOf_132 (by decide) ?_
    exact mv_iret (pc := 133) B hr rfl d_Exprs_levelOf_133 (Nat.le_refl _) (Nat.le_refl _) ⟨_, rfl, xret_i hf⟩
  have jn130 : ∀ (h : xE), g_Exprs_levelOf_130  h = some (rv, rg) → mv_V p l e ({ frames := 0, cells := 0, slots := 0, locals := 0 }) s m ([.int (nI a0)] : List Value).toArray below meth c (mg dA D al me) 1 0 0 (mv_Q (mg dA D al me) below s 0 0 (mv_Ri (fun v σ1 => v = nI rv ∧ σ1 = ab b rg))) (ab b h) 130 [] [] := by
    intro  h hf
    unfold g_Exprs_levelOf_130 at hf
    refine mv_iconst (pc := 130) (v := nI 4) B d_Exprs_levelOf_130 (by decide) ?_
    exact mv_iret (pc := 131) B hr rfl d_Exprs_levelOf_131 (Nat.le_refl _) (Nat.le_refl _) ⟨_, rfl, xret_i hf⟩
  unfold g_Exprs_levelOf at hf
  refine mv_iload_n (pc := 0) B d_Exprs_levelOf_0 rfl 0 rfl ?_
  refine mv_lsw (pc := 1) B d_Exprs_levelOf_1 (by decide) (by decide) ?_
  refine ⟨fun h1 => ?_, fun h1n37 => ?_⟩
  · skip
    have hf := x_sw_t (y := 37) (by decide) h1 hf
    show mv_V _ _ _ _ _ _ _ _ _ _ _ _ _ _ _ _ 140 _ _
    refine mv_lpick [] rfl ?_
    exact jn140  _ hf
  have hf := x_sw_f (y := 37) (by decide) h1n37 hf
  refine ⟨fun h1 => ?_, fun h1n38 => ?_⟩
  · skip
    have hf := x_sw_t (y := 38) (by decide) h1 hf
    show mv_V _ _ _ _ _ _ _ _ _ _ _ _ _ _ _ _ 128 _ _
    refine mv_iconst (pc := 128) (v := nI 3) B d_Exprs_levelOf_128 (by decide) ?_
    exact mv_iret (pc := 129) B hr rfl d_Exprs_levelOf_129 (Nat.le_refl _) (Nat.le_refl _) ⟨_, rfl, xret_i hf⟩
  have hf := x_sw_f (y := 38) (by decide) h1n38 hf
  refine ⟨fun h1 => ?_, fun h1n42 => ?_⟩
  · skip
    have hf := x_sw_t (y := 42) (by decide) h1 hf
    show mv_V _ _ _ _ _ _ _ _ _ _ _ _ _ _ _ _ 140 _ _
    refine mv_lpick [] rfl ?_
    exact jn140  _ hf
  have hf := x_sw_f (y := 42) (by decide) h1n42 hf
  refine ⟨fun h1 => ?_, fun h1n43 => ?_⟩
  · skip
    have hf := x_sw_t (y := 43) (by decide) h1 hf
    show mv_V _ _ _ _ _ _ _ _ _ _ _ _ _ _ _ _ 137 _ _
    refine mv_lpick [] rfl ?_
    exact jn137  _ hf
  have hf := x_sw_f (y := 43) (by decide) h1n43 hf
  refine ⟨fun h1 => ?_, fun h1n45 => ?_⟩
  · skip
    have hf := x_sw_t (y := 45) (by decide) h1 hf
    show mv_V _ _ _ _ _ _ _ _ _ _ _ _ _ _ _ _ 137 _ _
    refine mv_lpick [] rfl ?_
    exact jn137  _ hf
  have hf := x_sw_f (y := 45) (by decide) h1n45 hf
  refine ⟨fun h1 => ?_, fun h1n47 => ?_⟩
  · skip
    have hf := x_sw_t (y := 47) (by decide) h1 hf
    show mv_V _ _ _ _ _ _ _ _ _ _ _ _ _ _ _ _ 140 _ _
    refine mv_lpick [] rfl ?_
    exact jn140  _ hf
  have hf := x_sw_f (y := 47) (by decide) h1n47 hf
  refine ⟨fun h1 => ?_, fun h1n60 => ?_⟩
  · skip
    have hf := x_sw_t (y := 60) (by decide) h1 hf
    show mv_V _ _ _ _ _ _ _ _ _ _ _ _ _ _ _ _ 132 _ _
    refine mv_lpick [] rfl ?_
    exact jn132  _ hf
  have hf := x_sw_f (y := 60) (by decide) h1n60 hf
  refine ⟨fun h1 => ?_, fun h1n94 => ?_⟩
  · skip
    have hf := x_sw_t (y := 94) (by decide) h1 hf
    show mv_V _ _ _ _ _ _ _ _ _ _ _ _ _ _ _ _ 126 _ _
    refine mv_iconst (pc := 126) (v := nI 2) B d_Exprs_levelOf_126 (by decide) ?_
    exact mv_iret (pc := 127) B hr rfl d_Exprs_levelOf_127 (Nat.le_refl _) (Nat.le_refl _) ⟨_, rfl, xret_i hf⟩
  have hf := x_sw_f (y := 94) (by decide) h1n94 hf
  refine ⟨fun h1 => ?_, fun h1n124 => ?_⟩
  · skip
    have hf := x_sw_t (y := 124) (by decide) h1 hf
    show mv_V _ _ _ _ _ _ _ _ _ _ _ _ _ _ _ _ 124 _ _
    refine mv_iconst (pc := 124) (v := nI 1) B d_Exprs_levelOf_124 (by decide) ?_
    exact mv_iret (pc := 125) B hr rfl d_Exprs_levelOf_125 (Nat.le_refl _) (Nat.le_refl _) ⟨_, rfl, xret_i hf⟩
  have hf := x_sw_f (y := 124) (by decide) h1n124 hf
  refine ⟨fun h1 => ?_, fun h1n128 => ?_⟩
  · skip
    have hf := x_sw_t (y := 128) (by decide) h1 hf
    show mv_V _ _ _ _ _ _ _ _ _ _ _ _ _ _ _ _ 130 _ _
    refine mv_lpick [] rfl ?_
    exact jn130  _ hf
  have hf := x_sw_f (y := 128) (by decide) h1n128 hf
  refine ⟨fun h1 => ?_, fun h1n129 => ?_⟩
  · skip
    have hf := x_sw_t (y := 129) (by decide) h1 hf
    show mv_V _ _ _ _ _ _ _ _ _ _ _ _ _ _ _ _ 130 _ _
    refine mv_lpick [] rfl ?_
    exact jn130  _ hf
  have hf := x_sw_f (y := 129) (by decide) h1n129 hf
  refine ⟨fun h1 => ?_, fun h1n130 => ?_⟩
  · skip
    have hf := x_sw_t (y := 130) (by decide) h1 hf
    show mv_V _ _ _ _ _ _ _ _ _ _ _ _ _ _ _ _ 132 _ _
    refine mv_lpick [] rfl ?_
    exact jn132  _ hf
  have hf := x_sw_f (y := 130) (by decide) h1n130 hf
  refine ⟨fun h1 => ?_, fun h1n131 => ?_⟩
  · skip
    have hf := x_sw_t (y := 131) (by decide) h1 hf
    show mv_V _ _ _ _ _ _ _ _ _ _ _ _ _ _ _ _ 134 _ _
    refine mv_lpick [] rfl ?_
    exact jn134  _ hf
  have hf := x_sw_f (y := 131) (by decide) h1n131 hf
  refine ⟨fun h1 => ?_, fun h1n132 => ?_⟩
  · skip
    have hf := x_sw_t (y := 132) (by decide) h1 hf
    show mv_V _ _ _ _ _ _ _ _ _ _ _ _ _ _ _ _ 134 _ _
    refine mv_lpick [] rfl ?_
    exact jn134  _ hf
  have hf := x_sw_f (y := 132) (by decide) h1n132 hf
  show mv_V _ _ _ _ _ _ _ _ _ _ _ _ _ _ _ _ 143 _ _
  refine mv_iconst (pc := 143) (v := nI 0) B d_Exprs_levelOf_143 (by decide) ?_
  exact mv_iret (pc := 144) B hr rfl d_Exprs_levelOf_144 (Nat.le_refl _) (Nat.le_refl _) ⟨_, rfl, xret_i hf⟩
def g_Exprs_begin (h : xE) : Option xE := xwi h 17 0 fun h1 => xwi h1 18 0 fun h2 => some h2
set_option maxHeartbeats 4000000 in
set_option maxRecDepth 100000 in
theorem cx_Exprs_begin (l : Launch) {dA : FieldType → ClassId} {D : va_G} {al : Nat → Nat} {sk sv : Nat → Nat} (hi : mv_inj (mg dA D al me)) (b : mv_H) (h : xE) {rg : xE} (hf : g_Exprs_begin h = some rg) : mv_C l y_Exprs_begin (Cond.code y_Exprs_begin b_Exprs_begin 1 (Option.none : Option Jvm.ClassFile.FieldType) :: ma) ({ frames := 0, cells := 0, slots := 0, locals := 0 }) (mg dA D al me) (mK sk sv) [.ref (al 22)] (ab b h) (mv_Rv (fun σ1 => σ1 = ab b rg)) := by
  refine mv_C.ofV (cc := b_Exprs_begin) (nL := 1) (ret := (Option.none : Option Jvm.ClassFile.FieldType)) (by decide +kernel) rfl hi (Nat.le_of_ble_eq_true rfl) ?_
  intro p e s m below meth c B hNs hr hnm hno
  unfold g_Exprs_begin at hf
  refine mv_aload_n (pc := 0) B d_Exprs_begin_0 rfl 0 rfl ?_
  refine mv_iconst (pc := 1) (v := nI 0) B d_Exprs_begin_1 (by decide) ?_
  refine mv_putI (pc := 2) (ci := 6) (C := R_Exprs) (T := F_Exprs) (N := 11) B 8 rfl rfl (by decide) i_Exprs t_Exprs_ok n_Exprs (B.2.2.2.1 _ k_202) rfl rfl rfl rfl d_Exprs_begin_2 ?_
  refine mvn_hp (xwi_22_8 _ _ _) (xwi_f hf) (fun h1 hf => ?_)
  refine mv_aload_n (pc := 5) B d_Exprs_begin_5 rfl 0 rfl ?_
  refine mv_iconst (pc := 6) (v := nI 0) B d_Exprs_begin_6 (by decide) ?_
  refine mv_putI (pc := 7) (ci := 6) (C := R_Exprs) (T := F_Exprs) (N := 11) B 10 rfl rfl (by decide) i_Exprs t_Exprs_ok n_Exprs (B.2.2.2.1 _ k_204) rfl rfl rfl rfl d_Exprs_begin_7 ?_
  refine mvn_hp (xwi_22_10 _ _ _) (xwi_f hf) (fun h2 hf => ?_)
  exact mv_vret (pc := 10) B hr d_Exprs_begin_10 (Nat.le_refl _) (Nat.le_refl _) ⟨rfl, xret_v hf⟩
def g_Exprs_mark (h : xE) (a0 : Nat) (a1 : Nat) : Option xE := xer (ep_g h.1 17) fun v1 => bif Nat.blt v1 1024 then xw xL_23 xS_23 h v1 a0 fun h3 => xer (ep_g h3.1 17) fun v4 => bif Nat.blt v4 1024 then xw xL_24 xS_24 h3 v4 a1 fun h6 => xer (ep_g h6.1 17) fun v7 => bif Nat.blt v7 1024 then xw xL_25 xS_25 h6 v7 0 fun h9 => xer (ep_g h9.1 17) fun v10 => xwi h9 17 (xadd v10 1) fun h11 => some h11 else none else none else none
set_option maxHeartbeats 4000000 in
set_option maxRecDepth 100000 in
theorem cx_Exprs_mark (l : Launch) {dA : FieldType → ClassId} {D : va_G} {al : Nat → Nat} {sk sv : Nat → Nat} (hi : mv_inj (mg dA D al me)) (b : mv_H) (hb : xR (mv_r b)) (h : xE) (a0 : Nat) (a1 : Nat) {rg : xE} (hf : g_Exprs_mark h a0 a1 = some rg) : mv_C l y_Exprs_mark (Cond.code y_Exprs_mark b_Exprs_mark 3 (Option.none : Option Jvm.ClassFile.FieldType) :: ma) ({ frames := 0, cells := 0, slots := 0, locals := 0 }) (mg dA D al me) (mK sk sv) [.ref (al 22), .int (nI a0), .int (nI a1)] (ab b h) (mv_Rv (fun σ1 => σ1 = ab b rg)) := by
  refine mv_C.ofV (cc := b_Exprs_mark) (nL := 3) (ret := (Option.none : Option Jvm.ClassFile.FieldType)) (by decide +kernel) rfl hi (Nat.le_of_ble_eq_true rfl) ?_
  intro p e s m below meth c B hNs hr hnm hno
  unfold g_Exprs_mark at hf
  refine mv_aload_n (pc := 0) B d_Exprs_mark_0 rfl 0 rfl ?_
  refine mv_getR (pc := 1) (ci := 6) (C := R_Exprs) (T := F_Exprs) (N := 11) B 4 rfl rfl (by decide) i_Exprs (B.2.2.2.1 _ k_198) rfl (hb.1.1 22 4 _ rfl) d_Exprs_mark_1 ?_
  refine mv_aload_n (pc := 4) B d_Exprs_mark_4 rfl 0 rfl ?_
  refine mv_getI (pc := 5) (ci := 6) (C := R_Exprs) (T := F_Exprs) (N := 11) B 8 rfl rfl (by decide) i_Exprs (B.2.2.2.1 _ k_202) rfl d_Exprs_mark_5 ?_
  obtain ⟨v1, ev1, hf⟩ := xer_e hf
  refine mvn_top (xfi_22_8 ev1) ?_
  refine mv_iload_n (pc := 8) B d_Exprs_mark_8 rfl 1 rfl ?_
  obtain ⟨q2, hf⟩ := xix_e hf
  refine mv_iast (pc := 9) B rfl (xin q2 (by decide)) d_Exprs_mark_9 ?_
  refine mvn_hp (xwa_23 _ _ _ q2) (xw_f xLe_23 xSe_23 hf) (fun h3 hf => ?_)
  refine mv_aload_n (pc := 10) B d_Exprs_mark_10 rfl 0 rfl ?_
  refine mv_getR (pc := 11) (ci := 6) (C := R_Exprs) (T := F_Exprs) (N := 11) B 5 rfl rfl (by decide) i_Exprs (B.2.2.2.1 _ k_199) rfl (hb.1.1 22 5 _ rfl) d_Exprs_mark_11 ?_
  refine mv_aload_n (pc := 14) B d_Exprs_mark_14 rfl 0 rfl ?_
  refine mv_getI (pc := 15) (ci := 6) (C := R_Exprs) (T := F_Exprs) (N := 11) B 8 rfl rfl (by decide) i_Exprs (B.2.2.2.1 _ k_202) rfl d_Exprs_mark_15 ?_
  obtain ⟨v4, ev4, hf⟩ := xer_e hf
  refine mvn_top (xfi_22_8 ev4) ?_
  refine mv_iload_n (pc := 18) B d_Exprs_mark_18 rfl 2 rfl ?_
  obtain ⟨q5, hf⟩ := xix_e hf
  refine mv_iast (pc := 19) B rfl (xin q5 (by decide)) d_Exprs_mark_19 ?_
  refine mvn_hp (xwa_24 _ _ _ q5) (xw_f xLe_24 xSe_24 hf) (fun h6 hf => ?_)
  refine mv_aload_n (pc := 20) B d_Exprs_mark_20 rfl 0 rfl ?_
  refine mv_getR (pc := 21) (ci := 6) (C := R_Exprs) (T := F_Exprs) (N := 11) B 6 rfl rfl (by decide) i_Exprs (B.2.2.2.1 _ k_200) rfl (hb.1.1 22 6 _ rfl) d_Exprs_mark_21 ?_
  refine mv_aload_n (pc := 24) B d_Exprs_mark_24 rfl 0 rfl ?_
  refine mv_getI (pc := 25) (ci := 6) (C := R_Exprs) (T := F_Exprs) (N := 11) B 8 rfl rfl (by decide) i_Exprs (B.2.2.2.1 _ k_202) rfl d_Exprs_mark_25 ?_
  obtain ⟨v7, ev7, hf⟩ := xer_e hf
  refine mvn_top (xfi_22_8 ev7) ?_
  refine mv_iconst (pc := 28) (v := nI 0) B d_Exprs_mark_28 (by decide) ?_
  obtain ⟨q8, hf⟩ := xix_e hf
  refine mv_iast (pc := 29) B rfl (xin q8 (by decide)) d_Exprs_mark_29 ?_
  refine mvn_hp (xwa_25 _ _ _ q8) (xw_f xLe_25 xSe_25 hf) (fun h9 hf => ?_)
  refine mv_aload_n (pc := 30) B d_Exprs_mark_30 rfl 0 rfl ?_
  refine mv_dup (pc := 31) B d_Exprs_mark_31 rfl ?_
  refine mv_getI (pc := 32) (ci := 6) (C := R_Exprs) (T := F_Exprs) (N := 11) B 8 rfl rfl (by decide) i_Exprs (B.2.2.2.1 _ k_202) rfl d_Exprs_mark_32 ?_
  obtain ⟨v10, ev10, hf⟩ := xer_e hf
  refine mvn_top (xfi_22_8 ev10) ?_
  refine mv_iconst (pc := 35) (v := nI 1) B d_Exprs_mark_35 (by decide) ?_
  refine mvn_iadd (pc := 36) B d_Exprs_mark_36 ?_
  refine mv_putI (pc := 37) (ci := 6) (C := R_Exprs) (T := F_Exprs) (N := 11) B 8 rfl rfl (by decide) i_Exprs t_Exprs_ok n_Exprs (B.2.2.2.1 _ k_202) rfl rfl rfl rfl d_Exprs_mark_37 ?_
  refine mvn_hp (xwi_22_8 _ _ _) (xwi_f hf) (fun h11 hf => ?_)
  exact mv_vret (pc := 40) B hr d_Exprs_mark_40 (Nat.le_refl _) (Nat.le_refl _) ⟨rfl, xret_v hf⟩
def g_Exprs_hold (h : xE) (a0 : Nat) : Option xE := xer (ep_g h.1 18) fun v1 => bif Nat.blt v1 1024 then xw xL_27 xS_27 h v1 a0 fun h3 => xer (ep_g h3.1 18) fun v4 => xwi h3 18 (xadd v4 1) fun h5 => some h5 else none
set_option maxHeartbeats 4000000 in
set_option maxRecDepth 100000 in
theorem cx_Exprs_hold (l : Launch) {dA : FieldType → ClassId} {D : va_G} {al : Nat → Nat} {sk sv : Nat → Nat} (hi : mv_inj (mg dA D al me)) (b : mv_H) (hb : xR (mv_r b)) (h : xE) (a0 : Nat) {rg : xE} (hf : g_Exprs_hold h a0 = some rg) : mv_C l y_Exprs_hold (Cond.code y_Exprs_hold b_Exprs_hold 2 (Option.none : Option Jvm.ClassFile.FieldType) :: ma) ({ frames := 0, cells := 0, slots := 0, locals := 0 }) (mg dA D al me) (mK sk sv) [.ref (al 22), .int (nI a0)] (ab b h) (mv_Rv (fun σ1 => σ1 = ab b rg)) := by
  refine mv_C.ofV (cc := b_Exprs_hold) (nL := 2) (ret := (Option.none : Option Jvm.ClassFile.FieldType)) (by decide +kernel) rfl hi (Nat.le_of_ble_eq_true rfl) ?_
  intro p e s m below meth c B hNs hr hnm hno
  unfold g_Exprs_hold at hf
  refine mv_aload_n (pc := 0) B d_Exprs_hold_0 rfl 0 rfl ?_
  refine mv_getR (pc := 1) (ci := 6) (C := R_Exprs) (T := F_Exprs) (N := 11) B 9 rfl rfl (by decide) i_Exprs (B.2.2.2.1 _ k_203) rfl (hb.1.1 22 9 _ rfl) d_Exprs_hold_1 ?_
  refine mv_aload_n (pc := 4) B d_Exprs_hold_4 rfl 0 rfl ?_
  refine mv_getI (pc := 5) (ci := 6) (C := R_Exprs) (T := F_Exprs) (N := 11) B 10 rfl rfl (by decide) i_Exprs (B.2.2.2.1 _ k_204) rfl d_Exprs_hold_5 ?_
  obtain ⟨v1, ev1, hf⟩ := xer_e hf
  refine mvn_top (xfi_22_10 ev1) ?_
  refine mv_iload_n (pc := 8) B d_Exprs_hold_8 rfl 1 rfl ?_
  obtain ⟨q2, hf⟩ := xix_e hf
  refine mv_iast (pc := 9) B rfl (xin q2 (by decide)) d_Exprs_hold_9 ?_
  refine mvn_hp (xwa_27 _ _ _ q2) (xw_f xLe_27 xSe_27 hf) (fun h3 hf => ?_)
  refine mv_aload_n (pc := 10) B d_Exprs_hold_10 rfl 0 rfl ?_
  refine mv_dup (pc := 11) B d_Exprs_hold_11 rfl ?_
  refine mv_getI (pc := 12) (ci := 6) (C := R_Exprs) (T := F_Exprs) (N := 11) B 10 rfl rfl (by decide) i_Exprs (B.2.2.2.1 _ k_204) rfl d_Exprs_hold_12 ?_
  obtain ⟨v4, ev4, hf⟩ := xer_e hf
  refine mvn_top (xfi_22_10 ev4) ?_
  refine mv_iconst (pc := 15) (v := nI 1) B d_Exprs_hold_15 (by decide) ?_
  refine mvn_iadd (pc := 16) B d_Exprs_hold_16 ?_
  refine mv_putI (pc := 17) (ci := 6) (C := R_Exprs) (T := F_Exprs) (N := 11) B 10 rfl rfl (by decide) i_Exprs t_Exprs_ok n_Exprs (B.2.2.2.1 _ k_204) rfl rfl rfl rfl d_Exprs_hold_17 ?_
  refine mvn_hp (xwi_22_10 _ _ _) (xwi_f hf) (fun h5 hf => ?_)
  exact mv_vret (pc := 20) B hr d_Exprs_hold_20 (Nat.le_refl _) (Nat.le_refl _) ⟨rfl, xret_v hf⟩
def g_Exprs_release (h : xE) : Option (Nat × xE) := xer (ep_g h.1 18) fun v1 => xwi h 18 (xsub v1 1) fun h2 => xer (ep_g h2.1 18) fun v3 => bif Nat.blt v3 1024 then xer (ep_g (xL_27 h2.2) v3) fun v5 => some (v5, h2) else none
set_option maxHeartbeats 4000000 in
set_option maxRecDepth 100000 in
theorem cx_Exprs_release (l : Launch) {dA : FieldType → ClassId} {D : va_G} {al : Nat → Nat} {sk sv : Nat → Nat} (hi : mv_inj (mg dA D al me)) (b : mv_H) (hb : xR (mv_r b)) (h : xE) {rv : Nat} {rg : xE} (hf : g_Exprs_release h = some (rv, rg)) : mv_C l y_Exprs_release (Cond.code y_Exprs_release b_Exprs_release 1 (Option.some Jvm.ClassFile.FieldType.int) :: ma) ({ frames := 0, cells := 0, slots := 0, locals := 0 }) (mg dA D al me) (mK sk sv) [.ref (al 22)] (ab b h) (mv_Ri (fun v σ1 => v = nI rv ∧ σ1 = ab b rg)) := by
  refine mv_C.ofV (cc := b_Exprs_release) (nL := 1) (ret := (Option.some Jvm.ClassFile.FieldType.int)) (by decide +kernel) rfl hi (Nat.le_of_ble_eq_true rfl) ?_
  intro p e s m below meth c B hNs hr hnm hno
  unfold g_Exprs_release at hf
  refine mv_aload_n (pc := 0) B d_Exprs_release_0 rfl 0 rfl ?_
  refine mv_dup (pc := 1) B d_Exprs_release_1 rfl ?_
  refine mv_getI (pc := 2) (ci := 6) (C := R_Exprs) (T := F_Exprs) (N := 11) B 10 rfl rfl (by decide) i_Exprs (B.2.2.2.1 _ k_204) rfl d_Exprs_release_2 ?_
  obtain ⟨v1, ev1, hf⟩ := xer_e hf
  refine mvn_top (xfi_22_10 ev1) ?_
  refine mv_iconst (pc := 5) (v := nI 1) B d_Exprs_release_5 (by decide) ?_
  refine mvn_isub (pc := 6) B d_Exprs_release_6 ?_
  refine mv_putI (pc := 7) (ci := 6) (C := R_Exprs) (T := F_Exprs) (N := 11) B 10 rfl rfl (by decide) i_Exprs t_Exprs_ok n_Exprs (B.2.2.2.1 _ k_204) rfl rfl rfl rfl d_Exprs_release_7 ?_
  refine mvn_hp (xwi_22_10 _ _ _) (xwi_f hf) (fun h2 hf => ?_)
  refine mv_aload_n (pc := 10) B d_Exprs_release_10 rfl 0 rfl ?_
  refine mv_getR (pc := 11) (ci := 6) (C := R_Exprs) (T := F_Exprs) (N := 11) B 9 rfl rfl (by decide) i_Exprs (B.2.2.2.1 _ k_203) rfl (hb.1.1 22 9 _ rfl) d_Exprs_release_11 ?_
  refine mv_aload_n (pc := 14) B d_Exprs_release_14 rfl 0 rfl ?_
  refine mv_getI (pc := 15) (ci := 6) (C := R_Exprs) (T := F_Exprs) (N := 11) B 10 rfl rfl (by decide) i_Exprs (B.2.2.2.1 _ k_204) rfl d_Exprs_release_15 ?_
  obtain ⟨v3, ev3, hf⟩ := xer_e hf
  refine mvn_top (xfi_22_10 ev3) ?_
  obtain ⟨q4, hf⟩ := xix_e hf
  refine mv_iald (pc := 18) B rfl (xin q4 (by decide)) d_Exprs_release_18 ?_
  obtain ⟨v5, ev5, hf⟩ := xer_e hf
  refine mvn_top (xfa_27 q4 ev5) ?_
  exact mv_iret (pc := 19) B hr rfl d_Exprs_release_19 (Nat.le_refl _) (Nat.le_refl _) ⟨_, rfl, xret_i hf⟩
def g_Exprs_tell (h : xE) (a0 : Nat) (a1 : Nat) : Option xE := bif Nat.blt a0 32770 then xer (ep_g (xL_5 h.2) a0) fun v2 => xev (g_Faults_tell h v2 a1) fun h3 => some h3 else none
set_option maxHeartbeats 4000000 in
set_option maxRecDepth 100000 in
theorem cx_Exprs_tell (l : Launch) {dA : FieldType → ClassId} {D : va_G} {al : Nat → Nat} {sk sv : Nat → Nat} (hi : mv_inj (mg dA D al me)) (b : mv_H) (hb : xR (mv_r b)) (h : xE) (a0 : Nat) (a1 : Nat) {rg : xE} (hf : g_Exprs_tell h a0 a1 = some rg) : mv_C l y_Exprs_tell (Cond.code y_Exprs_tell b_Exprs_tell 3 (Option.none : Option Jvm.ClassFile.FieldType) :: ma) ({ frames := 1, cells := 0, slots := 0, locals := 22 }) (mg dA D al me) (mK sk sv) [.ref (al 22), .int (nI a0), .int (nI a1)] (ab b h) (mv_Rv (fun σ1 => σ1 = ab b rg)) := by
  refine mv_C.ofV (cc := b_Exprs_tell) (nL := 3) (ret := (Option.none : Option Jvm.ClassFile.FieldType)) (by decide +kernel) rfl hi (Nat.le_of_ble_eq_true rfl) ?_
  intro p e s m below meth c B hNs hr hnm hno
  unfold g_Exprs_tell at hf
  refine mv_aload_n (pc := 0) B d_Exprs_tell_0 rfl 0 rfl ?_
  refine mv_getR (pc := 1) (ci := 6) (C := R_Exprs) (T := F_Exprs) (N := 11) B 2 rfl rfl (by decide) i_Exprs (B.2.2.2.1 _ k_195) rfl (hb.1.1 22 2 _ rfl) d_Exprs_tell_1 ?_
  refine mv_aload_n (pc := 4) B d_Exprs_tell_4 rfl 0 rfl ?_
  refine mv_getR (pc := 5) (ci := 6) (C := R_Exprs) (T := F_Exprs) (N := 11) B 0 rfl rfl (by decide) i_Exprs (B.2.2.2.1 _ k_193) rfl (hb.1.1 22 0 _ rfl) d_Exprs_tell_5 ?_
  refine mv_getR (pc := 8) (ci := 2) (C := R_Tokens) (T := F_Tokens) (N := 10) B 1 rfl rfl (by decide) i_Tokens (B.2.2.2.1 _ k_92) rfl (hb.1.1 3 1 _ rfl) d_Exprs_tell_8 ?_
  refine mv_iload_n (pc := 11) B d_Exprs_tell_11 rfl 1 rfl ?_
  obtain ⟨q1, hf⟩ := xix_e hf
  refine mv_iald (pc := 12) B rfl (xin q1 (by decide)) d_Exprs_tell_12 ?_
  obtain ⟨v2, ev2, hf⟩ := xer_e hf
  refine mvn_top (xfa_5 q1 ev2) ?_
  refine mv_iload_n (pc := 13) B d_Exprs_tell_13 rfl 2 rfl ?_
  obtain ⟨h3, eh3, hf⟩ := xev_e hf
  refine mv_callVv (pc := 14) (n := 2) (ci := 5) (C := R_Faults) B (mK_ok sk sv) hNs rfl rfl (cx_Faults_tell l hi _ _ _ _ eh3) rfl (ma_goodc kc_Faults_tell) (B.2.2.2.1 _ k_1431) (B.2.2.2.1 _ k_1287) (B.2.2.2.1 _ k_1288) (B.2.2.2.1 _ k_6) ⟨by decide +kernel, by decide +kernel, by decide +kernel⟩ rfl d_Exprs_tell_14 rfl (Nat.le_of_ble_eq_true rfl) ⟨by decide, by decide⟩ ⟨by decide, by decide⟩ ⟨by decide, by decide⟩ (mv_noH hno _) (fun σ14 h14 => ?_)
  subst h14
  exact mv_vret (pc := 17) B hr d_Exprs_tell_17 (Nat.le_refl _) (Nat.le_refl _) ⟨rfl, xret_v hf⟩
def g_Exprs_call_14 (h : xE) : Option xE := xev (g_Tokens_wrong h) fun h1 => some h1
def g_Exprs_call (h : xE) (a0 : Nat) : Option xE := bif xlt a0 211 then (g_Exprs_call_14  h) else (bif xlt 216 a0 then (g_Exprs_call_14  h) else (xeb (g_Tokens_take h a0) fun v3 h2 => xev (g_Exprs_mark h2 a0 v3) fun h4 => xeb (g_Tokens_open h4 40) fun v6 h5 => some h5))
set_option maxHeartbeats 4000000 in
set_option maxRecDepth 100000 in
theorem cx_Exprs_call (l : Launch) {dA : FieldType → ClassId} {D : va_G} {al : Nat → Nat} {sk sv : Nat → Nat} (hi : mv_inj (mg dA D al me)) (b : mv_H) (hb : xR (mv_r b)) (h : xE) (a0 : Nat) {rg : xE} (hf : g_Exprs_call h a0 = some rg) : mv_C l y_Exprs_call (Cond.code y_Exprs_call b_Exprs_call 2 (Option.none : Option Jvm.ClassFile.FieldType) :: ma) ({ frames := 3, cells := 0, slots := 0, locals := 63 }) (mg dA D al me) (mK sk sv) [.ref (al 22), .int (nI a0)] (ab b h) (mv_Rv (fun σ1 => σ1 = ab b rg)) := by
  refine mv_C.ofV (cc := b_Exprs_call) (nL := 2) (ret := (Option.none : Option Jvm.ClassFile.FieldType)) (by decide +kernel) rfl hi (Nat.le_of_ble_eq_true rfl) ?_
  intro p e s m below meth c B hNs hr hnm hno
  have jn14 : ∀ (h : xE), g_Exprs_call_14  h = some rg → mv_V p l e ({ frames := 3, cells := 0, slots := 0, locals := 63 }) s m ([.ref (al 22), .int (nI a0)] : List Value).toArray below meth c (mg dA D al me) 2 0 0 (mv_Q (mg dA D al me) below s 0 0 (mv_Rv (fun σ1 => σ1 = ab b rg))) (ab b h) 14 [(0, .ref (al 22))] [] := by
    intro  h hf
    unfold g_Exprs_call_14 at hf
    refine mv_aload_n (pc := 14) B d_Exprs_call_14 rfl 0 rfl ?_
    refine mv_getR (pc := 15) (ci := 6) (C := R_Exprs) (T := F_Exprs) (N := 11) B 0 rfl rfl (by decide) i_Exprs (B.2.2.2.1 _ k_193) rfl (hb.1.1 22 0 _ rfl) d_Exprs_call_15 ?_
    obtain ⟨h1, eh1, hf⟩ := xev_e hf
    refine mv_callVv (pc := 18) (n := 0) (ci := 2) (C := R_Tokens) B (mK_ok sk sv) hNs rfl rfl (cx_Tokens_wrong l hi _ hb _ eh1) rfl (ma_goodc kc_Tokens_wrong) (B.2.2.2.1 _ k_1459) (B.2.2.2.1 _ k_1275) (B.2.2.2.1 _ k_1276) (B.2.2.2.1 _ k_3) ⟨by decide +kernel, by decide +kernel, by decide +kernel⟩ rfl d_Exprs_call_18 rfl (Nat.le_of_ble_eq_true rfl) ⟨by decide, by decide⟩ ⟨by decide, by decide⟩ ⟨by decide, by decide⟩ (mv_noH hno _) (fun σ18 h18 => ?_)
    subst h18
    exact mv_vret (pc := 21) B hr d_Exprs_call_21 (Nat.le_refl _) (Nat.le_refl _) ⟨rfl, xret_v hf⟩
  unfold g_Exprs_call at hf
  refine mv_iload_n (pc := 0) B d_Exprs_call_0 rfl 1 rfl ?_
  refine mv_sipush (pc := 1) (v := nI 211) B d_Exprs_call_1 (by decide) ?_
  refine mv_icmp_lt (pc := 4) (tgt := 14) B d_Exprs_call_4 rfl (fun h4 => ?_) (fun h4 => ?_)
  · skip
    have hf := x_lt_t h4 hf
    refine mv_lpick [0] rfl ?_
    exact jn14  _ hf
  · skip
    have hf := x_lt_f h4 hf
    refine mv_iload_n (pc := 7) B d_Exprs_call_7 rfl 1 rfl ?_
    refine mv_sipush (pc := 8) (v := nI 216) B d_Exprs_call_8 (by decide) ?_
    refine mv_icmp_le (pc := 11) (tgt := 22) B d_Exprs_call_11 rfl (fun h11 => ?_) (fun h11 => ?_)
    · skip
      have hf := x_le_t h11 hf
      refine mv_aload_n (pc := 22) B d_Exprs_call_22 rfl 0 rfl ?_
      refine mv_iload_n (pc := 23) B d_Exprs_call_23 rfl 1 rfl ?_
      refine mv_aload_n (pc := 24) B d_Exprs_call_24 rfl 0 rfl ?_
      refine mv_getR (pc := 25) (ci := 6) (C := R_Exprs) (T := F_Exprs) (N := 11) B 0 rfl rfl (by decide) i_Exprs (B.2.2.2.1 _ k_193) rfl (hb.1.1 22 0 _ rfl) d_Exprs_call_25 ?_
      refine mv_iload_n (pc := 28) B d_Exprs_call_28 rfl 1 rfl ?_
      obtain ⟨v3, h2, eh2, hf⟩ := xeb_e hf
      refine mv_callVi (pc := 29) (n := 1) (ci := 2) (C := R_Tokens) B (mK_ok sk sv) hNs rfl rfl (cx_Tokens_take l hi _ hb _ _ eh2) rfl (ma_goodc kc_Tokens_take) (B.2.2.2.1 _ k_1424) (B.2.2.2.1 _ k_1267) (B.2.2.2.1 _ k_1268) (B.2.2.2.1 _ k_3) ⟨by decide +kernel, by decide +kernel, by decide +kernel⟩ rfl d_Exprs_call_29 rfl (Nat.le_of_ble_eq_true rfl) ⟨by decide, by decide⟩ ⟨by decide, by decide⟩ ⟨by decide, by decide⟩ (mv_noH hno _) (fun w29 σ29 h29 => ?_)
      obtain ⟨rfl, rfl⟩ := h29
      obtain ⟨h4, eh4, hf⟩ := xev_e hf
      refine mv_callVv (pc := 32) (n := 2) (ci := 6) (C := R_Exprs) B (mK_ok sk sv) hNs rfl rfl (cx_Exprs_mark l hi _ hb _ _ _ eh4) rfl (ma_goodc kc_Exprs_mark) (B.2.2.2.1 _ k_1416) (B.2.2.2.1 _ k_1418) (B.2.2.2.1 _ ks_48) (B.2.2.2.1 _ k_7) ⟨by decide +kernel, by decide +kernel, by decide +kernel⟩ rfl d_Exprs_call_32 rfl (Nat.le_of_ble_eq_true rfl) ⟨by decide, by decide⟩ ⟨by decide, by decide⟩ ⟨by decide, by decide⟩ (mv_noH hno _) (fun σ32 h32 => ?_)
      subst h32
      refine mv_aload_n (pc := 35) B d_Exprs_call_35 rfl 0 rfl ?_
      refine mv_getR (pc := 36) (ci := 6) (C := R_Exprs) (T := F_Exprs) (N := 11) B 0 rfl rfl (by decide) i_Exprs (B.2.2.2.1 _ k_193) rfl (hb.1.1 22 0 _ rfl) d_Exprs_call_36 ?_
      refine mv_bipush (pc := 39) (v := nI 40) B d_Exprs_call_39 (by decide) ?_
      obtain ⟨v6, h5, eh5, hf⟩ := xeb_e hf
      refine mv_callVi (pc := 41) (n := 1) (ci := 2) (C := R_Tokens) B (mK_ok sk sv) hNs rfl rfl (cx_Tokens_open l hi _ hb _ _ eh5) rfl (ma_goodc kc_Tokens_open) (B.2.2.2.1 _ k_1415) (B.2.2.2.1 _ k_1350) (B.2.2.2.1 _ k_1351) (B.2.2.2.1 _ k_3) ⟨by decide +kernel, by decide +kernel, by decide +kernel⟩ rfl d_Exprs_call_41 rfl (Nat.le_of_ble_eq_true rfl) ⟨by decide, by decide⟩ ⟨by decide, by decide⟩ ⟨by decide, by decide⟩ (mv_noH hno _) (fun w41 σ41 h41 => ?_)
      obtain ⟨rfl, rfl⟩ := h41
      refine mv_pop (pc := 44) B d_Exprs_call_44 rfl ?_
      exact mv_vret (pc := 45) B hr d_Exprs_call_45 (Nat.le_refl _) (Nat.le_refl _) ⟨rfl, xret_v hf⟩
    · skip
      have hf := x_le_f h11 hf
      refine mv_lpick [0] rfl ?_
      exact jn14  _ hf
def g_Exprs_literal_76 (x1 : Nat) (h : xE) : Option xE := xev (g_Exprs_tell h x1 3) fun h1 => xev (g_Exprs_hold h1 0) fun h2 => some h2
def g_Exprs_literal (h : xE) : Option xE := xeb (g_Tokens_take h 4) fun v4 h3 => xeb (g_Tokens_take h3 39) fun v6 h5 => xeb (g_Tokens_take h5 4) fun v8 h7 => bif Nat.blt v4 32770 then xer (ep_g (xL_6 h7.2) v4) fun v10 => bif Nat.blt v8 32770 then xer (ep_g (xL_6 h7.2) v8) fun v12 => xeb (g_Program_emit h7 300 v12) fun v14 h13 => bif xlt (ycmp v10 1) 0 then (g_Exprs_literal_76 v4 h13) else (bif xlt 0 (ycmp v10 64) then (g_Exprs_literal_76 v4 h13) else (xeb (g_Bits_mask h13 (v10 % 4294967296)) fun v16 h15 => bif xeq (ycmp (Nat.land v12 (Nat.xor v16 18446744073709551615)) 0) 0 then (xev (g_Exprs_hold h15 (v10 % 4294967296)) fun h17 => some h17) else (xev (g_Exprs_tell h15 v8 3) fun h18 => xev (g_Exprs_hold h18 0) fun h19 => some h19))) else none else none
set_option maxHeartbeats 4000000 in
set_option maxRecDepth 100000 in
theorem cx_Exprs_literal (l : Launch) {dA : FieldType → ClassId} {D : va_G} {al : Nat → Nat} {sk sv : Nat → Nat} (hi : mv_inj (mg dA D al me)) (b : mv_H) (hb : xR (mv_r b)) (h : xE) {rg : xE} (hf : g_Exprs_literal h = some rg) : mv_C l y_Exprs_literal (Cond.code y_Exprs_literal b_Exprs_literal 7 (Option.none : Option Jvm.ClassFile.FieldType) :: ma) ({ frames := 2, cells := 0, slots := 0, locals := 44 }) (mg dA D al me) (mK sk sv) [.ref (al 22)] (ab b h) (mv_Rv (fun σ1 => σ1 = ab b rg)) := by
  refine mv_C.ofV (cc := b_Exprs_literal) (nL := 7) (ret := (Option.none : Option Jvm.ClassFile.FieldType)) (by decide +kernel) rfl hi (Nat.le_of_ble_eq_true rfl) ?_
  intro p e s m below meth c B hNs hr hnm hno
  have jn76 : ∀ (x1 : Nat) (h : xE), g_Exprs_literal_76 x1 h = some rg → mv_V p l e ({ frames := 2, cells := 0, slots := 0, locals := 44 }) s m ([.ref (al 22)] : List Value).toArray below meth c (mg dA D al me) 7 0 0 (mv_Q (mg dA D al me) below s 0 0 (mv_Rv (fun σ1 => σ1 = ab b rg))) (ab b h) 76 [(0, .ref (al 22)), (1, .int (nI x1))] [] := by
    intro x1 h hf
    unfold g_Exprs_literal_76 at hf
    refine mv_aload_n (pc := 76) B d_Exprs_literal_76 rfl 0 rfl ?_
    refine mv_iload_n (pc := 77) B d_Exprs_literal_77 rfl 1 rfl ?_
    refine mv_iconst (pc := 78) (v := nI 3) B d_Exprs_literal_78 (by decide) ?_
    obtain ⟨h1, eh1, hf⟩ := xev_e hf
    refine mv_callVv (pc := 79) (n := 2) (ci := 6) (C := R_Exprs) B (mK_ok sk sv) hNs rfl rfl (cx_Exprs_tell l hi _ hb _ _ _ eh1) rfl (ma_goodc kc_Exprs_tell) (B.2.2.2.1 _ k_1427) (B.2.2.2.1 _ k_1429) (B.2.2.2.1 _ ks_50) (B.2.2.2.1 _ k_7) ⟨by decide +kernel, by decide +kernel, by decide +kernel⟩ rfl d_Exprs_literal_79 rfl (Nat.le_of_ble_eq_true rfl) ⟨by decide, by decide⟩ ⟨by decide, by decide⟩ ⟨by decide, by decide⟩ (mv_noH hno _) (fun σ79 h79 => ?_)
    subst h79
    refine mv_aload_n (pc := 82) B d_Exprs_literal_82 rfl 0 rfl ?_
    refine mv_iconst (pc := 83) (v := nI 0) B d_Exprs_literal_83 (by decide) ?_
    obtain ⟨h2, eh2, hf⟩ := xev_e hf
    refine mv_callVv (pc := 84) (n := 1) (ci := 6) (C := R_Exprs) B (mK_ok sk sv) hNs rfl rfl (cx_Exprs_hold l hi _ hb _ _ eh2) rfl (ma_goodc kc_Exprs_hold) (B.2.2.2.1 _ k_1432) (B.2.2.2.1 _ k_1434) (B.2.2.2.1 _ ks_51) (B.2.2.2.1 _ k_7) ⟨by decide +kernel, by decide +kernel, by decide +kernel⟩ rfl d_Exprs_literal_84 rfl (Nat.le_of_ble_eq_true rfl) ⟨by decide, by decide⟩ ⟨by decide, by decide⟩ ⟨by decide, by decide⟩ (mv_noH hno _) (fun σ84 h84 => ?_)
    subst h84
    refine mv_goto (pc := 87) (tgt := 127) B d_Exprs_literal_87 rfl ?_
    exact mv_vret (pc := 127) B hr d_Exprs_literal_127 (Nat.le_refl _) (Nat.le_refl _) ⟨rfl, xret_v hf⟩
  unfold g_Exprs_literal at hf
  refine mv_aload_n (pc := 0) B d_Exprs_literal_0 rfl 0 rfl ?_
  refine mv_getR (pc := 1) (ci := 6) (C := R_Exprs) (T := F_Exprs) (N := 11) B 0 rfl rfl (by decide) i_Exprs (B.2.2.2.1 _ k_193) rfl (hb.1.1 22 0 _ rfl) d_Exprs_literal_1 ?_
  refine mv_iconst (pc := 4) (v := nI 4) B d_Exprs_literal_4 (by decide) ?_
  obtain ⟨v4, h3, eh3, hf⟩ := xeb_e hf
  refine mv_callVi (pc := 5) (n := 1) (ci := 2) (C := R_Tokens) B (mK_ok sk sv) hNs rfl rfl (cx_Tokens_take l hi _ hb _ _ eh3) rfl (ma_goodc kc_Tokens_take) (B.2.2.2.1 _ k_1424) (B.2.2.2.1 _ k_1267) (B.2.2.2.1 _ k_1268) (B.2.2.2.1 _ k_3) ⟨by decide +kernel, by decide +kernel, by decide +kernel⟩ rfl d_Exprs_literal_5 rfl (Nat.le_of_ble_eq_true rfl) ⟨by decide, by decide⟩ ⟨by decide, by decide⟩ ⟨by decide, by decide⟩ (mv_noH hno _) (fun w5 σ5 h5 => ?_)
  obtain ⟨rfl, rfl⟩ := h5
  refine mv_istore_n (pc := 8) B d_Exprs_literal_8 rfl (by decide) rfl ?_
  refine mv_aload_n (pc := 9) B d_Exprs_literal_9 rfl 1 rfl ?_
  refine mv_getR (pc := 10) (ci := 6) (C := R_Exprs) (T := F_Exprs) (N := 11) B 0 rfl rfl (by decide) i_Exprs (B.2.2.2.1 _ k_193) rfl (hb.1.1 22 0 _ rfl) d_Exprs_literal_10 ?_
  refine mv_bipush (pc := 13) (v := nI 39) B d_Exprs_literal_13 (by decide) ?_
  obtain ⟨v6, h5, eh5, hf⟩ := xeb_e hf
  refine mv_callVi (pc := 15) (n := 1) (ci := 2) (C := R_Tokens) B (mK_ok sk sv) hNs rfl rfl (cx_Tokens_take l hi _ hb _ _ eh5) rfl (ma_goodc kc_Tokens_take) (B.2.2.2.1 _ k_1424) (B.2.2.2.1 _ k_1267) (B.2.2.2.1 _ k_1268) (B.2.2.2.1 _ k_3) ⟨by decide +kernel, by decide +kernel, by decide +kernel⟩ rfl d_Exprs_literal_15 rfl (Nat.le_of_ble_eq_true rfl) ⟨by decide, by decide⟩ ⟨by decide, by decide⟩ ⟨by decide, by decide⟩ (mv_noH hno _) (fun w15 σ15 h15 => ?_)
  obtain ⟨rfl, rfl⟩ := h15
  refine mv_pop (pc := 18) B d_Exprs_literal_18 rfl ?_
  refine mv_aload_n (pc := 19) B d_Exprs_literal_19 rfl 1 rfl ?_
  refine mv_getR (pc := 20) (ci := 6) (C := R_Exprs) (T := F_Exprs) (N := 11) B 0 rfl rfl (by decide) i_Exprs (B.2.2.2.1 _ k_193) rfl (hb.1.1 22 0 _ rfl) d_Exprs_literal_20 ?_
  refine mv_iconst (pc := 23) (v := nI 4) B d_Exprs_literal_23 (by decide) ?_
  obtain ⟨v8, h7, eh7, hf⟩ := xeb_e hf
  refine mv_callVi (pc := 24) (n := 1) (ci := 2) (C := R_Tokens) B (mK_ok sk sv) hNs rfl rfl (cx_Tokens_take l hi _ hb _ _ eh7) rfl (ma_goodc kc_Tokens_take) (B.2.2.2.1 _ k_1424) (B.2.2.2.1 _ k_1267) (B.2.2.2.1 _ k_1268) (B.2.2.2.1 _ k_3) ⟨by decide +kernel, by decide +kernel, by decide +kernel⟩ rfl d_Exprs_literal_24 rfl (Nat.le_of_ble_eq_true rfl) ⟨by decide, by decide⟩ ⟨by decide, by decide⟩ ⟨by decide, by decide⟩ (mv_noH hno _) (fun w24 σ24 h24 => ?_)
  obtain ⟨rfl, rfl⟩ := h24
  refine mv_istore_n (pc := 27) B d_Exprs_literal_27 rfl (by decide) rfl ?_
  refine mv_aload_n (pc := 28) B d_Exprs_literal_28 rfl 2 rfl ?_
  refine mv_getR (pc := 29) (ci := 6) (C := R_Exprs) (T := F_Exprs) (N := 11) B 0 rfl rfl (by decide) i_Exprs (B.2.2.2.1 _ k_193) rfl (hb.1.1 22 0 _ rfl) d_Exprs_literal_29 ?_
  refine mv_getR (pc := 32) (ci := 2) (C := R_Tokens) (T := F_Tokens) (N := 10) B 2 rfl rfl (by decide) i_Tokens (B.2.2.2.1 _ k_95) rfl (hb.1.1 3 2 _ rfl) d_Exprs_literal_32 ?_
  refine mv_iload_n (pc := 35) B d_Exprs_literal_35 rfl 1 rfl ?_
  obtain ⟨q9, hf⟩ := xix_e hf
  refine mv_lald (pc := 36) B rfl (xin q9 (by decide)) d_Exprs_literal_36 ?_
  obtain ⟨v10, ev10, hf⟩ := xer_e hf
  refine mvn_topl (xfb_6 q9 ev10) ?_
  refine mv_lstore_n (pc := 37) B d_Exprs_literal_37 rfl (by decide) rfl ?_
  refine mv_aload_n (pc := 38) B d_Exprs_literal_38 rfl 3 rfl ?_
  refine mv_getR (pc := 39) (ci := 6) (C := R_Exprs) (T := F_Exprs) (N := 11) B 0 rfl rfl (by decide) i_Exprs (B.2.2.2.1 _ k_193) rfl (hb.1.1 22 0 _ rfl) d_Exprs_literal_39 ?_
  refine mv_getR (pc := 42) (ci := 2) (C := R_Tokens) (T := F_Tokens) (N := 10) B 2 rfl rfl (by decide) i_Tokens (B.2.2.2.1 _ k_95) rfl (hb.1.1 3 2 _ rfl) d_Exprs_literal_42 ?_
  refine mv_iload_n (pc := 45) B d_Exprs_literal_45 rfl 1 rfl ?_
  obtain ⟨q11, hf⟩ := xix_e hf
  refine mv_lald (pc := 46) B rfl (xin q11 (by decide)) d_Exprs_literal_46 ?_
  obtain ⟨v12, ev12, hf⟩ := xer_e hf
  refine mvn_topl (xfb_6 q11 ev12) ?_
  refine mv_lstore (pc := 47) B d_Exprs_literal_47 (by decide) rfl ?_
  refine mv_aload_n (pc := 49) B d_Exprs_literal_49 rfl 4 rfl ?_
  refine mv_getR (pc := 50) (ci := 6) (C := R_Exprs) (T := F_Exprs) (N := 11) B 3 rfl rfl (by decide) i_Exprs (B.2.2.2.1 _ k_197) rfl hb.1.2.2.2 d_Exprs_literal_50 ?_
  refine mv_sipush (pc := 53) (v := nI 300) B d_Exprs_literal_53 (by decide) ?_
  refine mv_lload (pc := 56) B d_Exprs_literal_56 0 rfl ?_
  obtain ⟨v14, h13, eh13, hf⟩ := xeb_e hf
  refine mv_callVi (pc := 58) (n := 2) (ci := 7) (C := R_Program) B (mK_ok sk sv) hNs rfl rfl (cx_Program_emit l hi _ hb _ _ _ eh13) rfl (ma_goodc kc_Program_emit) (B.2.2.2.1 _ k_1425) (B.2.2.2.1 _ k_1385) (B.2.2.2.1 _ k_1386) (B.2.2.2.1 _ k_8) ⟨by decide +kernel, by decide +kernel, by decide +kernel⟩ rfl d_Exprs_literal_58 rfl (Nat.le_of_ble_eq_true rfl) ⟨by decide, by decide⟩ ⟨by decide, by decide⟩ ⟨by decide, by decide⟩ (mv_noH hno _) (fun w58 σ58 h58 => ?_)
  obtain ⟨rfl, rfl⟩ := h58
  refine mv_pop (pc := 61) B d_Exprs_literal_61 rfl ?_
  refine mv_lload_n (pc := 62) B d_Exprs_literal_62 rfl 1 rfl ?_
  refine mv_lconst (pc := 63) (v := nJ 1) B d_Exprs_literal_63 (by decide) ?_
  refine mvn_lcmp (pc := 64) B d_Exprs_literal_64 ?_
  refine mv_if_lt (pc := 65) (tgt := 76) B d_Exprs_literal_65 rfl (fun h65 => ?_) (fun h65 => ?_)
  · skip
    have hf := x_lt_t (y := 0) h65 hf
    refine mv_lpick [4, 3] rfl ?_
    exact jn76 _ _ hf
  · skip
    have hf := x_lt_f (y := 0) h65 hf
    refine mv_lload_n (pc := 68) B d_Exprs_literal_68 rfl 1 rfl ?_
    refine mv_ldc2 (pc := 69) (v := 64) B (B.2.2.2.1 _ k_1426) d_Exprs_literal_69 ?_
    refine mvn_topl (n := 64) (by decide) ?_
    refine mvn_lcmp (pc := 72) B d_Exprs_literal_72 ?_
    refine mv_if_le (pc := 73) (tgt := 90) B d_Exprs_literal_73 rfl (fun h73 => ?_) (fun h73 => ?_)
    · skip
      have hf := x_le_t (y := 0) h73 hf
      refine mv_lload (pc := 90) B d_Exprs_literal_90 0 rfl ?_
      refine mv_lload_n (pc := 92) B d_Exprs_literal_92 rfl 1 rfl ?_
      refine mvn_l2i (pc := 93) B d_Exprs_literal_93 ?_
      obtain ⟨v16, h15, eh15, hf⟩ := xeb_e hf
      refine mv_callSl (pc := 94) (n := 1) B (mK_ok sk sv) hNs (cx_Bits_mask l hi _ _ _ eh15) rfl (ma_goodc kc_Bits_mask) (B.2.2.2.1 _ k_1436) (B.2.2.2.1 _ k_1437) (B.2.2.2.1 _ k_33) ⟨by decide +kernel, by decide +kernel, by decide +kernel⟩ rfl d_Exprs_literal_94 rfl (Nat.le_of_ble_eq_true rfl) ⟨by decide, by decide⟩ ⟨by decide, by decide⟩ ⟨by decide, by decide⟩ (mv_noH hno _) (fun w94 σ94 h94 => ?_)
      obtain ⟨rfl, rfl⟩ := h94
      refine mv_ldc2 (pc := 97) (v := -1) B (B.2.2.2.1 _ k_1440) d_Exprs_literal_97 ?_
      refine mvn_topl (n := 18446744073709551615) (by decide) ?_
      refine mvn_lxor (pc := 100) B d_Exprs_literal_100 ?_
      refine mvn_land (pc := 101) B d_Exprs_literal_101 ?_
      refine mv_lconst (pc := 102) (v := nJ 0) B d_Exprs_literal_102 (by decide) ?_
      refine mvn_lcmp (pc := 103) B d_Exprs_literal_103 ?_
      refine mv_if_eq (pc := 104) (tgt := 121) B d_Exprs_literal_104 rfl (fun h104 => ?_) (fun h104 => ?_)
      · skip
        have hf := x_eq_t (y := 0) h104 hf
        refine mv_aload_n (pc := 121) B d_Exprs_literal_121 rfl 4 rfl ?_
        refine mv_lload_n (pc := 122) B d_Exprs_literal_122 rfl 1 rfl ?_
        refine mvn_l2i (pc := 123) B d_Exprs_literal_123 ?_
        obtain ⟨h17, eh17, hf⟩ := xev_e hf
        refine mv_callVv (pc := 124) (n := 1) (ci := 6) (C := R_Exprs) B (mK_ok sk sv) hNs rfl rfl (cx_Exprs_hold l hi _ hb _ _ eh17) rfl (ma_goodc kc_Exprs_hold) (B.2.2.2.1 _ k_1432) (B.2.2.2.1 _ k_1434) (B.2.2.2.1 _ ks_51) (B.2.2.2.1 _ k_7) ⟨by decide +kernel, by decide +kernel, by decide +kernel⟩ rfl d_Exprs_literal_124 rfl (Nat.le_of_ble_eq_true rfl) ⟨by decide, by decide⟩ ⟨by decide, by decide⟩ ⟨by decide, by decide⟩ (mv_noH hno _) (fun σ124 h124 => ?_)
        subst h124
        exact mv_vret (pc := 127) B hr d_Exprs_literal_127 (Nat.le_refl _) (Nat.le_refl _) ⟨rfl, xret_v hf⟩
      · skip
        have hf := x_eq_f (y := 0) h104 hf
        refine mv_aload_n (pc := 107) B d_Exprs_literal_107 rfl 4 rfl ?_
        refine mv_iload_n (pc := 108) B d_Exprs_literal_108 rfl 2 rfl ?_
        refine mv_iconst (pc := 109) (v := nI 3) B d_Exprs_literal_109 (by decide) ?_
        obtain ⟨h18, eh18, hf⟩ := xev_e hf
        refine mv_callVv (pc := 110) (n := 2) (ci := 6) (C := R_Exprs) B (mK_ok sk sv) hNs rfl rfl (cx_Exprs_tell l hi _ hb _ _ _ eh18) rfl (ma_goodc kc_Exprs_tell) (B.2.2.2.1 _ k_1427) (B.2.2.2.1 _ k_1429) (B.2.2.2.1 _ ks_50) (B.2.2.2.1 _ k_7) ⟨by decide +kernel, by decide +kernel, by decide +kernel⟩ rfl d_Exprs_literal_110 rfl (Nat.le_of_ble_eq_true rfl) ⟨by decide, by decide⟩ ⟨by decide, by decide⟩ ⟨by decide, by decide⟩ (mv_noH hno _) (fun σ110 h110 => ?_)
        subst h110
        refine mv_aload_n (pc := 113) B d_Exprs_literal_113 rfl 4 rfl ?_
        refine mv_iconst (pc := 114) (v := nI 0) B d_Exprs_literal_114 (by decide) ?_
        obtain ⟨h19, eh19, hf⟩ := xev_e hf
        refine mv_callVv (pc := 115) (n := 1) (ci := 6) (C := R_Exprs) B (mK_ok sk sv) hNs rfl rfl (cx_Exprs_hold l hi _ hb _ _ eh19) rfl (ma_goodc kc_Exprs_hold) (B.2.2.2.1 _ k_1432) (B.2.2.2.1 _ k_1434) (B.2.2.2.1 _ ks_51) (B.2.2.2.1 _ k_7) ⟨by decide +kernel, by decide +kernel, by decide +kernel⟩ rfl d_Exprs_literal_115 rfl (Nat.le_of_ble_eq_true rfl) ⟨by decide, by decide⟩ ⟨by decide, by decide⟩ ⟨by decide, by decide⟩ (mv_noH hno _) (fun σ115 h115 => ?_)
        subst h115
        refine mv_goto (pc := 118) (tgt := 127) B d_Exprs_literal_118 rfl ?_
        exact mv_vret (pc := 127) B hr d_Exprs_literal_127 (Nat.le_refl _) (Nat.le_refl _) ⟨rfl, xret_v hf⟩
    · skip
      have hf := x_le_f (y := 0) h73 hf
      refine mv_lpick [4, 3] rfl ?_
      exact jn76 _ _ hf
def g_Exprs_name_233 (h : xE) : Option (Nat × xE) := bif Nat.blt 1 2 then some (1, h) else none
def g_Exprs_name_17 (y0 : Nat) (h : xE) : Option (Nat × xE) := xeb (g_Tokens_take h 3) fun v3 h2 => bif Nat.blt v3 32770 then xer (ep_g (xL_6 h2.2) v3) fun v5 => xeb (g_Names_kindOf h2 (v5 % 4294967296)) fun v7 h6 => bif Nat.blt (v5 % 4294967296) 16448 then bif xeq v7 2 then (bif xeq y0 0 then (bif xeq v7 4 then (xeb (g_Names_maskOf h6 (v5 % 4294967296)) fun v54 h53 => xeb (g_Program_emit h53 301 v54) fun v56 h55 => xeb (g_Long_bitCount h55 v54) fun v58 h57 => xev (g_Exprs_hold h57 v58) fun h59 => g_Exprs_name_233  h59) else (bif xeq v7 3 then (xer (ep_g (xL_15 h6.2) (v5 % 4294967296)) fun v46 => xeb (g_Program_emit h6 302 (xi2l v46)) fun v48 h47 => xer (ep_g (xL_15 h6.2) (v5 % 4294967296)) fun v49 => bif Nat.blt v49 64 then xer (ep_g (xL_20 h47.2) v49) fun v51 => xev (g_Exprs_hold h47 v51) fun h52 => g_Exprs_name_233  h52 else none) else (bif xeq v7 1 then (xer (ep_g (xL_15 h6.2) (v5 % 4294967296)) fun v37 => bif Nat.blt v37 64 then xer (ep_g (xL_148 h6.2) v37) fun v39 => xeb (g_Program_emit h6 303 (xi2l v39)) fun v41 h40 => xer (ep_g (xL_15 h6.2) (v5 % 4294967296)) fun v42 => bif Nat.blt v42 64 then xer (ep_g (xL_146 h40.2) v42) fun v44 => xev (g_Exprs_hold h40 v44) fun h45 => g_Exprs_name_233  h45 else none else none) else (xev (g_Exprs_tell h6 v3 2) fun h35 => xev (g_Exprs_hold h35 0) fun h36 => g_Exprs_name_233  h36)))) else (xeb (g_Tokens_open h6 91) fun v61 h60 => xev (g_Exprs_mark h60 91 v61) fun h62 => xer (ep_g h62.1 17) fun v63 => xer (ep_g (xL_15 h6.2) (v5 % 4294967296)) fun v64 => bif Nat.blt (xsub v63 1) 1024 then xw xL_25 xS_25 h62 (xsub v63 1) v64 fun h66 => bif Nat.blt 0 2 then some (0, h66) else none else none)) else (bif xeq v7 4 then (xeb (g_Names_maskOf h6 (v5 % 4294967296)) fun v29 h28 => xeb (g_Program_emit h28 301 v29) fun v31 h30 => xeb (g_Long_bitCount h30 v29) fun v33 h32 => xev (g_Exprs_hold h32 v33) fun h34 => g_Exprs_name_233  h34) else (bif xeq v7 3 then (xer (ep_g (xL_15 h6.2) (v5 % 4294967296)) fun v21 => xeb (g_Program_emit h6 302 (xi2l v21)) fun v23 h22 => xer (ep_g (xL_15 h6.2) (v5 % 4294967296)) fun v24 => bif Nat.blt v24 64 then xer (ep_g (xL_20 h22.2) v24) fun v26 => xev (g_Exprs_hold h22 v26) fun h27 => g_Exprs_name_233  h27 else none) else (bif xeq v7 1 then (xer (ep_g (xL_15 h6.2) (v5 % 4294967296)) fun v12 => bif Nat.blt v12 64 then xer (ep_g (xL_148 h6.2) v12) fun v14 => xeb (g_Program_emit h6 303 (xi2l v14)) fun v16 h15 => xer (ep_g (xL_15 h6.2) (v5 % 4294967296)) fun v17 => bif Nat.blt v17 64 then xer (ep_g (xL_146 h15.2) v17) fun v19 => xev (g_Exprs_hold h15 v19) fun h20 => g_Exprs_name_233  h20 else none else none) else (xev (g_Exprs_tell h6 v3 2) fun h10 => xev (g_Exprs_hold h10 0) fun h11 => g_Exprs_name_233  h11)))) else none else none
def g_Exprs_name (h : xE) : Option (Nat × xE) := xeb (g_Tokens_kindBehind h) fun v69 h68 => bif xeq v69 91 then (g_Exprs_name_17 1 h68) else (g_Exprs_name_17 0 h68)
set_option maxHeartbeats 4000000 in
set_option maxRecDepth 100000 in
theorem cx_Exprs_name (l : Launch) {dA : FieldType → ClassId} {D : va_G} {al : Nat → Nat} {sk sv : Nat → Nat} (hi : mv_inj (mg dA D al me)) (b : mv_H) (hb : xR (mv_r b)) (h : xE) {rv : Nat} {rg : xE} (hf : g_Exprs_name h = some (rv, rg)) : mv_C l y_Exprs_name (Cond.code y_Exprs_name b_Exprs_name 8 (Option.some Jvm.ClassFile.FieldType.boolean) :: ma) ({ frames := 3, cells := 0, slots := 0, locals := 63 }) (mg dA D al me) (mK sk sv) [.ref (al 22)] (ab b h) (mv_Ri (fun v σ1 => v = nI rv ∧ σ1 = ab b rg)) := by
  refine mv_C.ofV (cc := b_Exprs_name) (nL := 8) (ret := (Option.some Jvm.ClassFile.FieldType.boolean)) (by decide +kernel) rfl hi (Nat.le_of_ble_eq_true rfl) ?_
  intro p e s m below meth c B hNs hr hnm hno
  have jn233 : ∀ (h : xE), g_Exprs_name_233  h = some (rv, rg) → mv_V p l e ({ frames := 3, cells := 0, slots := 0, locals := 63 }) s m ([.ref (al 22)] : List Value).toArray below meth c (mg dA D al me) 8 0 0 (mv_Q (mg dA D al me) below s 0 0 (mv_Ri (fun v σ1 => v = nI rv ∧ σ1 = ab b rg))) (ab b h) 233 [] [] := by
    intro  h hf
    unfold g_Exprs_name_233 at hf
    refine mv_iconst (pc := 233) (v := nI 1) B d_Exprs_name_233 (by decide) ?_
    obtain ⟨q1, hf⟩ := xix_e hf
    exact mv_iret (pc := 234) B hr (xz1 q1) d_Exprs_name_234 (Nat.le_refl _) (Nat.le_refl _) ⟨_, rfl, xret_i hf⟩
  have jn17 : ∀ (y0 : Nat) (h : xE), g_Exprs_name_17 y0 h = some (rv, rg) → mv_V p l e ({ frames := 3, cells := 0, slots := 0, locals := 63 }) s m ([.ref (al 22)] : List Value).toArray below meth c (mg dA D al me) 8 0 0 (mv_Q (mg dA D al me) below s 0 0 (mv_Ri (fun v σ1 => v = nI rv ∧ σ1 = ab b rg))) (ab b h) 17 [(0, .ref (al 22))] [.int (nI y0)] := by
    intro y0 h hf
    unfold g_Exprs_name_17 at hf
    refine mv_istore_n (pc := 17) B d_Exprs_name_17 rfl (by decide) rfl ?_
    refine mv_aload_n (pc := 18) B d_Exprs_name_18 rfl 1 rfl ?_
    refine mv_getR (pc := 19) (ci := 6) (C := R_Exprs) (T := F_Exprs) (N := 11) B 0 rfl rfl (by decide) i_Exprs (B.2.2.2.1 _ k_193) rfl (hb.1.1 22 0 _ rfl) d_Exprs_name_19 ?_
    refine mv_iconst (pc := 22) (v := nI 3) B d_Exprs_name_22 (by decide) ?_
    obtain ⟨v3, h2, eh2, hf⟩ := xeb_e hf
    refine mv_callVi (pc := 23) (n := 1) (ci := 2) (C := R_Tokens) B (mK_ok sk sv) hNs rfl rfl (cx_Tokens_take l hi _ hb _ _ eh2) rfl (ma_goodc kc_Tokens_take) (B.2.2.2.1 _ k_1424) (B.2.2.2.1 _ k_1267) (B.2.2.2.1 _ k_1268) (B.2.2.2.1 _ k_3) ⟨by decide +kernel, by decide +kernel, by decide +kernel⟩ rfl d_Exprs_name_23 rfl (Nat.le_of_ble_eq_true rfl) ⟨by decide, by decide⟩ ⟨by decide, by decide⟩ ⟨by decide, by decide⟩ (mv_noH hno _) (fun w23 σ23 h23 => ?_)
    obtain ⟨rfl, rfl⟩ := h23
    refine mv_istore_n (pc := 26) B d_Exprs_name_26 rfl (by decide) rfl ?_
    refine mv_aload_n (pc := 27) B d_Exprs_name_27 rfl 2 rfl ?_
    refine mv_getR (pc := 28) (ci := 6) (C := R_Exprs) (T := F_Exprs) (N := 11) B 0 rfl rfl (by decide) i_Exprs (B.2.2.2.1 _ k_193) rfl (hb.1.1 22 0 _ rfl) d_Exprs_name_28 ?_
    refine mv_getR (pc := 31) (ci := 2) (C := R_Tokens) (T := F_Tokens) (N := 10) B 2 rfl rfl (by decide) i_Tokens (B.2.2.2.1 _ k_95) rfl (hb.1.1 3 2 _ rfl) d_Exprs_name_31 ?_
    refine mv_iload_n (pc := 34) B d_Exprs_name_34 rfl 0 rfl ?_
    obtain ⟨q4, hf⟩ := xix_e hf
    refine mv_lald (pc := 35) B rfl (xin q4 (by decide)) d_Exprs_name_35 ?_
    obtain ⟨v5, ev5, hf⟩ := xer_e hf
    refine mvn_topl (xfb_6 q4 ev5) ?_
    refine mvn_l2i (pc := 36) B d_Exprs_name_36 ?_
    refine mv_istore_n (pc := 37) B d_Exprs_name_37 rfl (by decide) rfl ?_
    refine mv_aload_n (pc := 38) B d_Exprs_name_38 rfl 3 rfl ?_
    refine mv_getR (pc := 39) (ci := 6) (C := R_Exprs) (T := F_Exprs) (N := 11) B 1 rfl rfl (by decide) i_Exprs (B.2.2.2.1 _ k_194) rfl (hb.1.1 22 1 _ rfl) d_Exprs_name_39 ?_
    refine mv_iload_n (pc := 42) B d_Exprs_name_42 rfl 0 rfl ?_
    obtain ⟨v7, h6, eh6, hf⟩ := xeb_e hf
    refine mv_callVi (pc := 43) (n := 1) (ci := 4) (C := R_Names) B (mK_ok sk sv) hNs rfl rfl (cx_Names_kindOf l hi _ hb _ _ eh6) rfl (ma_goodc kc_Names_kindOf) (B.2.2.2.1 _ k_1449) (B.2.2.2.1 _ k_1317) (B.2.2.2.1 _ k_1318) (B.2.2.2.1 _ k_5) ⟨by decide +kernel, by decide +kernel, by decide +kernel⟩ rfl d_Exprs_name_43 rfl (Nat.le_of_ble_eq_true rfl) ⟨by decide, by decide⟩ ⟨by decide, by decide⟩ ⟨by decide, by decide⟩ (mv_noH hno _) (fun w43 σ43 h43 => ?_)
    obtain ⟨rfl, rfl⟩ := h43
    refine mv_istore (pc := 46) B d_Exprs_name_46 (by decide) rfl ?_
    refine mv_aload_n (pc := 48) B d_Exprs_name_48 rfl 4 rfl ?_
    refine mv_getR (pc := 49) (ci := 6) (C := R_Exprs) (T := F_Exprs) (N := 11) B 1 rfl rfl (by decide) i_Exprs (B.2.2.2.1 _ k_194) rfl (hb.1.1 22 1 _ rfl) d_Exprs_name_49 ?_
    refine mv_getR (pc := 52) (ci := 4) (C := R_Names) (T := F_Names) (N := 10) B 2 rfl rfl (by decide) i_Names (B.2.2.2.1 _ k_137) rfl (hb.1.1 13 2 _ rfl) d_Exprs_name_52 ?_
    refine mv_iload_n (pc := 55) B d_Exprs_name_55 rfl 1 rfl ?_
    obtain ⟨q8, hf⟩ := xix_e hf
    refine mv_iald (pc := 56) B rfl (xin q8 (by decide)) d_Exprs_name_56 ?_
    refine mv_istore (pc := 57) B d_Exprs_name_57 (by decide) rfl ?_
    refine mv_iload (pc := 59) B d_Exprs_name_59 1 rfl ?_
    refine mv_iconst (pc := 61) (v := nI 2) B d_Exprs_name_61 (by decide) ?_
    refine mv_icmp_ne (pc := 62) (tgt := 99) B d_Exprs_name_62 rfl (fun h62 => ?_) (fun h62 => ?_)
    · skip
      have hf := x_eq_f h62 hf
      refine mv_iload (pc := 99) B d_Exprs_name_99 1 rfl ?_
      refine mv_iconst (pc := 101) (v := nI 4) B d_Exprs_name_101 (by decide) ?_
      refine mv_icmp_ne (pc := 102) (tgt := 140) B d_Exprs_name_102 rfl (fun h102 => ?_) (fun h102 => ?_)
      · skip
        have hf := x_eq_f h102 hf
        refine mv_iload (pc := 140) B d_Exprs_name_140 1 rfl ?_
        refine mv_iconst (pc := 142) (v := nI 3) B d_Exprs_name_142 (by decide) ?_
        refine mv_icmp_ne (pc := 143) (tgt := 177) B d_Exprs_name_143 rfl (fun h143 => ?_) (fun h143 => ?_)
        · skip
          have hf := x_eq_f h143 hf
          refine mv_iload (pc := 177) B d_Exprs_name_177 1 rfl ?_
          refine mv_iconst (pc := 179) (v := nI 1) B d_Exprs_name_179 (by decide) ?_
          refine mv_icmp_ne (pc := 180) (tgt := 222) B d_Exprs_name_180 rfl (fun h180 => ?_) (fun h180 => ?_)
          · skip
            have hf := x_eq_f h180 hf
            refine mv_aload_n (pc := 222) B d_Exprs_name_222 rfl 5 rfl ?_
            refine mv_iload_n (pc := 223) B d_Exprs_name_223 rfl 3 rfl ?_
            refine mv_iconst (pc := 224) (v := nI 2) B d_Exprs_name_224 (by decide) ?_
            obtain ⟨h10, eh10, hf⟩ := xev_e hf
            refine mv_callVv (pc := 225) (n := 2) (ci := 6) (C := R_Exprs) B (mK_ok sk sv) hNs rfl rfl (cx_Exprs_tell l hi _ hb _ _ _ eh10) rfl (ma_goodc kc_Exprs_tell) (B.2.2.2.1 _ k_1427) (B.2.2.2.1 _ k_1429) (B.2.2.2.1 _ ks_50) (B.2.2.2.1 _ k_7) ⟨by decide +kernel, by decide +kernel, by decide +kernel⟩ rfl d_Exprs_name_225 rfl (Nat.le_of_ble_eq_true rfl) ⟨by decide, by decide⟩ ⟨by decide, by decide⟩ ⟨by decide, by decide⟩ (mv_noH hno _) (fun σ225 h225 => ?_)
            subst h225
            refine mv_aload_n (pc := 228) B d_Exprs_name_228 rfl 5 rfl ?_
            refine mv_iconst (pc := 229) (v := nI 0) B d_Exprs_name_229 (by decide) ?_
            obtain ⟨h11, eh11, hf⟩ := xev_e hf
            refine mv_callVv (pc := 230) (n := 1) (ci := 6) (C := R_Exprs) B (mK_ok sk sv) hNs rfl rfl (cx_Exprs_hold l hi _ hb _ _ eh11) rfl (ma_goodc kc_Exprs_hold) (B.2.2.2.1 _ k_1432) (B.2.2.2.1 _ k_1434) (B.2.2.2.1 _ ks_51) (B.2.2.2.1 _ k_7) ⟨by decide +kernel, by decide +kernel, by decide +kernel⟩ rfl d_Exprs_name_230 rfl (Nat.le_of_ble_eq_true rfl) ⟨by decide, by decide⟩ ⟨by decide, by decide⟩ ⟨by decide, by decide⟩ (mv_noH hno _) (fun σ230 h230 => ?_)
            subst h230
            refine mv_lpick [] rfl ?_
            exact jn233  _ hf
          · skip
            have hf := x_eq_t h180 hf
            refine mv_aload_n (pc := 183) B d_Exprs_name_183 rfl 5 rfl ?_
            refine mv_getR (pc := 184) (ci := 6) (C := R_Exprs) (T := F_Exprs) (N := 11) B 3 rfl rfl (by decide) i_Exprs (B.2.2.2.1 _ k_197) rfl hb.1.2.2.2 d_Exprs_name_184 ?_
            refine mv_sipush (pc := 187) (v := nI 303) B d_Exprs_name_187 (by decide) ?_
            refine mv_aload_n (pc := 190) B d_Exprs_name_190 rfl 5 rfl ?_
            refine mv_getR (pc := 191) (ci := 6) (C := R_Exprs) (T := F_Exprs) (N := 11) B 3 rfl rfl (by decide) i_Exprs (B.2.2.2.1 _ k_197) rfl hb.1.2.2.2 d_Exprs_name_191 ?_
            refine mv_getR (pc := 194) (ci := 7) (C := R_Program) (T := F_Program) (N := 19) B 4 rfl rfl (by decide) i_Program (B.2.2.2.1 _ k_328) rfl (hb.1.2.1 145 4 148 rfl) d_Exprs_name_194 ?_
            refine mv_iload (pc := 197) B d_Exprs_name_197 0 rfl ?_
            obtain ⟨v12, ev12, hf⟩ := xer_e hf
            refine mvn_top (xfa_15 q8 ev12) ?_
            obtain ⟨q13, hf⟩ := xix_e hf
            refine mv_iald (pc := 199) B rfl (xin q13 (by decide)) d_Exprs_name_199 ?_
            obtain ⟨v14, ev14, hf⟩ := xer_e hf
            refine mvn_top (xfa_148 q13 ev14) ?_
            refine mvn_i2l (pc := 200) B d_Exprs_name_200 ?_
            obtain ⟨v16, h15, eh15, hf⟩ := xeb_e hf
            refine mv_callVi (pc := 201) (n := 2) (ci := 7) (C := R_Program) B (mK_ok sk sv) hNs rfl rfl (cx_Program_emit l hi _ hb _ _ _ eh15) rfl (ma_goodc kc_Program_emit) (B.2.2.2.1 _ k_1425) (B.2.2.2.1 _ k_1385) (B.2.2.2.1 _ k_1386) (B.2.2.2.1 _ k_8) ⟨by decide +kernel, by decide +kernel, by decide +kernel⟩ rfl d_Exprs_name_201 rfl (Nat.le_of_ble_eq_true rfl) ⟨by decide, by decide⟩ ⟨by decide, by decide⟩ ⟨by decide, by decide⟩ (mv_noH hno _) (fun w201 σ201 h201 => ?_)
            obtain ⟨rfl, rfl⟩ := h201
            refine mv_pop (pc := 204) B d_Exprs_name_204 rfl ?_
            refine mv_aload_n (pc := 205) B d_Exprs_name_205 rfl 5 rfl ?_
            refine mv_aload_n (pc := 206) B d_Exprs_name_206 rfl 5 rfl ?_
            refine mv_getR (pc := 207) (ci := 6) (C := R_Exprs) (T := F_Exprs) (N := 11) B 3 rfl rfl (by decide) i_Exprs (B.2.2.2.1 _ k_197) rfl hb.1.2.2.2 d_Exprs_name_207 ?_
            refine mv_getR (pc := 210) (ci := 7) (C := R_Program) (T := F_Program) (N := 19) B 2 rfl rfl (by decide) i_Program (B.2.2.2.1 _ k_320) rfl (hb.1.2.1 145 2 146 rfl) d_Exprs_name_210 ?_
            refine mv_iload (pc := 213) B d_Exprs_name_213 0 rfl ?_
            obtain ⟨v17, ev17, hf⟩ := xer_e hf
            refine mvn_top (xfa_15 q8 ev17) ?_
            obtain ⟨q18, hf⟩ := xix_e hf
            refine mv_iald (pc := 215) B rfl (xin q18 (by decide)) d_Exprs_name_215 ?_
            obtain ⟨v19, ev19, hf⟩ := xer_e hf
            refine mvn_top (xfa_146 q18 ev19) ?_
            obtain ⟨h20, eh20, hf⟩ := xev_e hf
            refine mv_callVv (pc := 216) (n := 1) (ci := 6) (C := R_Exprs) B (mK_ok sk sv) hNs rfl rfl (cx_Exprs_hold l hi _ hb _ _ eh20) rfl (ma_goodc kc_Exprs_hold) (B.2.2.2.1 _ k_1432) (B.2.2.2.1 _ k_1434) (B.2.2.2.1 _ ks_51) (B.2.2.2.1 _ k_7) ⟨by decide +kernel, by decide +kernel, by decide +kernel⟩ rfl d_Exprs_name_216 rfl (Nat.le_of_ble_eq_true rfl) ⟨by decide, by decide⟩ ⟨by decide, by decide⟩ ⟨by decide, by decide⟩ (mv_noH hno _) (fun σ216 h216 => ?_)
            subst h216
            refine mv_goto (pc := 219) (tgt := 233) B d_Exprs_name_219 rfl ?_
            refine mv_lpick [] rfl ?_
            exact jn233  _ hf
        · skip
          have hf := x_eq_t h143 hf
          refine mv_aload_n (pc := 146) B d_Exprs_name_146 rfl 5 rfl ?_
          refine mv_getR (pc := 147) (ci := 6) (C := R_Exprs) (T := F_Exprs) (N := 11) B 3 rfl rfl (by decide) i_Exprs (B.2.2.2.1 _ k_197) rfl hb.1.2.2.2 d_Exprs_name_147 ?_
          refine mv_sipush (pc := 150) (v := nI 302) B d_Exprs_name_150 (by decide) ?_
          refine mv_iload (pc := 153) B d_Exprs_name_153 0 rfl ?_
          obtain ⟨v21, ev21, hf⟩ := xer_e hf
          refine mvn_top (xfa_15 q8 ev21) ?_
          refine mvn_i2l (pc := 155) B d_Exprs_name_155 ?_
          obtain ⟨v23, h22, eh22, hf⟩ := xeb_e hf
          refine mv_callVi (pc := 156) (n := 2) (ci := 7) (C := R_Program) B (mK_ok sk sv) hNs rfl rfl (cx_Program_emit l hi _ hb _ _ _ eh22) rfl (ma_goodc kc_Program_emit) (B.2.2.2.1 _ k_1425) (B.2.2.2.1 _ k_1385) (B.2.2.2.1 _ k_1386) (B.2.2.2.1 _ k_8) ⟨by decide +kernel, by decide +kernel, by decide +kernel⟩ rfl d_Exprs_name_156 rfl (Nat.le_of_ble_eq_true rfl) ⟨by decide, by decide⟩ ⟨by decide, by decide⟩ ⟨by decide, by decide⟩ (mv_noH hno _) (fun w156 σ156 h156 => ?_)
          obtain ⟨rfl, rfl⟩ := h156
          refine mv_pop (pc := 159) B d_Exprs_name_159 rfl ?_
          refine mv_aload_n (pc := 160) B d_Exprs_name_160 rfl 5 rfl ?_
          refine mv_aload_n (pc := 161) B d_Exprs_name_161 rfl 5 rfl ?_
          refine mv_getR (pc := 162) (ci := 6) (C := R_Exprs) (T := F_Exprs) (N := 11) B 1 rfl rfl (by decide) i_Exprs (B.2.2.2.1 _ k_194) rfl (hb.1.1 22 1 _ rfl) d_Exprs_name_162 ?_
          refine mv_getR (pc := 165) (ci := 4) (C := R_Names) (T := F_Names) (N := 10) B 8 rfl rfl (by decide) i_Names (B.2.2.2.1 _ k_147) rfl (hb.1.1 13 8 _ rfl) d_Exprs_name_165 ?_
          refine mv_iload (pc := 168) B d_Exprs_name_168 0 rfl ?_
          obtain ⟨v24, ev24, hf⟩ := xer_e hf
          refine mvn_top (xfa_15 q8 ev24) ?_
          obtain ⟨q25, hf⟩ := xix_e hf
          refine mv_iald (pc := 170) B rfl (xin q25 (by decide)) d_Exprs_name_170 ?_
          obtain ⟨v26, ev26, hf⟩ := xer_e hf
          refine mvn_top (xfa_20 q25 ev26) ?_
          obtain ⟨h27, eh27, hf⟩ := xev_e hf
          refine mv_callVv (pc := 171) (n := 1) (ci := 6) (C := R_Exprs) B (mK_ok sk sv) hNs rfl rfl (cx_Exprs_hold l hi _ hb _ _ eh27) rfl (ma_goodc kc_Exprs_hold) (B.2.2.2.1 _ k_1432) (B.2.2.2.1 _ k_1434) (B.2.2.2.1 _ ks_51) (B.2.2.2.1 _ k_7) ⟨by decide +kernel, by decide +kernel, by decide +kernel⟩ rfl d_Exprs_name_171 rfl (Nat.le_of_ble_eq_true rfl) ⟨by decide, by decide⟩ ⟨by decide, by decide⟩ ⟨by decide, by decide⟩ (mv_noH hno _) (fun σ171 h171 => ?_)
          subst h171
          refine mv_goto (pc := 174) (tgt := 233) B d_Exprs_name_174 rfl ?_
          refine mv_lpick [] rfl ?_
          exact jn233  _ hf
      · skip
        have hf := x_eq_t h102 hf
        refine mv_aload_n (pc := 105) B d_Exprs_name_105 rfl 5 rfl ?_
        refine mv_getR (pc := 106) (ci := 6) (C := R_Exprs) (T := F_Exprs) (N := 11) B 1 rfl rfl (by decide) i_Exprs (B.2.2.2.1 _ k_194) rfl (hb.1.1 22 1 _ rfl) d_Exprs_name_106 ?_
        refine mv_iload_n (pc := 109) B d_Exprs_name_109 rfl 2 rfl ?_
        obtain ⟨v29, h28, eh28, hf⟩ := xeb_e hf
        refine mv_callVl (pc := 110) (n := 1) (ci := 4) (C := R_Names) B (mK_ok sk sv) hNs rfl rfl (cx_Names_maskOf l hi _ hb _ _ eh28) rfl (ma_goodc kc_Names_maskOf) (B.2.2.2.1 _ k_1450) (B.2.2.2.1 _ k_1451) (B.2.2.2.1 _ k_1452) (B.2.2.2.1 _ k_5) ⟨by decide +kernel, by decide +kernel, by decide +kernel⟩ rfl d_Exprs_name_110 rfl (Nat.le_of_ble_eq_true rfl) ⟨by decide, by decide⟩ ⟨by decide, by decide⟩ ⟨by decide, by decide⟩ (mv_noH hno _) (fun w110 σ110 h110 => ?_)
        obtain ⟨rfl, rfl⟩ := h110
        refine mv_lstore (pc := 113) B d_Exprs_name_113 (by decide) rfl ?_
        refine mv_aload_n (pc := 115) B d_Exprs_name_115 rfl 6 rfl ?_
        refine mv_getR (pc := 116) (ci := 6) (C := R_Exprs) (T := F_Exprs) (N := 11) B 3 rfl rfl (by decide) i_Exprs (B.2.2.2.1 _ k_197) rfl hb.1.2.2.2 d_Exprs_name_116 ?_
        refine mv_sipush (pc := 119) (v := nI 301) B d_Exprs_name_119 (by decide) ?_
        refine mv_lload (pc := 122) B d_Exprs_name_122 0 rfl ?_
        obtain ⟨v31, h30, eh30, hf⟩ := xeb_e hf
        refine mv_callVi (pc := 124) (n := 2) (ci := 7) (C := R_Program) B (mK_ok sk sv) hNs rfl rfl (cx_Program_emit l hi _ hb _ _ _ eh30) rfl (ma_goodc kc_Program_emit) (B.2.2.2.1 _ k_1425) (B.2.2.2.1 _ k_1385) (B.2.2.2.1 _ k_1386) (B.2.2.2.1 _ k_8) ⟨by decide +kernel, by decide +kernel, by decide +kernel⟩ rfl d_Exprs_name_124 rfl (Nat.le_of_ble_eq_true rfl) ⟨by decide, by decide⟩ ⟨by decide, by decide⟩ ⟨by decide, by decide⟩ (mv_noH hno _) (fun w124 σ124 h124 => ?_)
        obtain ⟨rfl, rfl⟩ := h124
        refine mv_pop (pc := 127) B d_Exprs_name_127 rfl ?_
        refine mv_aload_n (pc := 128) B d_Exprs_name_128 rfl 6 rfl ?_
        refine mv_lload (pc := 129) B d_Exprs_name_129 0 rfl ?_
        obtain ⟨v33, h32, eh32, hf⟩ := xeb_e hf
        refine mv_callSi (pc := 131) (n := 1) B (mK_ok sk sv) hNs (cx_Long_bitCount l hi _ _ _ eh32) rfl (ma_goodc kc_Long_bitCount) (B.2.2.2.1 _ k_1454) (B.2.2.2.1 _ k_424) (B.2.2.2.1 _ k_10) ⟨by decide +kernel, by decide +kernel, by decide +kernel⟩ rfl d_Exprs_name_131 rfl (Nat.le_of_ble_eq_true rfl) ⟨by decide, by decide⟩ ⟨by decide, by decide⟩ ⟨by decide, by decide⟩ (mv_noH hno _) (fun w131 σ131 h131 => ?_)
        obtain ⟨rfl, rfl⟩ := h131
        obtain ⟨h34, eh34, hf⟩ := xev_e hf
        refine mv_callVv (pc := 134) (n := 1) (ci := 6) (C := R_Exprs) B (mK_ok sk sv) hNs rfl rfl (cx_Exprs_hold l hi _ hb _ _ eh34) rfl (ma_goodc kc_Exprs_hold) (B.2.2.2.1 _ k_1432) (B.2.2.2.1 _ k_1434) (B.2.2.2.1 _ ks_51) (B.2.2.2.1 _ k_7) ⟨by decide +kernel, by decide +kernel, by decide +kernel⟩ rfl d_Exprs_name_134 rfl (Nat.le_of_ble_eq_true rfl) ⟨by decide, by decide⟩ ⟨by decide, by decide⟩ ⟨by decide, by decide⟩ (mv_noH hno _) (fun σ134 h134 => ?_)
        subst h134
        refine mv_goto (pc := 137) (tgt := 233) B d_Exprs_name_137 rfl ?_
        refine mv_lpick [] rfl ?_
        exact jn233  _ hf
    · skip
      have hf := x_eq_t h62 hf
      refine mv_iload_n (pc := 65) B d_Exprs_name_65 rfl 4 rfl ?_
      refine mv_if_eq (pc := 66) (tgt := 99) B d_Exprs_name_66 rfl (fun h66 => ?_) (fun h66 => ?_)
      · skip
        have hf := x_eq_t (y := 0) h66 hf
        refine mv_iload (pc := 99) B d_Exprs_name_99 1 rfl ?_
        refine mv_iconst (pc := 101) (v := nI 4) B d_Exprs_name_101 (by decide) ?_
        refine mv_icmp_ne (pc := 102) (tgt := 140) B d_Exprs_name_102 rfl (fun h102 => ?_) (fun h102 => ?_)
        · skip
          have hf := x_eq_f h102 hf
          refine mv_iload (pc := 140) B d_Exprs_name_140 1 rfl ?_
          refine mv_iconst (pc := 142) (v := nI 3) B d_Exprs_name_142 (by decide) ?_
          refine mv_icmp_ne (pc := 143) (tgt := 177) B d_Exprs_name_143 rfl (fun h143 => ?_) (fun h143 => ?_)
          · skip
            have hf := x_eq_f h143 hf
            refine mv_iload (pc := 177) B d_Exprs_name_177 1 rfl ?_
            refine mv_iconst (pc := 179) (v := nI 1) B d_Exprs_name_179 (by decide) ?_
            refine mv_icmp_ne (pc := 180) (tgt := 222) B d_Exprs_name_180 rfl (fun h180 => ?_) (fun h180 => ?_)
            · skip
              have hf := x_eq_f h180 hf
              refine mv_aload_n (pc := 222) B d_Exprs_name_222 rfl 5 rfl ?_
              refine mv_iload_n (pc := 223) B d_Exprs_name_223 rfl 3 rfl ?_
              refine mv_iconst (pc := 224) (v := nI 2) B d_Exprs_name_224 (by decide) ?_
              obtain ⟨h35, eh35, hf⟩ := xev_e hf
              refine mv_callVv (pc := 225) (n := 2) (ci := 6) (C := R_Exprs) B (mK_ok sk sv) hNs rfl rfl (cx_Exprs_tell l hi _ hb _ _ _ eh35) rfl (ma_goodc kc_Exprs_tell) (B.2.2.2.1 _ k_1427) (B.2.2.2.1 _ k_1429) (B.2.2.2.1 _ ks_50) (B.2.2.2.1 _ k_7) ⟨by decide +kernel, by decide +kernel, by decide +kernel⟩ rfl d_Exprs_name_225 rfl (Nat.le_of_ble_eq_true rfl) ⟨by decide, by decide⟩ ⟨by decide, by decide⟩ ⟨by decide, by decide⟩ (mv_noH hno _) (fun σ225 h225 => ?_)
              subst h225
              refine mv_aload_n (pc := 228) B d_Exprs_name_228 rfl 5 rfl ?_
              refine mv_iconst (pc := 229) (v := nI 0) B d_Exprs_name_229 (by decide) ?_
              obtain ⟨h36, eh36, hf⟩ := xev_e hf
              refine mv_callVv (pc := 230) (n := 1) (ci := 6) (C := R_Exprs) B (mK_ok sk sv) hNs rfl rfl (cx_Exprs_hold l hi _ hb _ _ eh36) rfl (ma_goodc kc_Exprs_hold) (B.2.2.2.1 _ k_1432) (B.2.2.2.1 _ k_1434) (B.2.2.2.1 _ ks_51) (B.2.2.2.1 _ k_7) ⟨by decide +kernel, by decide +kernel, by decide +kernel⟩ rfl d_Exprs_name_230 rfl (Nat.le_of_ble_eq_true rfl) ⟨by decide, by decide⟩ ⟨by decide, by decide⟩ ⟨by decide, by decide⟩ (mv_noH hno _) (fun σ230 h230 => ?_)
              subst h230
              refine mv_lpick [] rfl ?_
              exact jn233  _ hf
            · skip
              have hf := x_eq_t h180 hf
              refine mv_aload_n (pc := 183) B d_Exprs_name_183 rfl 5 rfl ?_
              refine mv_getR (pc := 184) (ci := 6) (C := R_Exprs) (T := F_Exprs) (N := 11) B 3 rfl rfl (by decide) i_Exprs (B.2.2.2.1 _ k_197) rfl hb.1.2.2.2 d_Exprs_name_184 ?_
              refine mv_sipush (pc := 187) (v := nI 303) B d_Exprs_name_187 (by decide) ?_
              refine mv_aload_n (pc := 190) B d_Exprs_name_190 rfl 5 rfl ?_
              refine mv_getR (pc := 191) (ci := 6) (C := R_Exprs) (T := F_Exprs) (N := 11) B 3 rfl rfl (by decide) i_Exprs (B.2.2.2.1 _ k_197) rfl hb.1.2.2.2 d_Exprs_name_191 ?_
              refine mv_getR (pc := 194) (ci := 7) (C := R_Program) (T := F_Program) (N := 19) B 4 rfl rfl (by decide) i_Program (B.2.2.2.1 _ k_328) rfl (hb.1.2.1 145 4 148 rfl) d_Exprs_name_194 ?_
              refine mv_iload (pc := 197) B d_Exprs_name_197 0 rfl ?_
              obtain ⟨v37, ev37, hf⟩ := xer_e hf
              refine mvn_top (xfa_15 q8 ev37) ?_
              obtain ⟨q38, hf⟩ := xix_e hf
              refine mv_iald (pc := 199) B rfl (xin q38 (by decide)) d_Exprs_name_199 ?_
              obtain ⟨v39, ev39, hf⟩ := xer_e hf
              refine mvn_top (xfa_148 q38 ev39) ?_
              refine mvn_i2l (pc := 200) B d_Exprs_name_200 ?_
              obtain ⟨v41, h40, eh40, hf⟩ := xeb_e hf
              refine mv_callVi (pc := 201) (n := 2) (ci := 7) (C := R_Program) B (mK_ok sk sv) hNs rfl rfl (cx_Program_emit l hi _ hb _ _ _ eh40) rfl (ma_goodc kc_Program_emit) (B.2.2.2.1 _ k_1425) (B.2.2.2.1 _ k_1385) (B.2.2.2.1 _ k_1386) (B.2.2.2.1 _ k_8) ⟨by decide +kernel, by decide +kernel, by decide +kernel⟩ rfl d_Exprs_name_201 rfl (Nat.le_of_ble_eq_true rfl) ⟨by decide, by decide⟩ ⟨by decide, by decide⟩ ⟨by decide, by decide⟩ (mv_noH hno _) (fun w201 σ201 h201 => ?_)
              obtain ⟨rfl, rfl⟩ := h201
              refine mv_pop (pc := 204) B d_Exprs_name_204 rfl ?_
              refine mv_aload_n (pc := 205) B d_Exprs_name_205 rfl 5 rfl ?_
              refine mv_aload_n (pc := 206) B d_Exprs_name_206 rfl 5 rfl ?_
              refine mv_getR (pc := 207) (ci := 6) (C := R_Exprs) (T := F_Exprs) (N := 11) B 3 rfl rfl (by decide) i_Exprs (B.2.2.2.1 _ k_197) rfl hb.1.2.2.2 d_Exprs_name_207 ?_
              refine mv_getR (pc := 210) (ci := 7) (C := R_Program) (T := F_Program) (N := 19) B 2 rfl rfl (by decide) i_Program (B.2.2.2.1 _ k_320) rfl (hb.1.2.1 145 2 146 rfl) d_Exprs_name_210 ?_
              refine mv_iload (pc := 213) B d_Exprs_name_213 0 rfl ?_
              obtain ⟨v42, ev42, hf⟩ := xer_e hf
              refine mvn_top (xfa_15 q8 ev42) ?_
              obtain ⟨q43, hf⟩ := xix_e hf
              refine mv_iald (pc := 215) B rfl (xin q43 (by decide)) d_Exprs_name_215 ?_
              obtain ⟨v44, ev44, hf⟩ := xer_e hf
              refine mvn_top (xfa_146 q43 ev44) ?_
              obtain ⟨h45, eh45, hf⟩ := xev_e hf
              refine mv_callVv (pc := 216) (n := 1) (ci := 6) (C := R_Exprs) B (mK_ok sk sv) hNs rfl rfl (cx_Exprs_hold l hi _ hb _ _ eh45) rfl (ma_goodc kc_Exprs_hold) (B.2.2.2.1 _ k_1432) (B.2.2.2.1 _ k_1434) (B.2.2.2.1 _ ks_51) (B.2.2.2.1 _ k_7) ⟨by decide +kernel, by decide +kernel, by decide +kernel⟩ rfl d_Exprs_name_216 rfl (Nat.le_of_ble_eq_true rfl) ⟨by decide, by decide⟩ ⟨by decide, by decide⟩ ⟨by decide, by decide⟩ (mv_noH hno _) (fun σ216 h216 => ?_)
              subst h216
              refine mv_goto (pc := 219) (tgt := 233) B d_Exprs_name_219 rfl ?_
              refine mv_lpick [] rfl ?_
              exact jn233  _ hf
          · skip
            have hf := x_eq_t h143 hf
            refine mv_aload_n (pc := 146) B d_Exprs_name_146 rfl 5 rfl ?_
            refine mv_getR (pc := 147) (ci := 6) (C := R_Exprs) (T := F_Exprs) (N := 11) B 3 rfl rfl (by decide) i_Exprs (B.2.2.2.1 _ k_197) rfl hb.1.2.2.2 d_Exprs_name_147 ?_
            refine mv_sipush (pc := 150) (v := nI 302) B d_Exprs_name_150 (by decide) ?_
            refine mv_iload (pc := 153) B d_Exprs_name_153 0 rfl ?_
            obtain ⟨v46, ev46, hf⟩ := xer_e hf
            refine mvn_top (xfa_15 q8 ev46) ?_
            refine mvn_i2l (pc := 155) B d_Exprs_name_155 ?_
            obtain ⟨v48, h47, eh47, hf⟩ := xeb_e hf
            refine mv_callVi (pc := 156) (n := 2) (ci := 7) (C := R_Program) B (mK_ok sk sv) hNs rfl rfl (cx_Program_emit l hi _ hb _ _ _ eh47) rfl (ma_goodc kc_Program_emit) (B.2.2.2.1 _ k_1425) (B.2.2.2.1 _ k_1385) (B.2.2.2.1 _ k_1386) (B.2.2.2.1 _ k_8) ⟨by decide +kernel, by decide +kernel, by decide +kernel⟩ rfl d_Exprs_name_156 rfl (Nat.le_of_ble_eq_true rfl) ⟨by decide, by decide⟩ ⟨by decide, by decide⟩ ⟨by decide, by decide⟩ (mv_noH hno _) (fun w156 σ156 h156 => ?_)
            obtain ⟨rfl, rfl⟩ := h156
            refine mv_pop (pc := 159) B d_Exprs_name_159 rfl ?_
            refine mv_aload_n (pc := 160) B d_Exprs_name_160 rfl 5 rfl ?_
            refine mv_aload_n (pc := 161) B d_Exprs_name_161 rfl 5 rfl ?_
            refine mv_getR (pc := 162) (ci := 6) (C := R_Exprs) (T := F_Exprs) (N := 11) B 1 rfl rfl (by decide) i_Exprs (B.2.2.2.1 _ k_194) rfl (hb.1.1 22 1 _ rfl) d_Exprs_name_162 ?_
            refine mv_getR (pc := 165) (ci := 4) (C := R_Names) (T := F_Names) (N := 10) B 8 rfl rfl (by decide) i_Names (B.2.2.2.1 _ k_147) rfl (hb.1.1 13 8 _ rfl) d_Exprs_name_165 ?_
            refine mv_iload (pc := 168) B d_Exprs_name_168 0 rfl ?_
            obtain ⟨v49, ev49, hf⟩ := xer_e hf
            refine mvn_top (xfa_15 q8 ev49) ?_
            obtain ⟨q50, hf⟩ := xix_e hf
            refine mv_iald (pc := 170) B rfl (xin q50 (by decide)) d_Exprs_name_170 ?_
            obtain ⟨v51, ev51, hf⟩ := xer_e hf
            refine mvn_top (xfa_20 q50 ev51) ?_
            obtain ⟨h52, eh52, hf⟩ := xev_e hf
            refine mv_callVv (pc := 171) (n := 1) (ci := 6) (C := R_Exprs) B (mK_ok sk sv) hNs rfl rfl (cx_Exprs_hold l hi _ hb _ _ eh52) rfl (ma_goodc kc_Exprs_hold) (B.2.2.2.1 _ k_1432) (B.2.2.2.1 _ k_1434) (B.2.2.2.1 _ ks_51) (B.2.2.2.1 _ k_7) ⟨by decide +kernel, by decide +kernel, by decide +kernel⟩ rfl d_Exprs_name_171 rfl (Nat.le_of_ble_eq_true rfl) ⟨by decide, by decide⟩ ⟨by decide, by decide⟩ ⟨by decide, by decide⟩ (mv_noH hno _) (fun σ171 h171 => ?_)
            subst h171
            refine mv_goto (pc := 174) (tgt := 233) B d_Exprs_name_174 rfl ?_
            refine mv_lpick [] rfl ?_
            exact jn233  _ hf
        · skip
          have hf := x_eq_t h102 hf
          refine mv_aload_n (pc := 105) B d_Exprs_name_105 rfl 5 rfl ?_
          refine mv_getR (pc := 106) (ci := 6) (C := R_Exprs) (T := F_Exprs) (N := 11) B 1 rfl rfl (by decide) i_Exprs (B.2.2.2.1 _ k_194) rfl (hb.1.1 22 1 _ rfl) d_Exprs_name_106 ?_
          refine mv_iload_n (pc := 109) B d_Exprs_name_109 rfl 2 rfl ?_
          obtain ⟨v54, h53, eh53, hf⟩ := xeb_e hf
          refine mv_callVl (pc := 110) (n := 1) (ci := 4) (C := R_Names) B (mK_ok sk sv) hNs rfl rfl (cx_Names_maskOf l hi _ hb _ _ eh53) rfl (ma_goodc kc_Names_maskOf) (B.2.2.2.1 _ k_1450) (B.2.2.2.1 _ k_1451) (B.2.2.2.1 _ k_1452) (B.2.2.2.1 _ k_5) ⟨by decide +kernel, by decide +kernel, by decide +kernel⟩ rfl d_Exprs_name_110 rfl (Nat.le_of_ble_eq_true rfl) ⟨by decide, by decide⟩ ⟨by decide, by decide⟩ ⟨by decide, by decide⟩ (mv_noH hno _) (fun w110 σ110 h110 => ?_)
          obtain ⟨rfl, rfl⟩ := h110
          refine mv_lstore (pc := 113) B d_Exprs_name_113 (by decide) rfl ?_
          refine mv_aload_n (pc := 115) B d_Exprs_name_115 rfl 6 rfl ?_
          refine mv_getR (pc := 116) (ci := 6) (C := R_Exprs) (T := F_Exprs) (N := 11) B 3 rfl rfl (by decide) i_Exprs (B.2.2.2.1 _ k_197) rfl hb.1.2.2.2 d_Exprs_name_116 ?_
          refine mv_sipush (pc := 119) (v := nI 301) B d_Exprs_name_119 (by decide) ?_
          refine mv_lload (pc := 122) B d_Exprs_name_122 0 rfl ?_
          obtain ⟨v56, h55, eh55, hf⟩ := xeb_e hf
          refine mv_callVi (pc := 124) (n := 2) (ci := 7) (C := R_Program) B (mK_ok sk sv) hNs rfl rfl (cx_Program_emit l hi _ hb _ _ _ eh55) rfl (ma_goodc kc_Program_emit) (B.2.2.2.1 _ k_1425) (B.2.2.2.1 _ k_1385) (B.2.2.2.1 _ k_1386) (B.2.2.2.1 _ k_8) ⟨by decide +kernel, by decide +kernel, by decide +kernel⟩ rfl d_Exprs_name_124 rfl (Nat.le_of_ble_eq_true rfl) ⟨by decide, by decide⟩ ⟨by decide, by decide⟩ ⟨by decide, by decide⟩ (mv_noH hno _) (fun w124 σ124 h124 => ?_)
          obtain ⟨rfl, rfl⟩ := h124
          refine mv_pop (pc := 127) B d_Exprs_name_127 rfl ?_
          refine mv_aload_n (pc := 128) B d_Exprs_name_128 rfl 6 rfl ?_
          refine mv_lload (pc := 129) B d_Exprs_name_129 0 rfl ?_
          obtain ⟨v58, h57, eh57, hf⟩ := xeb_e hf
          refine mv_callSi (pc := 131) (n := 1) B (mK_ok sk sv) hNs (cx_Long_bitCount l hi _ _ _ eh57) rfl (ma_goodc kc_Long_bitCount) (B.2.2.2.1 _ k_1454) (B.2.2.2.1 _ k_424) (B.2.2.2.1 _ k_10) ⟨by decide +kernel, by decide +kernel, by decide +kernel⟩ rfl d_Exprs_name_131 rfl (Nat.le_of_ble_eq_true rfl) ⟨by decide, by decide⟩ ⟨by decide, by decide⟩ ⟨by decide, by decide⟩ (mv_noH hno _) (fun w131 σ131 h131 => ?_)
          obtain ⟨rfl, rfl⟩ := h131
          obtain ⟨h59, eh59, hf⟩ := xev_e hf
          refine mv_callVv (pc := 134) (n := 1) (ci := 6) (C := R_Exprs) B (mK_ok sk sv) hNs rfl rfl (cx_Exprs_hold l hi _ hb _ _ eh59) rfl (ma_goodc kc_Exprs_hold) (B.2.2.2.1 _ k_1432) (B.2.2.2.1 _ k_1434) (B.2.2.2.1 _ ks_51) (B.2.2.2.1 _ k_7) ⟨by decide +kernel, by decide +kernel, by decide +kernel⟩ rfl d_Exprs_name_134 rfl (Nat.le_of_ble_eq_true rfl) ⟨by decide, by decide⟩ ⟨by decide, by decide⟩ ⟨by decide, by decide⟩ (mv_noH hno _) (fun σ134 h134 => ?_)
          subst h134
          refine mv_goto (pc := 137) (tgt := 233) B d_Exprs_name_137 rfl ?_
          refine mv_lpick [] rfl ?_
          exact jn233  _ hf
      · skip
        have hf := x_eq_f (y := 0) h66 hf
        refine mv_aload_n (pc := 69) B d_Exprs_name_69 rfl 5 rfl ?_
        refine mv_bipush (pc := 70) (v := nI 91) B d_Exprs_name_70 (by decide) ?_
        refine mv_aload_n (pc := 72) B d_Exprs_name_72 rfl 5 rfl ?_
        refine mv_getR (pc := 73) (ci := 6) (C := R_Exprs) (T := F_Exprs) (N := 11) B 0 rfl rfl (by decide) i_Exprs (B.2.2.2.1 _ k_193) rfl (hb.1.1 22 0 _ rfl) d_Exprs_name_73 ?_
        refine mv_bipush (pc := 76) (v := nI 91) B d_Exprs_name_76 (by decide) ?_
        obtain ⟨v61, h60, eh60, hf⟩ := xeb_e hf
        refine mv_callVi (pc := 78) (n := 1) (ci := 2) (C := R_Tokens) B (mK_ok sk sv) hNs rfl rfl (cx_Tokens_open l hi _ hb _ _ eh60) rfl (ma_goodc kc_Tokens_open) (B.2.2.2.1 _ k_1415) (B.2.2.2.1 _ k_1350) (B.2.2.2.1 _ k_1351) (B.2.2.2.1 _ k_3) ⟨by decide +kernel, by decide +kernel, by decide +kernel⟩ rfl d_Exprs_name_78 rfl (Nat.le_of_ble_eq_true rfl) ⟨by decide, by decide⟩ ⟨by decide, by decide⟩ ⟨by decide, by decide⟩ (mv_noH hno _) (fun w78 σ78 h78 => ?_)
        obtain ⟨rfl, rfl⟩ := h78
        obtain ⟨h62, eh62, hf⟩ := xev_e hf
        refine mv_callVv (pc := 81) (n := 2) (ci := 6) (C := R_Exprs) B (mK_ok sk sv) hNs rfl rfl (cx_Exprs_mark l hi _ hb _ _ _ eh62) rfl (ma_goodc kc_Exprs_mark) (B.2.2.2.1 _ k_1416) (B.2.2.2.1 _ k_1418) (B.2.2.2.1 _ ks_48) (B.2.2.2.1 _ k_7) ⟨by decide +kernel, by decide +kernel, by decide +kernel⟩ rfl d_Exprs_name_81 rfl (Nat.le_of_ble_eq_true rfl) ⟨by decide, by decide⟩ ⟨by decide, by decide⟩ ⟨by decide, by decide⟩ (mv_noH hno _) (fun σ81 h81 => ?_)
        subst h81
        refine mv_aload_n (pc := 84) B d_Exprs_name_84 rfl 5 rfl ?_
        refine mv_getR (pc := 85) (ci := 6) (C := R_Exprs) (T := F_Exprs) (N := 11) B 6 rfl rfl (by decide) i_Exprs (B.2.2.2.1 _ k_200) rfl (hb.1.1 22 6 _ rfl) d_Exprs_name_85 ?_
        refine mv_aload_n (pc := 88) B d_Exprs_name_88 rfl 5 rfl ?_
        refine mv_getI (pc := 89) (ci := 6) (C := R_Exprs) (T := F_Exprs) (N := 11) B 8 rfl rfl (by decide) i_Exprs (B.2.2.2.1 _ k_202) rfl d_Exprs_name_89 ?_
        obtain ⟨v63, ev63, hf⟩ := xer_e hf
        refine mvn_top (xfi_22_8 ev63) ?_
        refine mv_iconst (pc := 92) (v := nI 1) B d_Exprs_name_92 (by decide) ?_
        refine mvn_isub (pc := 93) B d_Exprs_name_93 ?_
        refine mv_iload (pc := 94) B d_Exprs_name_94 0 rfl ?_
        obtain ⟨v64, ev64, hf⟩ := xer_e hf
        refine mvn_top (xfa_15 q8 ev64) ?_
        obtain ⟨q65, hf⟩ := xix_e hf
        refine mv_iast (pc := 96) B rfl (xin q65 (by decide)) d_Exprs_name_96 ?_
        refine mvn_hp (xwa_25 _ _ _ q65) (xw_f xLe_25 xSe_25 hf) (fun h66 hf => ?_)
        refine mv_iconst (pc := 97) (v := nI 0) B d_Exprs_name_97 (by decide) ?_
        obtain ⟨q67, hf⟩ := xix_e hf
        exact mv_iret (pc := 98) B hr (xz1 q67) d_Exprs_name_98 (Nat.le_refl _) (Nat.le_refl _) ⟨_, rfl, xret_i hf⟩
  unfold g_Exprs_name at hf
  refine mv_aload_n (pc := 0) B d_Exprs_name_0 rfl 0 rfl ?_
  refine mv_getR (pc := 1) (ci := 6) (C := R_Exprs) (T := F_Exprs) (N := 11) B 0 rfl rfl (by decide) i_Exprs (B.2.2.2.1 _ k_193) rfl (hb.1.1 22 0 _ rfl) d_Exprs_name_1 ?_
  obtain ⟨v69, h68, eh68, hf⟩ := xeb_e hf
  refine mv_callVi (pc := 4) (n := 0) (ci := 2) (C := R_Tokens) B (mK_ok sk sv) hNs rfl rfl (cx_Tokens_kindBehind l hi _ hb _ eh68) rfl (ma_goodc kc_Tokens_kindBehind) (B.2.2.2.1 _ k_1445) (B.2.2.2.1 _ k_1446) (B.2.2.2.1 _ k_1447) (B.2.2.2.1 _ k_3) ⟨by decide +kernel, by decide +kernel, by decide +kernel⟩ rfl d_Exprs_name_4 rfl (Nat.le_of_ble_eq_true rfl) ⟨by decide, by decide⟩ ⟨by decide, by decide⟩ ⟨by decide, by decide⟩ (mv_noH hno _) (fun w4 σ4 h4 => ?_)
  obtain ⟨rfl, rfl⟩ := h4
  refine mv_bipush (pc := 7) (v := nI 91) B d_Exprs_name_7 (by decide) ?_
  refine mv_icmp_ne (pc := 9) (tgt := 16) B d_Exprs_name_9 rfl (fun h9 => ?_) (fun h9 => ?_)
  · skip
    have hf := x_eq_f h9 hf
    refine mv_iconst (pc := 16) (v := nI 0) B d_Exprs_name_16 (by decide) ?_
    refine mv_lpick [0] rfl ?_
    exact jn17 _ _ hf
  · skip
    have hf := x_eq_t h9 hf
    refine mv_iconst (pc := 12) (v := nI 1) B d_Exprs_name_12 (by decide) ?_
    refine mv_goto (pc := 13) (tgt := 17) B d_Exprs_name_13 rfl ?_
    refine mv_lpick [0] rfl ?_
    exact jn17 _ _ hf
def g_Exprs_operand_127 (x1 : Nat) (h : xE) : Option (Nat × xE) := xeb (g_Tokens_open h x1) fun v2 h1 => xev (g_Exprs_mark h1 x1 v2) fun h3 => bif Nat.blt 0 2 then some (0, h3) else none
def g_Exprs_operand (h : xE) : Option (Nat × xE) := xeb (g_Tokens_kind h) fun v6 h5 => bif xeq v6 3 then (xeb (g_Exprs_name h5) fun v8 h7 => bif Nat.blt v8 2 then some (v8, h7) else none) else (bif xeq v6 4 then (xev (g_Exprs_literal h5) fun h10 => bif Nat.blt 1 2 then some (1, h10) else none) else (bif xeq v6 33 then (xeb (g_Tokens_open h5 v6) fun v13 h12 => xev (g_Exprs_mark h12 307 v13) fun h14 => bif Nat.blt 0 2 then some (0, h14) else none) else (bif xeq v6 40 then (g_Exprs_operand_127 v6 h5) else (bif xeq v6 45 then (xeb (g_Tokens_open h5 v6) fun v17 h16 => xev (g_Exprs_mark h16 305 v17) fun h18 => bif Nat.blt 0 2 then some (0, h18) else none) else (bif xeq v6 123 then (g_Exprs_operand_127 v6 h5) else (bif xeq v6 126 then (xeb (g_Tokens_open h5 v6) fun v21 h20 => xev (g_Exprs_mark h20 306 v21) fun h22 => bif Nat.blt 0 2 then some (0, h22) else none) else (xev (g_Exprs_call h5 v6) fun h24 => bif Nat.blt 0 2 then some (0, h24) else none)))))))
set_option maxHeartbeats 4000000 in
set_option maxRecDepth 100000 in
theorem cx_Exprs_operand (l : Launch) {dA : FieldType → ClassId} {D : va_G} {al : Nat → Nat} {sk sv : Nat → Nat} (hi : mv_inj (mg dA D al me)) (b : mv_H) (hb : xR (mv_r b)) (h : xE) {rv : Nat} {rg : xE} (hf : g_Exprs_operand h = some (rv, rg)) : mv_C l y_Exprs_operand (Cond.code y_Exprs_operand b_Exprs_operand 2 (Option.some Jvm.ClassFile.FieldType.boolean) :: ma) ({ frames := 4, cells := 0, slots := 0, locals := 90 }) (mg dA D al me) (mK sk sv) [.ref (al 22)] (ab b h) (mv_Ri (fun v σ1 => v = nI rv ∧ σ1 = ab b rg)) := by
  refine mv_C.ofV (cc := b_Exprs_operand) (nL := 2) (ret := (Option.some Jvm.ClassFile.FieldType.boolean)) (by decide +kernel) rfl hi (Nat.le_of_ble_eq_true rfl) ?_
  intro p e s m below meth c B hNs hr hnm hno
  have jn127 : ∀ (x1 : Nat) (h : xE), g_Exprs_operand_127 x1 h = some (rv, rg) → mv_V p l e ({ frames := 4, cells := 0, slots := 0, locals := 90 }) s m ([.ref (al 22)] : List Value).toArray below meth c (mg dA D al me) 2 0 0 (mv_Q (mg dA D al me) below s 0 0 (mv_Ri (fun v σ1 => v = nI rv ∧ σ1 = ab b rg))) (ab b h) 127 [(0, .ref (al 22)), (1, .int (nI x1))] [] := by
    intro x1 h hf
    unfold g_Exprs_operand_127 at hf
    refine mv_aload_n (pc := 127) B d_Exprs_operand_127 rfl 0 rfl ?_
    refine mv_iload_n (pc := 128) B d_Exprs_operand_128 rfl 1 rfl ?_
    refine mv_aload_n (pc := 129) B d_Exprs_operand_129 rfl 0 rfl ?_
    refine mv_getR (pc := 130) (ci := 6) (C := R_Exprs) (T := F_Exprs) (N := 11) B 0 rfl rfl (by decide) i_Exprs (B.2.2.2.1 _ k_193) rfl (hb.1.1 22 0 _ rfl) d_Exprs_operand_130 ?_
    refine mv_iload_n (pc := 133) B d_Exprs_operand_133 rfl 1 rfl ?_
    obtain ⟨v2, h1, eh1, hf⟩ := xeb_e hf
    refine mv_callVi (pc := 134) (n := 1) (ci := 2) (C := R_Tokens) B (mK_ok sk sv) hNs rfl rfl (cx_Tokens_open l hi _ hb _ _ eh1) rfl (ma_goodc kc_Tokens_open) (B.2.2.2.1 _ k_1415) (B.2.2.2.1 _ k_1350) (B.2.2.2.1 _ k_1351) (B.2.2.2.1 _ k_3) ⟨by decide +kernel, by decide +kernel, by decide +kernel⟩ rfl d_Exprs_operand_134 rfl (Nat.le_of_ble_eq_true rfl) ⟨by decide, by decide⟩ ⟨by decide, by decide⟩ ⟨by decide, by decide⟩ (mv_noH hno _) (fun w134 σ134 h134 => ?_)
    obtain ⟨rfl, rfl⟩ := h134
    obtain ⟨h3, eh3, hf⟩ := xev_e hf
    refine mv_callVv (pc := 137) (n := 2) (ci := 6) (C := R_Exprs) B (mK_ok sk sv) hNs rfl rfl (cx_Exprs_mark l hi _ hb _ _ _ eh3) rfl (ma_goodc kc_Exprs_mark) (B.2.2.2.1 _ k_1416) (B.2.2.2.1 _ k_1418) (B.2.2.2.1 _ ks_48) (B.2.2.2.1 _ k_7) ⟨by decide +kernel, by decide +kernel, by decide +kernel⟩ rfl d_Exprs_operand_137 rfl (Nat.le_of_ble_eq_true rfl) ⟨by decide, by decide⟩ ⟨by decide, by decide⟩ ⟨by decide, by decide⟩ (mv_noH hno _) (fun σ137 h137 => ?_)
    subst h137
    refine mv_iconst (pc := 140) (v := nI 0) B d_Exprs_operand_140 (by decide) ?_
    obtain ⟨q4, hf⟩ := xix_e hf
    exact mv_iret (pc := 141) B hr (xz1 q4) d_Exprs_operand_141 (Nat.le_refl _) (Nat.le_refl _) ⟨_, rfl, xret_i hf⟩
  unfold g_Exprs_operand at hf
  refine mv_aload_n (pc := 0) B d_Exprs_operand_0 rfl 0 rfl ?_
  refine mv_getR (pc := 1) (ci := 6) (C := R_Exprs) (T := F_Exprs) (N := 11) B 0 rfl rfl (by decide) i_Exprs (B.2.2.2.1 _ k_193) rfl (hb.1.1 22 0 _ rfl) d_Exprs_operand_1 ?_
  obtain ⟨v6, h5, eh5, hf⟩ := xeb_e hf
  refine mv_callVi (pc := 4) (n := 0) (ci := 2) (C := R_Tokens) B (mK_ok sk sv) hNs rfl rfl (cx_Tokens_kind l hi _ hb _ eh5) rfl (ma_goodc kc_Tokens_kind) (B.2.2.2.1 _ k_1414) (B.2.2.2.1 _ k_1271) (B.2.2.2.1 _ k_1272) (B.2.2.2.1 _ k_3) ⟨by decide +kernel, by decide +kernel, by decide +kernel⟩ rfl d_Exprs_operand_4 rfl (Nat.le_of_ble_eq_true rfl) ⟨by decide, by decide⟩ ⟨by decide, by decide⟩ ⟨by decide, by decide⟩ (mv_noH hno _) (fun w4 σ4 h4 => ?_)
  obtain ⟨rfl, rfl⟩ := h4
  refine mv_istore_n (pc := 7) B d_Exprs_operand_7 rfl (by decide) rfl ?_
  refine mv_iload_n (pc := 8) B d_Exprs_operand_8 rfl 0 rfl ?_
  refine mv_lsw (pc := 9) B d_Exprs_operand_9 (by decide) (by decide) ?_
  refine ⟨fun h9 => ?_, fun h9n3 => ?_⟩
  · skip
    have hf := x_sw_t (y := 3) (by decide) h9 hf
    show mv_V _ _ _ _ _ _ _ _ _ _ _ _ _ _ _ _ 148 _ _
    refine mv_aload_n (pc := 148) B d_Exprs_operand_148 rfl 1 rfl ?_
    obtain ⟨v8, h7, eh7, hf⟩ := xeb_e hf
    refine mv_callVi (pc := 149) (n := 0) (ci := 6) (C := R_Exprs) B (mK_ok sk sv) hNs rfl rfl (cx_Exprs_name l hi _ hb _ eh7) rfl (ma_goodc kc_Exprs_name) (B.2.2.2.1 _ k_1441) (B.2.2.2.1 _ k_1443) (B.2.2.2.1 _ ks_52) (B.2.2.2.1 _ k_7) ⟨by decide +kernel, by decide +kernel, by decide +kernel⟩ rfl d_Exprs_operand_149 rfl (Nat.le_of_ble_eq_true rfl) ⟨by decide, by decide⟩ ⟨by decide, by decide⟩ ⟨by decide, by decide⟩ (mv_noH hno _) (fun w149 σ149 h149 => ?_)
    obtain ⟨rfl, rfl⟩ := h149
    obtain ⟨q9, hf⟩ := xix_e hf
    exact mv_iret (pc := 152) B hr (xz1 q9) d_Exprs_operand_152 (Nat.le_refl _) (Nat.le_refl _) ⟨_, rfl, xret_i hf⟩
  have hf := x_sw_f (y := 3) (by decide) h9n3 hf
  refine ⟨fun h9 => ?_, fun h9n4 => ?_⟩
  · skip
    have hf := x_sw_t (y := 4) (by decide) h9 hf
    show mv_V _ _ _ _ _ _ _ _ _ _ _ _ _ _ _ _ 142 _ _
    refine mv_aload_n (pc := 142) B d_Exprs_operand_142 rfl 1 rfl ?_
    obtain ⟨h10, eh10, hf⟩ := xev_e hf
    refine mv_callVv (pc := 143) (n := 0) (ci := 6) (C := R_Exprs) B (mK_ok sk sv) hNs rfl rfl (cx_Exprs_literal l hi _ hb _ eh10) rfl (ma_goodc kc_Exprs_literal) (B.2.2.2.1 _ k_1420) (B.2.2.2.1 _ k_1422) (B.2.2.2.1 _ ks_49) (B.2.2.2.1 _ k_7) ⟨by decide +kernel, by decide +kernel, by decide +kernel⟩ rfl d_Exprs_operand_143 rfl (Nat.le_of_ble_eq_true rfl) ⟨by decide, by decide⟩ ⟨by decide, by decide⟩ ⟨by decide, by decide⟩ (mv_noH hno _) (fun σ143 h143 => ?_)
    subst h143
    refine mv_iconst (pc := 146) (v := nI 1) B d_Exprs_operand_146 (by decide) ?_
    obtain ⟨q11, hf⟩ := xix_e hf
    exact mv_iret (pc := 147) B hr (xz1 q11) d_Exprs_operand_147 (Nat.le_refl _) (Nat.le_refl _) ⟨_, rfl, xret_i hf⟩
  have hf := x_sw_f (y := 4) (by decide) h9n4 hf
  refine ⟨fun h9 => ?_, fun h9n33 => ?_⟩
  · skip
    have hf := x_sw_t (y := 33) (by decide) h9 hf
    show mv_V _ _ _ _ _ _ _ _ _ _ _ _ _ _ _ _ 110 _ _
    refine mv_aload_n (pc := 110) B d_Exprs_operand_110 rfl 1 rfl ?_
    refine mv_sipush (pc := 111) (v := nI 307) B d_Exprs_operand_111 (by decide) ?_
    refine mv_aload_n (pc := 114) B d_Exprs_operand_114 rfl 1 rfl ?_
    refine mv_getR (pc := 115) (ci := 6) (C := R_Exprs) (T := F_Exprs) (N := 11) B 0 rfl rfl (by decide) i_Exprs (B.2.2.2.1 _ k_193) rfl (hb.1.1 22 0 _ rfl) d_Exprs_operand_115 ?_
    refine mv_iload_n (pc := 118) B d_Exprs_operand_118 rfl 0 rfl ?_
    obtain ⟨v13, h12, eh12, hf⟩ := xeb_e hf
    refine mv_callVi (pc := 119) (n := 1) (ci := 2) (C := R_Tokens) B (mK_ok sk sv) hNs rfl rfl (cx_Tokens_open l hi _ hb _ _ eh12) rfl (ma_goodc kc_Tokens_open) (B.2.2.2.1 _ k_1415) (B.2.2.2.1 _ k_1350) (B.2.2.2.1 _ k_1351) (B.2.2.2.1 _ k_3) ⟨by decide +kernel, by decide +kernel, by decide +kernel⟩ rfl d_Exprs_operand_119 rfl (Nat.le_of_ble_eq_true rfl) ⟨by decide, by decide⟩ ⟨by decide, by decide⟩ ⟨by decide, by decide⟩ (mv_noH hno _) (fun w119 σ119 h119 => ?_)
    obtain ⟨rfl, rfl⟩ := h119
    obtain ⟨h14, eh14, hf⟩ := xev_e hf
    refine mv_callVv (pc := 122) (n := 2) (ci := 6) (C := R_Exprs) B (mK_ok sk sv) hNs rfl rfl (cx_Exprs_mark l hi _ hb _ _ _ eh14) rfl (ma_goodc kc_Exprs_mark) (B.2.2.2.1 _ k_1416) (B.2.2.2.1 _ k_1418) (B.2.2.2.1 _ ks_48) (B.2.2.2.1 _ k_7) ⟨by decide +kernel, by decide +kernel, by decide +kernel⟩ rfl d_Exprs_operand_122 rfl (Nat.le_of_ble_eq_true rfl) ⟨by decide, by decide⟩ ⟨by decide, by decide⟩ ⟨by decide, by decide⟩ (mv_noH hno _) (fun σ122 h122 => ?_)
    subst h122
    refine mv_iconst (pc := 125) (v := nI 0) B d_Exprs_operand_125 (by decide) ?_
    obtain ⟨q15, hf⟩ := xix_e hf
    exact mv_iret (pc := 126) B hr (xz1 q15) d_Exprs_operand_126 (Nat.le_refl _) (Nat.le_refl _) ⟨_, rfl, xret_i hf⟩
  have hf := x_sw_f (y := 33) (by decide) h9n33 hf
  refine ⟨fun h9 => ?_, fun h9n40 => ?_⟩
  · skip
    have hf := x_sw_t (y := 40) (by decide) h9 hf
    show mv_V _ _ _ _ _ _ _ _ _ _ _ _ _ _ _ _ 127 _ _
    refine mv_lpick [1, 0] rfl ?_
    exact jn127 _ _ hf
  have hf := x_sw_f (y := 40) (by decide) h9n40 hf
  refine ⟨fun h9 => ?_, fun h9n45 => ?_⟩
  · skip
    have hf := x_sw_t (y := 45) (by decide) h9 hf
    show mv_V _ _ _ _ _ _ _ _ _ _ _ _ _ _ _ _ 76 _ _
    refine mv_aload_n (pc := 76) B d_Exprs_operand_76 rfl 1 rfl ?_
    refine mv_sipush (pc := 77) (v := nI 305) B d_Exprs_operand_77 (by decide) ?_
    refine mv_aload_n (pc := 80) B d_Exprs_operand_80 rfl 1 rfl ?_
    refine mv_getR (pc := 81) (ci := 6) (C := R_Exprs) (T := F_Exprs) (N := 11) B 0 rfl rfl (by decide) i_Exprs (B.2.2.2.1 _ k_193) rfl (hb.1.1 22 0 _ rfl) d_Exprs_operand_81 ?_
    refine mv_iload_n (pc := 84) B d_Exprs_operand_84 rfl 0 rfl ?_
    obtain ⟨v17, h16, eh16, hf⟩ := xeb_e hf
    refine mv_callVi (pc := 85) (n := 1) (ci := 2) (C := R_Tokens) B (mK_ok sk sv) hNs rfl rfl (cx_Tokens_open l hi _ hb _ _ eh16) rfl (ma_goodc kc_Tokens_open) (B.2.2.2.1 _ k_1415) (B.2.2.2.1 _ k_1350) (B.2.2.2.1 _ k_1351) (B.2.2.2.1 _ k_3) ⟨by decide +kernel, by decide +kernel, by decide +kernel⟩ rfl d_Exprs_operand_85 rfl (Nat.le_of_ble_eq_true rfl) ⟨by decide, by decide⟩ ⟨by decide, by decide⟩ ⟨by decide, by decide⟩ (mv_noH hno _) (fun w85 σ85 h85 => ?_)
    obtain ⟨rfl, rfl⟩ := h85
    obtain ⟨h18, eh18, hf⟩ := xev_e hf
    refine mv_callVv (pc := 88) (n := 2) (ci := 6) (C := R_Exprs) B (mK_ok sk sv) hNs rfl rfl (cx_Exprs_mark l hi _ hb _ _ _ eh18) rfl (ma_goodc kc_Exprs_mark) (B.2.2.2.1 _ k_1416) (B.2.2.2.1 _ k_1418) (B.2.2.2.1 _ ks_48) (B.2.2.2.1 _ k_7) ⟨by decide +kernel, by decide +kernel, by decide +kernel⟩ rfl d_Exprs_operand_88 rfl (Nat.le_of_ble_eq_true rfl) ⟨by decide, by decide⟩ ⟨by decide, by decide⟩ ⟨by decide, by decide⟩ (mv_noH hno _) (fun σ88 h88 => ?_)
    subst h88
    refine mv_iconst (pc := 91) (v := nI 0) B d_Exprs_operand_91 (by decide) ?_
    obtain ⟨q19, hf⟩ := xix_e hf
    exact mv_iret (pc := 92) B hr (xz1 q19) d_Exprs_operand_92 (Nat.le_refl _) (Nat.le_refl _) ⟨_, rfl, xret_i hf⟩
  have hf := x_sw_f (y := 45) (by decide) h9n45 hf
  refine ⟨fun h9 => ?_, fun h9n123 => ?_⟩
  · skip
    have hf := x_sw_t (y := 123) (by decide) h9 hf
    show mv_V _ _ _ _ _ _ _ _ _ _ _ _ _ _ _ _ 127 _ _
    refine mv_lpick [1, 0] rfl ?_
    exact jn127 _ _ hf
  have hf := x_sw_f (y := 123) (by decide) h9n123 hf
  refine ⟨fun h9 => ?_, fun h9n126 => ?_⟩
  · skip
    have hf := x_sw_t (y := 126) (by decide) h9 hf
    show mv_V _ _ _ _ _ _ _ _ _ _ _ _ _ _ _ _ 93 _ _
    refine mv_aload_n (pc := 93) B d_Exprs_operand_93 rfl 1 rfl ?_
    refine mv_sipush (pc := 94) (v := nI 306) B d_Exprs_operand_94 (by decide) ?_
    refine mv_aload_n (pc := 97) B d_Exprs_operand_97 rfl 1 rfl ?_
    refine mv_getR (pc := 98) (ci := 6) (C := R_Exprs) (T := F_Exprs) (N := 11) B 0 rfl rfl (by decide) i_Exprs (B.2.2.2.1 _ k_193) rfl (hb.1.1 22 0 _ rfl) d_Exprs_operand_98 ?_
    refine mv_iload_n (pc := 101) B d_Exprs_operand_101 rfl 0 rfl ?_
    obtain ⟨v21, h20, eh20, hf⟩ := xeb_e hf
    refine mv_callVi (pc := 102) (n := 1) (ci := 2) (C := R_Tokens) B (mK_ok sk sv) hNs rfl rfl (cx_Tokens_open l hi _ hb _ _ eh20) rfl (ma_goodc kc_Tokens_open) (B.2.2.2.1 _ k_1415) (B.2.2.2.1 _ k_1350) (B.2.2.2.1 _ k_1351) (B.2.2.2.1 _ k_3) ⟨by decide +kernel, by decide +kernel, by decide +kernel⟩ rfl d_Exprs_operand_102 rfl (Nat.le_of_ble_eq_true rfl) ⟨by decide, by decide⟩ ⟨by decide, by decide⟩ ⟨by decide, by decide⟩ (mv_noH hno _) (fun w102 σ102 h102 => ?_)
    obtain ⟨rfl, rfl⟩ := h102
    obtain ⟨h22, eh22, hf⟩ := xev_e hf
    refine mv_callVv (pc := 105) (n := 2) (ci := 6) (C := R_Exprs) B (mK_ok sk sv) hNs rfl rfl (cx_Exprs_mark l hi _ hb _ _ _ eh22) rfl (ma_goodc kc_Exprs_mark) (B.2.2.2.1 _ k_1416) (B.2.2.2.1 _ k_1418) (B.2.2.2.1 _ ks_48) (B.2.2.2.1 _ k_7) ⟨by decide +kernel, by decide +kernel, by decide +kernel⟩ rfl d_Exprs_operand_105 rfl (Nat.le_of_ble_eq_true rfl) ⟨by decide, by decide⟩ ⟨by decide, by decide⟩ ⟨by decide, by decide⟩ (mv_noH hno _) (fun σ105 h105 => ?_)
    subst h105
    refine mv_iconst (pc := 108) (v := nI 0) B d_Exprs_operand_108 (by decide) ?_
    obtain ⟨q23, hf⟩ := xix_e hf
    exact mv_iret (pc := 109) B hr (xz1 q23) d_Exprs_operand_109 (Nat.le_refl _) (Nat.le_refl _) ⟨_, rfl, xret_i hf⟩
  have hf := x_sw_f (y := 126) (by decide) h9n126 hf
  show mv_V _ _ _ _ _ _ _ _ _ _ _ _ _ _ _ _ 153 _ _
  refine mv_aload_n (pc := 153) B d_Exprs_operand_153 rfl 1 rfl ?_
  refine mv_iload_n (pc := 154) B d_Exprs_operand_154 rfl 0 rfl ?_
  obtain ⟨h24, eh24, hf⟩ := xev_e hf
  refine mv_callVv (pc := 155) (n := 1) (ci := 6) (C := R_Exprs) B (mK_ok sk sv) hNs rfl rfl (cx_Exprs_call l hi _ hb _ _ eh24) rfl (ma_goodc kc_Exprs_call) (B.2.2.2.1 _ k_1455) (B.2.2.2.1 _ k_1457) (B.2.2.2.1 _ ks_53) (B.2.2.2.1 _ k_7) ⟨by decide +kernel, by decide +kernel, by decide +kernel⟩ rfl d_Exprs_operand_155 rfl (Nat.le_of_ble_eq_true rfl) ⟨by decide, by decide⟩ ⟨by decide, by decide⟩ ⟨by decide, by decide⟩ (mv_noH hno _) (fun σ155 h155 => ?_)
  subst h155
  refine mv_iconst (pc := 158) (v := nI 0) B d_Exprs_operand_158 (by decide) ?_
  obtain ⟨q25, hf⟩ := xix_e hf
  exact mv_iret (pc := 159) B hr (xz1 q25) d_Exprs_operand_159 (Nat.le_refl _) (Nat.le_refl _) ⟨_, rfl, xret_i hf⟩
def g_Exprs_part_184 (x6 : Nat) (y0 : Nat) (h : xE) : Option xE := xeb (g_Program_emit h 308 (Nat.lor (Nat.land x6 255) (yshl (xi2l y0) 8))) fun v2 h1 => xev (g_Exprs_hold h1 y0) fun h3 => some h3
def g_Exprs_part_165 (x4 : Nat) (x6 : Nat) (y0 : Nat) (h : xE) : Option xE := bif xeq y0 0 then (g_Exprs_part_184 x6 (xadd ((ysub x4 x6) % 4294967296) 1) h) else (g_Exprs_part_184 x6 0 h)
def g_Exprs_part_160 (x4 : Nat) (x6 : Nat) (h : xE) : Option xE := g_Exprs_part_165 x4 x6 1 h
def g_Exprs_part_146 (x3 : Nat) (x4 : Nat) (x6 : Nat) (x8 : Nat) (x9 : Nat) (h : xE) : Option xE := bif xeq x3 0 then (g_Exprs_part_160 x4 x6 h) else (bif xeq x8 0 then (bif xeq x9 0 then (g_Exprs_part_165 x4 x6 0 h) else (g_Exprs_part_160 x4 x6 h)) else (g_Exprs_part_160 x4 x6 h))
def g_Exprs_part_135 (x2 : Nat) (x3 : Nat) (x4 : Nat) (x6 : Nat) (x8 : Nat) (x9 : Nat) (h : xE) : Option xE := bif xeq x9 0 then (g_Exprs_part_146 x3 x4 x6 x8 x9 h) else (xev (g_Exprs_tell h x2 3) fun h4 => g_Exprs_part_146 x3 x4 x6 x8 x9 h4)
def g_Exprs_part_113 (x1 : Nat) (x2 : Nat) (x3 : Nat) (x4 : Nat) (x6 : Nat) (y0 : Nat) (h : xE) : Option xE := xeb (g_Bits_below h x4 x6) fun v6 h5 => bif xeq y0 0 then (g_Exprs_part_135 x2 x3 x4 x6 y0 v6 h5) else (xev (g_Exprs_tell h5 x1 3) fun h7 => g_Exprs_part_135 x2 x3 x4 x6 y0 v6 h7)
def g_Exprs_part_112 (x1 : Nat) (x2 : Nat) (x3 : Nat) (x4 : Nat) (x6 : Nat) (h : xE) : Option xE := g_Exprs_part_113 x1 x2 x3 x4 x6 0 h
def g_Exprs_part_108 (x1 : Nat) (x2 : Nat) (x3 : Nat) (x4 : Nat) (x6 : Nat) (h : xE) : Option xE := g_Exprs_part_113 x1 x2 x3 x4 x6 1 h
def g_Exprs_part_52 (x1 : Nat) (x2 : Nat) (h : xE) : Option xE := xeb (g_Tokens_close h 93) fun v9 h8 => xeb (g_Exprs_release h8) fun v11 h10 => bif Nat.blt x1 32770 then xer (ep_g (xL_6 h10.2) x1) fun v13 => bif Nat.blt x2 32770 then xer (ep_g (xL_6 h10.2) x2) fun v15 => bif xlt 0 v11 then (bif xlt (ycmp v13 0) 0 then (g_Exprs_part_108 x1 x2 v11 v13 v15 h10) else (bif xlt (ycmp v13 (xi2l v11)) 0 then (g_Exprs_part_112 x1 x2 v11 v13 v15 h10) else (g_Exprs_part_108 x1 x2 v11 v13 v15 h10))) else (g_Exprs_part_112 x1 x2 v11 v13 v15 h10) else none else none
def g_Exprs_part (h : xE) : Option xE := xeb (g_Tokens_open h 91) fun v17 h16 => xeb (g_Tokens_take h16 4) fun v19 h18 => xeb (g_Tokens_kind h18) fun v21 h20 => bif xeq v21 58 then (xeb (g_Tokens_take h20 58) fun v23 h22 => xeb (g_Tokens_take h22 4) fun v25 h24 => g_Exprs_part_52 v19 v25 h24) else (g_Exprs_part_52 v19 v19 h20)
set_option maxHeartbeats 4000000 in
set_option maxRecDepth 100000 in
theorem cx_Exprs_part (l : Launch) {dA : FieldType → ClassId} {D : va_G} {al : Nat → Nat} {sk sv : Nat → Nat} (hi : mv_inj (mg dA D al me)) (b : mv_H) (hb : xR (mv_r b)) (h : xE) {rg : xE} (hf : g_Exprs_part h = some rg) : mv_C l y_Exprs_part (Cond.code y_Exprs_part b_Exprs_part 12 (Option.none : Option Jvm.ClassFile.FieldType) :: ma) ({ frames := 3, cells := 0, slots := 0, locals := 63 }) (mg dA D al me) (mK sk sv) [.ref (al 22)] (ab b h) (mv_Rv (fun σ1 => σ1 = ab b rg)) := by
  refine mv_C.ofV (cc := b_Exprs_part) (nL := 12) (ret := (Option.none : Option Jvm.ClassFile.FieldType)) (by decide +kernel) rfl hi (Nat.le_of_ble_eq_true rfl) ?_
  intro p e s m below meth c B hNs hr hnm hno
  have jn184 : ∀ (x6 : Nat) (y0 : Nat) (h : xE), g_Exprs_part_184 x6 y0 h = some rg → mv_V p l e ({ frames := 3, cells := 0, slots := 0, locals := 63 }) s m ([.ref (al 22)] : List Value).toArray below meth c (mg dA D al me) 12 0 0 (mv_Q (mg dA D al me) below s 0 0 (mv_Rv (fun σ1 => σ1 = ab b rg))) (ab b h) 184 [(0, .ref (al 22)), (6, .long (nJ x6))] [.int (nI y0)] := by
    intro x6 y0 h hf
    unfold g_Exprs_part_184 at hf
    refine mv_istore (pc := 184) B d_Exprs_part_184 (by decide) rfl ?_
    refine mv_aload_n (pc := 186) B d_Exprs_part_186 rfl 1 rfl ?_
    refine mv_getR (pc := 187) (ci := 6) (C := R_Exprs) (T := F_Exprs) (N := 11) B 3 rfl rfl (by decide) i_Exprs (B.2.2.2.1 _ k_197) rfl hb.1.2.2.2 d_Exprs_part_187 ?_
    refine mv_sipush (pc := 190) (v := nI 308) B d_Exprs_part_190 (by decide) ?_
    refine mv_lload (pc := 193) B d_Exprs_part_193 2 rfl ?_
    refine mv_ldc2 (pc := 195) (v := 255) B (B.2.2.2.1 _ k_1477) d_Exprs_part_195 ?_
    refine mvn_topl (n := 255) (by decide) ?_
    refine mvn_land (pc := 198) B d_Exprs_part_198 ?_
    refine mv_iload (pc := 199) B d_Exprs_part_199 0 rfl ?_
    refine mvn_i2l (pc := 201) B d_Exprs_part_201 ?_
    refine mv_bipush (pc := 202) (v := nI 8) B d_Exprs_part_202 (by decide) ?_
    refine mvn_lshl (pc := 204) B d_Exprs_part_204 ?_
    refine mvn_lor (pc := 205) B d_Exprs_part_205 ?_
    obtain ⟨v2, h1, eh1, hf⟩ := xeb_e hf
    refine mv_callVi (pc := 206) (n := 2) (ci := 7) (C := R_Program) B (mK_ok sk sv) hNs rfl rfl (cx_Program_emit l hi _ hb _ _ _ eh1) rfl (ma_goodc kc_Program_emit) (B.2.2.2.1 _ k_1425) (B.2.2.2.1 _ k_1385) (B.2.2.2.1 _ k_1386) (B.2.2.2.1 _ k_8) ⟨by decide +kernel, by decide +kernel, by decide +kernel⟩ rfl d_Exprs_part_206 rfl (Nat.le_of_ble_eq_true rfl) ⟨by decide, by decide⟩ ⟨by decide, by decide⟩ ⟨by decide, by decide⟩ (mv_noH hno _) (fun w206 σ206 h206 => ?_)
    obtain ⟨rfl, rfl⟩ := h206
    refine mv_pop (pc := 209) B d_Exprs_part_209 rfl ?_
    refine mv_aload_n (pc := 210) B d_Exprs_part_210 rfl 1 rfl ?_
    refine mv_iload (pc := 211) B d_Exprs_part_211 0 rfl ?_
    obtain ⟨h3, eh3, hf⟩ := xev_e hf
    refine mv_callVv (pc := 213) (n := 1) (ci := 6) (C := R_Exprs) B (mK_ok sk sv) hNs rfl rfl (cx_Exprs_hold l hi _ hb _ _ eh3) rfl (ma_goodc kc_Exprs_hold) (B.2.2.2.1 _ k_1432) (B.2.2.2.1 _ k_1434) (B.2.2.2.1 _ ks_51) (B.2.2.2.1 _ k_7) ⟨by decide +kernel, by decide +kernel, by decide +kernel⟩ rfl d_Exprs_part_213 rfl (Nat.le_of_ble_eq_true rfl) ⟨by decide, by decide⟩ ⟨by decide, by decide⟩ ⟨by decide, by decide⟩ (mv_noH hno _) (fun σ213 h213 => ?_)
    subst h213
    exact mv_vret (pc := 216) B hr d_Exprs_part_216 (Nat.le_refl _) (Nat.le_refl _) ⟨rfl, xret_v hf⟩
  have jn165 : ∀ (x4 : Nat) (x6 : Nat) (y0 : Nat) (h : xE), g_Exprs_part_165 x4 x6 y0 h = some rg → mv_V p l e ({ frames := 3, cells := 0, slots := 0, locals := 63 }) s m ([.ref (al 22)] : List Value).toArray below meth c (mg dA D al me) 12 0 0 (mv_Q (mg dA D al me) below s 0 0 (mv_Rv (fun σ1 => σ1 = ab b rg))) (ab b h) 165 [(0, .ref (al 22)), (4, .long (nJ x4)), (6, .long (nJ x6))] [.int (nI y0)] := by
    intro x4 x6 y0 h hf
    unfold g_Exprs_part_165 at hf
    refine mv_istore (pc := 165) B d_Exprs_part_165 (by decide) rfl ?_
    refine mv_iload (pc := 167) B d_Exprs_part_167 0 rfl ?_
    refine mv_if_eq (pc := 169) (tgt := 176) B d_Exprs_part_169 rfl (fun h169 => ?_) (fun h169 => ?_)
    · skip
      have hf := x_eq_t (y := 0) h169 hf
      refine mv_lload (pc := 176) B d_Exprs_part_176 2 rfl ?_
      refine mv_lload (pc := 178) B d_Exprs_part_178 3 rfl ?_
      refine mvn_lsub (pc := 180) B d_Exprs_part_180 ?_
      refine mvn_l2i (pc := 181) B d_Exprs_part_181 ?_
      refine mv_iconst (pc := 182) (v := nI 1) B d_Exprs_part_182 (by decide) ?_
      refine mvn_iadd (pc := 183) B d_Exprs_part_183 ?_
      refine mv_lpick [1, 3] rfl ?_
      exact jn184 _ _ _ hf
    · skip
      have hf := x_eq_f (y := 0) h169 hf
      refine mv_iconst (pc := 172) (v := nI 0) B d_Exprs_part_172 (by decide) ?_
      refine mv_goto (pc := 173) (tgt := 184) B d_Exprs_part_173 rfl ?_
      refine mv_lpick [1, 3] rfl ?_
      exact jn184 _ _ _ hf
  have jn160 : ∀ (x4 : Nat) (x6 : Nat) (h : xE), g_Exprs_part_160 x4 x6 h = some rg → mv_V p l e ({ frames := 3, cells := 0, slots := 0, locals := 63 }) s m ([.ref (al 22)] : List Value).toArray below meth c (mg dA D al me) 12 0 0 (mv_Q (mg dA D al me) below s 0 0 (mv_Rv (fun σ1 => σ1 = ab b rg))) (ab b h) 160 [(0, .ref (al 22)), (4, .long (nJ x4)), (6, .long (nJ x6))] [] := by
    intro x4 x6 h hf
    unfold g_Exprs_part_160 at hf
    refine mv_iconst (pc := 160) (v := nI 1) B d_Exprs_part_160 (by decide) ?_
    refine mv_goto (pc := 161) (tgt := 165) B d_Exprs_part_161 rfl ?_
    refine mv_lpick [0, 1, 2] rfl ?_
    exact jn165 _ _ _ _ hf
  have jn146 : ∀ (x3 : Nat) (x4 : Nat) (x6 : Nat) (x8 : Nat) (x9 : Nat) (h : xE), g_Exprs_part_146 x3 x4 x6 x8 x9 h = some rg → mv_V p l e ({ frames := 3, cells := 0, slots := 0, locals := 63 }) s m ([.ref (al 22)] : List Value).toArray below meth c (mg dA D al me) 12 0 0 (mv_Q (mg dA D al me) below s 0 0 (mv_Rv (fun σ1 => σ1 = ab b rg))) (ab b h) 146 [(0, .ref (al 22)), (3, .int (nI x3)), (4, .long (nJ x4)), (6, .long (nJ x6)), (8, .int (nI x8)), (9, .int (nI x9))] [] := by
    intro x3 x4 x6 x8 x9 h hf
    unfold g_Exprs_part_146 at hf
    refine mv_iload_n (pc := 146) B d_Exprs_part_146 rfl 1 rfl ?_
    refine mv_if_eq (pc := 147) (tgt := 160) B d_Exprs_part_147 rfl (fun h147 => ?_) (fun h147 => ?_)
    · skip
      have hf := x_eq_t (y := 0) h147 hf
      refine mv_lpick [0, 2, 3] rfl ?_
      exact jn160 _ _ _ hf
    · skip
      have hf := x_eq_f (y := 0) h147 hf
      refine mv_iload (pc := 150) B d_Exprs_part_150 4 rfl ?_
      refine mv_if_ne (pc := 152) (tgt := 160) B d_Exprs_part_152 rfl (fun h152 => ?_) (fun h152 => ?_)
      · skip
        have hf := x_eq_f (y := 0) h152 hf
        refine mv_lpick [0, 2, 3] rfl ?_
        exact jn160 _ _ _ hf
      · skip
        have hf := x_eq_t (y := 0) h152 hf
        refine mv_iload (pc := 155) B d_Exprs_part_155 5 rfl ?_
        refine mv_if_eq (pc := 157) (tgt := 164) B d_Exprs_part_157 rfl (fun h157 => ?_) (fun h157 => ?_)
        · skip
          have hf := x_eq_t (y := 0) h157 hf
          refine mv_iconst (pc := 164) (v := nI 0) B d_Exprs_part_164 (by decide) ?_
          refine mv_lpick [0, 2, 3] rfl ?_
          exact jn165 _ _ _ _ hf
        · skip
          have hf := x_eq_f (y := 0) h157 hf
          refine mv_lpick [0, 2, 3] rfl ?_
          exact jn160 _ _ _ hf
  have jn135 : ∀ (x2 : Nat) (x3 : Nat) (x4 : Nat) (x6 : Nat) (x8 : Nat) (x9 : Nat) (h : xE), g_Exprs_part_135 x2 x3 x4 x6 x8 x9 h = some rg → mv_V p l e ({ frames := 3, cells := 0, slots := 0, locals := 63 }) s m ([.ref (al 22)] : List Value).toArray below meth c (mg dA D al me) 12 0 0 (mv_Q (mg dA D al me) below s 0 0 (mv_Rv (fun σ1 => σ1 = ab b rg))) (ab b h) 135 [(0, .ref (al 22)), (2, .int (nI x2)), (3, .int (nI x3)), (4, .long (nJ x4)), (6, .long (nJ x6)), (8, .int (nI x8)), (9, .int (nI x9))] [] := by
    intro x2 x3 x4 x6 x8 x9 h hf
    unfold g_Exprs_part_135 at hf
    refine mv_iload (pc := 135) B d_Exprs_part_135 6 rfl ?_
    refine mv_if_eq (pc := 137) (tgt := 146) B d_Exprs_part_137 rfl (fun h137 => ?_) (fun h137 => ?_)
    · skip
      have hf := x_eq_t (y := 0) h137 hf
      refine mv_lpick [0, 2, 3, 4, 5, 6] rfl ?_
      exact jn146 _ _ _ _ _ _ hf
    · skip
      have hf := x_eq_f (y := 0) h137 hf
      refine mv_aload_n (pc := 140) B d_Exprs_part_140 rfl 0 rfl ?_
      refine mv_iload_n (pc := 141) B d_Exprs_part_141 rfl 1 rfl ?_
      refine mv_iconst (pc := 142) (v := nI 3) B d_Exprs_part_142 (by decide) ?_
      obtain ⟨h4, eh4, hf⟩ := xev_e hf
      refine mv_callVv (pc := 143) (n := 2) (ci := 6) (C := R_Exprs) B (mK_ok sk sv) hNs rfl rfl (cx_Exprs_tell l hi _ hb _ _ _ eh4) rfl (ma_goodc kc_Exprs_tell) (B.2.2.2.1 _ k_1427) (B.2.2.2.1 _ k_1429) (B.2.2.2.1 _ ks_50) (B.2.2.2.1 _ k_7) ⟨by decide +kernel, by decide +kernel, by decide +kernel⟩ rfl d_Exprs_part_143 rfl (Nat.le_of_ble_eq_true rfl) ⟨by decide, by decide⟩ ⟨by decide, by decide⟩ ⟨by decide, by decide⟩ (mv_noH hno _) (fun σ143 h143 => ?_)
      subst h143
      refine mv_lpick [0, 2, 3, 4, 5, 6] rfl ?_
      exact jn146 _ _ _ _ _ _ hf
  have jn113 : ∀ (x1 : Nat) (x2 : Nat) (x3 : Nat) (x4 : Nat) (x6 : Nat) (y0 : Nat) (h : xE), g_Exprs_part_113 x1 x2 x3 x4 x6 y0 h = some rg → mv_V p l e ({ frames := 3, cells := 0, slots := 0, locals := 63 }) s m ([.ref (al 22)] : List Value).toArray below meth c (mg dA D al me) 12 0 0 (mv_Q (mg dA D al me) below s 0 0 (mv_Rv (fun σ1 => σ1 = ab b rg))) (ab b h) 113 [(0, .ref (al 22)), (1, .int (nI x1)), (2, .int (nI x2)), (3, .int (nI x3)), (4, .long (nJ x4)), (6, .long (nJ x6))] [.int (nI y0)] := by
    intro x1 x2 x3 x4 x6 y0 h hf
    unfold g_Exprs_part_113 at hf
    refine mv_istore (pc := 113) B d_Exprs_part_113 (by decide) rfl ?_
    refine mv_lload (pc := 115) B d_Exprs_part_115 5 rfl ?_
    refine mv_lload (pc := 117) B d_Exprs_part_117 6 rfl ?_
    obtain ⟨v6, h5, eh5, hf⟩ := xeb_e hf
    refine mv_callSi (pc := 119) (n := 2) B (mK_ok sk sv) hNs (cx_Bits_below l hi _ _ _ _ eh5) rfl (ma_goodc kc_Bits_below) (B.2.2.2.1 _ k_1473) (B.2.2.2.1 _ k_1474) (B.2.2.2.1 _ k_33) ⟨by decide +kernel, by decide +kernel, by decide +kernel⟩ rfl d_Exprs_part_119 rfl (Nat.le_of_ble_eq_true rfl) ⟨by decide, by decide⟩ ⟨by decide, by decide⟩ ⟨by decide, by decide⟩ (mv_noH hno _) (fun w119 σ119 h119 => ?_)
    obtain ⟨rfl, rfl⟩ := h119
    refine mv_istore (pc := 122) B d_Exprs_part_122 (by decide) rfl ?_
    refine mv_iload (pc := 124) B d_Exprs_part_124 1 rfl ?_
    refine mv_if_eq (pc := 126) (tgt := 135) B d_Exprs_part_126 rfl (fun h126 => ?_) (fun h126 => ?_)
    · skip
      have hf := x_eq_t (y := 0) h126 hf
      refine mv_lpick [2, 4, 5, 6, 7, 1, 0] rfl ?_
      exact jn135 _ _ _ _ _ _ _ hf
    · skip
      have hf := x_eq_f (y := 0) h126 hf
      refine mv_aload_n (pc := 129) B d_Exprs_part_129 rfl 2 rfl ?_
      refine mv_iload_n (pc := 130) B d_Exprs_part_130 rfl 3 rfl ?_
      refine mv_iconst (pc := 131) (v := nI 3) B d_Exprs_part_131 (by decide) ?_
      obtain ⟨h7, eh7, hf⟩ := xev_e hf
      refine mv_callVv (pc := 132) (n := 2) (ci := 6) (C := R_Exprs) B (mK_ok sk sv) hNs rfl rfl (cx_Exprs_tell l hi _ hb _ _ _ eh7) rfl (ma_goodc kc_Exprs_tell) (B.2.2.2.1 _ k_1427) (B.2.2.2.1 _ k_1429) (B.2.2.2.1 _ ks_50) (B.2.2.2.1 _ k_7) ⟨by decide +kernel, by decide +kernel, by decide +kernel⟩ rfl d_Exprs_part_132 rfl (Nat.le_of_ble_eq_true rfl) ⟨by decide, by decide⟩ ⟨by decide, by decide⟩ ⟨by decide, by decide⟩ (mv_noH hno _) (fun σ132 h132 => ?_)
      subst h132
      refine mv_lpick [2, 4, 5, 6, 7, 1, 0] rfl ?_
      exact jn135 _ _ _ _ _ _ _ hf
  have jn112 : ∀ (x1 : Nat) (x2 : Nat) (x3 : Nat) (x4 : Nat) (x6 : Nat) (h : xE), g_Exprs_part_112 x1 x2 x3 x4 x6 h = some rg → mv_V p l e ({ frames := 3, cells := 0, slots := 0, locals := 63 }) s m ([.ref (al 22)] : List Value).toArray below meth c (mg dA D al me) 12 0 0 (mv_Q (mg dA D al me) below s 0 0 (mv_Rv (fun σ1 => σ1 = ab b rg))) (ab b h) 112 [(0, .ref (al 22)), (1, .int (nI x1)), (2, .int (nI x2)), (3, .int (nI x3)), (4, .long (nJ x4)), (6, .long (nJ x6))] [] := by
    intro x1 x2 x3 x4 x6 h hf
    unfold g_Exprs_part_112 at hf
    refine mv_iconst (pc := 112) (v := nI 0) B d_Exprs_part_112 (by decide) ?_
    refine mv_lpick [0, 1, 2, 3, 4, 5] rfl ?_
    exact jn113 _ _ _ _ _ _ _ hf
  have jn108 : ∀ (x1 : Nat) (x2 : Nat) (x3 : Nat) (x4 : Nat) (x6 : Nat) (h : xE), g_Exprs_part_108 x1 x2 x3 x4 x6 h = some rg → mv_V p l e ({ frames := 3, cells := 0, slots := 0, locals := 63 }) s m ([.ref (al 22)] : List Value).toArray below meth c (mg dA D al me) 12 0 0 (mv_Q (mg dA D al me) below s 0 0 (mv_Rv (fun σ1 => σ1 = ab b rg))) (ab b h) 108 [(0, .ref (al 22)), (1, .int (nI x1)), (2, .int (nI x2)), (3, .int (nI x3)), (4, .long (nJ x4)), (6, .long (nJ x6))] [] := by
    intro x1 x2 x3 x4 x6 h hf
    unfold g_Exprs_part_108 at hf
    refine mv_iconst (pc := 108) (v := nI 1) B d_Exprs_part_108 (by decide) ?_
    refine mv_goto (pc := 109) (tgt := 113) B d_Exprs_part_109 rfl ?_
    refine mv_lpick [0, 1, 2, 3, 4, 5] rfl ?_
    exact jn113 _ _ _ _ _ _ _ hf
  have jn52 : ∀ (x1 : Nat) (x2 : Nat) (h : xE), g_Exprs_part_52 x1 x2 h = some rg → mv_V p l e ({ frames := 3, cells := 0, slots := 0, locals := 63 }) s m ([.ref (al 22)] : List Value).toArray below meth c (mg dA D al me) 12 0 0 (mv_Q (mg dA D al me) below s 0 0 (mv_Rv (fun σ1 => σ1 = ab b rg))) (ab b h) 52 [(0, .ref (al 22)), (1, .int (nI x1)), (2, .int (nI x2))] [] := by
    intro x1 x2 h hf
    unfold g_Exprs_part_52 at hf
    refine mv_aload_n (pc := 52) B d_Exprs_part_52 rfl 0 rfl ?_
    refine mv_getR (pc := 53) (ci := 6) (C := R_Exprs) (T := F_Exprs) (N := 11) B 0 rfl rfl (by decide) i_Exprs (B.2.2.2.1 _ k_193) rfl (hb.1.1 22 0 _ rfl) d_Exprs_part_53 ?_
    refine mv_bipush (pc := 56) (v := nI 93) B d_Exprs_part_56 (by decide) ?_
    obtain ⟨v9, h8, eh8, hf⟩ := xeb_e hf
    refine mv_callVi (pc := 58) (n := 1) (ci := 2) (C := R_Tokens) B (mK_ok sk sv) hNs rfl rfl (cx_Tokens_close l hi _ hb _ _ eh8) rfl (ma_goodc kc_Tokens_close) (B.2.2.2.1 _ k_1468) (B.2.2.2.1 _ k_1397) (B.2.2.2.1 _ k_1398) (B.2.2.2.1 _ k_3) ⟨by decide +kernel, by decide +kernel, by decide +kernel⟩ rfl d_Exprs_part_58 rfl (Nat.le_of_ble_eq_true rfl) ⟨by decide, by decide⟩ ⟨by decide, by decide⟩ ⟨by decide, by decide⟩ (mv_noH hno _) (fun w58 σ58 h58 => ?_)
    obtain ⟨rfl, rfl⟩ := h58
    refine mv_pop (pc := 61) B d_Exprs_part_61 rfl ?_
    refine mv_aload_n (pc := 62) B d_Exprs_part_62 rfl 0 rfl ?_
    obtain ⟨v11, h10, eh10, hf⟩ := xeb_e hf
    refine mv_callVi (pc := 63) (n := 0) (ci := 6) (C := R_Exprs) B (mK_ok sk sv) hNs rfl rfl (cx_Exprs_release l hi _ hb _ eh10) rfl (ma_goodc kc_Exprs_release) (B.2.2.2.1 _ k_1469) (B.2.2.2.1 _ k_1470) (B.2.2.2.1 _ k_1471) (B.2.2.2.1 _ k_7) ⟨by decide +kernel, by decide +kernel, by decide +kernel⟩ rfl d_Exprs_part_63 rfl (Nat.le_of_ble_eq_true rfl) ⟨by decide, by decide⟩ ⟨by decide, by decide⟩ ⟨by decide, by decide⟩ (mv_noH hno _) (fun w63 σ63 h63 => ?_)
    obtain ⟨rfl, rfl⟩ := h63
    refine mv_istore_n (pc := 66) B d_Exprs_part_66 rfl (by decide) rfl ?_
    refine mv_aload_n (pc := 67) B d_Exprs_part_67 rfl 1 rfl ?_
    refine mv_getR (pc := 68) (ci := 6) (C := R_Exprs) (T := F_Exprs) (N := 11) B 0 rfl rfl (by decide) i_Exprs (B.2.2.2.1 _ k_193) rfl (hb.1.1 22 0 _ rfl) d_Exprs_part_68 ?_
    refine mv_getR (pc := 71) (ci := 2) (C := R_Tokens) (T := F_Tokens) (N := 10) B 2 rfl rfl (by decide) i_Tokens (B.2.2.2.1 _ k_95) rfl (hb.1.1 3 2 _ rfl) d_Exprs_part_71 ?_
    refine mv_iload_n (pc := 74) B d_Exprs_part_74 rfl 2 rfl ?_
    obtain ⟨q12, hf⟩ := xix_e hf
    refine mv_lald (pc := 75) B rfl (xin q12 (by decide)) d_Exprs_part_75 ?_
    obtain ⟨v13, ev13, hf⟩ := xer_e hf
    refine mvn_topl (xfb_6 q12 ev13) ?_
    refine mv_lstore (pc := 76) B d_Exprs_part_76 (by decide) rfl ?_
    refine mv_aload_n (pc := 78) B d_Exprs_part_78 rfl 2 rfl ?_
    refine mv_getR (pc := 79) (ci := 6) (C := R_Exprs) (T := F_Exprs) (N := 11) B 0 rfl rfl (by decide) i_Exprs (B.2.2.2.1 _ k_193) rfl (hb.1.1 22 0 _ rfl) d_Exprs_part_79 ?_
    refine mv_getR (pc := 82) (ci := 2) (C := R_Tokens) (T := F_Tokens) (N := 10) B 2 rfl rfl (by decide) i_Tokens (B.2.2.2.1 _ k_95) rfl (hb.1.1 3 2 _ rfl) d_Exprs_part_82 ?_
    refine mv_iload_n (pc := 85) B d_Exprs_part_85 rfl 4 rfl ?_
    obtain ⟨q14, hf⟩ := xix_e hf
    refine mv_lald (pc := 86) B rfl (xin q14 (by decide)) d_Exprs_part_86 ?_
    obtain ⟨v15, ev15, hf⟩ := xer_e hf
    refine mvn_topl (xfb_6 q14 ev15) ?_
    refine mv_lstore (pc := 87) B d_Exprs_part_87 (by decide) rfl ?_
    refine mv_iload_n (pc := 89) B d_Exprs_part_89 rfl 2 rfl ?_
    refine mv_if_le (pc := 90) (tgt := 112) B d_Exprs_part_90 rfl (fun h90 => ?_) (fun h90 => ?_)
    · skip
      have hf := x_le_t (y := 0) h90 hf
      refine mv_lpick [3, 4, 5, 2, 1, 0] rfl ?_
      exact jn112 _ _ _ _ _ _ hf
    · skip
      have hf := x_le_f (y := 0) h90 hf
      refine mv_lload (pc := 93) B d_Exprs_part_93 1 rfl ?_
      refine mv_lconst (pc := 95) (v := nJ 0) B d_Exprs_part_95 (by decide) ?_
      refine mvn_lcmp (pc := 96) B d_Exprs_part_96 ?_
      refine mv_if_lt (pc := 97) (tgt := 108) B d_Exprs_part_97 rfl (fun h97 => ?_) (fun h97 => ?_)
      · skip
        have hf := x_lt_t (y := 0) h97 hf
        refine mv_lpick [3, 4, 5, 2, 1, 0] rfl ?_
        exact jn108 _ _ _ _ _ _ hf
      · skip
        have hf := x_lt_f (y := 0) h97 hf
        refine mv_lload (pc := 100) B d_Exprs_part_100 1 rfl ?_
        refine mv_iload_n (pc := 102) B d_Exprs_part_102 rfl 2 rfl ?_
        refine mvn_i2l (pc := 103) B d_Exprs_part_103 ?_
        refine mvn_lcmp (pc := 104) B d_Exprs_part_104 ?_
        refine mv_if_lt (pc := 105) (tgt := 112) B d_Exprs_part_105 rfl (fun h105 => ?_) (fun h105 => ?_)
        · skip
          have hf := x_lt_t (y := 0) h105 hf
          refine mv_lpick [3, 4, 5, 2, 1, 0] rfl ?_
          exact jn112 _ _ _ _ _ _ hf
        · skip
          have hf := x_lt_f (y := 0) h105 hf
          refine mv_lpick [3, 4, 5, 2, 1, 0] rfl ?_
          exact jn108 _ _ _ _ _ _ hf
  unfold g_Exprs_part at hf
  refine mv_aload_n (pc := 0) B d_Exprs_part_0 rfl 0 rfl ?_
  refine mv_getR (pc := 1) (ci := 6) (C := R_Exprs) (T := F_Exprs) (N := 11) B 0 rfl rfl (by decide) i_Exprs (B.2.2.2.1 _ k_193) rfl (hb.1.1 22 0 _ rfl) d_Exprs_part_1 ?_
  refine mv_bipush (pc := 4) (v := nI 91) B d_Exprs_part_4 (by decide) ?_
  obtain ⟨v17, h16, eh16, hf⟩ := xeb_e hf
  refine mv_callVi (pc := 6) (n := 1) (ci := 2) (C := R_Tokens) B (mK_ok sk sv) hNs rfl rfl (cx_Tokens_open l hi _ hb _ _ eh16) rfl (ma_goodc kc_Tokens_open) (B.2.2.2.1 _ k_1415) (B.2.2.2.1 _ k_1350) (B.2.2.2.1 _ k_1351) (B.2.2.2.1 _ k_3) ⟨by decide +kernel, by decide +kernel, by decide +kernel⟩ rfl d_Exprs_part_6 rfl (Nat.le_of_ble_eq_true rfl) ⟨by decide, by decide⟩ ⟨by decide, by decide⟩ ⟨by decide, by decide⟩ (mv_noH hno _) (fun w6 σ6 h6 => ?_)
  obtain ⟨rfl, rfl⟩ := h6
  refine mv_pop (pc := 9) B d_Exprs_part_9 rfl ?_
  refine mv_aload_n (pc := 10) B d_Exprs_part_10 rfl 0 rfl ?_
  refine mv_getR (pc := 11) (ci := 6) (C := R_Exprs) (T := F_Exprs) (N := 11) B 0 rfl rfl (by decide) i_Exprs (B.2.2.2.1 _ k_193) rfl (hb.1.1 22 0 _ rfl) d_Exprs_part_11 ?_
  refine mv_iconst (pc := 14) (v := nI 4) B d_Exprs_part_14 (by decide) ?_
  obtain ⟨v19, h18, eh18, hf⟩ := xeb_e hf
  refine mv_callVi (pc := 15) (n := 1) (ci := 2) (C := R_Tokens) B (mK_ok sk sv) hNs rfl rfl (cx_Tokens_take l hi _ hb _ _ eh18) rfl (ma_goodc kc_Tokens_take) (B.2.2.2.1 _ k_1424) (B.2.2.2.1 _ k_1267) (B.2.2.2.1 _ k_1268) (B.2.2.2.1 _ k_3) ⟨by decide +kernel, by decide +kernel, by decide +kernel⟩ rfl d_Exprs_part_15 rfl (Nat.le_of_ble_eq_true rfl) ⟨by decide, by decide⟩ ⟨by decide, by decide⟩ ⟨by decide, by decide⟩ (mv_noH hno _) (fun w15 σ15 h15 => ?_)
  obtain ⟨rfl, rfl⟩ := h15
  refine mv_istore_n (pc := 18) B d_Exprs_part_18 rfl (by decide) rfl ?_
  refine mv_iload_n (pc := 19) B d_Exprs_part_19 rfl 0 rfl ?_
  refine mv_istore_n (pc := 20) B d_Exprs_part_20 rfl (by decide) rfl ?_
  refine mv_aload_n (pc := 21) B d_Exprs_part_21 rfl 2 rfl ?_
  refine mv_getR (pc := 22) (ci := 6) (C := R_Exprs) (T := F_Exprs) (N := 11) B 0 rfl rfl (by decide) i_Exprs (B.2.2.2.1 _ k_193) rfl (hb.1.1 22 0 _ rfl) d_Exprs_part_22 ?_
  obtain ⟨v21, h20, eh20, hf⟩ := xeb_e hf
  refine mv_callVi (pc := 25) (n := 0) (ci := 2) (C := R_Tokens) B (mK_ok sk sv) hNs rfl rfl (cx_Tokens_kind l hi _ hb _ eh20) rfl (ma_goodc kc_Tokens_kind) (B.2.2.2.1 _ k_1414) (B.2.2.2.1 _ k_1271) (B.2.2.2.1 _ k_1272) (B.2.2.2.1 _ k_3) ⟨by decide +kernel, by decide +kernel, by decide +kernel⟩ rfl d_Exprs_part_25 rfl (Nat.le_of_ble_eq_true rfl) ⟨by decide, by decide⟩ ⟨by decide, by decide⟩ ⟨by decide, by decide⟩ (mv_noH hno _) (fun w25 σ25 h25 => ?_)
  obtain ⟨rfl, rfl⟩ := h25
  refine mv_bipush (pc := 28) (v := nI 58) B d_Exprs_part_28 (by decide) ?_
  refine mv_icmp_ne (pc := 30) (tgt := 52) B d_Exprs_part_30 rfl (fun h30 => ?_) (fun h30 => ?_)
  · skip
    have hf := x_eq_f h30 hf
    refine mv_lpick [2, 1, 0] rfl ?_
    exact jn52 _ _ _ hf
  · skip
    have hf := x_eq_t h30 hf
    refine mv_aload_n (pc := 33) B d_Exprs_part_33 rfl 2 rfl ?_
    refine mv_getR (pc := 34) (ci := 6) (C := R_Exprs) (T := F_Exprs) (N := 11) B 0 rfl rfl (by decide) i_Exprs (B.2.2.2.1 _ k_193) rfl (hb.1.1 22 0 _ rfl) d_Exprs_part_34 ?_
    refine mv_bipush (pc := 37) (v := nI 58) B d_Exprs_part_37 (by decide) ?_
    obtain ⟨v23, h22, eh22, hf⟩ := xeb_e hf
    refine mv_callVi (pc := 39) (n := 1) (ci := 2) (C := R_Tokens) B (mK_ok sk sv) hNs rfl rfl (cx_Tokens_take l hi _ hb _ _ eh22) rfl (ma_goodc kc_Tokens_take) (B.2.2.2.1 _ k_1424) (B.2.2.2.1 _ k_1267) (B.2.2.2.1 _ k_1268) (B.2.2.2.1 _ k_3) ⟨by decide +kernel, by decide +kernel, by decide +kernel⟩ rfl d_Exprs_part_39 rfl (Nat.le_of_ble_eq_true rfl) ⟨by decide, by decide⟩ ⟨by decide, by decide⟩ ⟨by decide, by decide⟩ (mv_noH hno _) (fun w39 σ39 h39 => ?_)
    obtain ⟨rfl, rfl⟩ := h39
    refine mv_pop (pc := 42) B d_Exprs_part_42 rfl ?_
    refine mv_aload_n (pc := 43) B d_Exprs_part_43 rfl 2 rfl ?_
    refine mv_getR (pc := 44) (ci := 6) (C := R_Exprs) (T := F_Exprs) (N := 11) B 0 rfl rfl (by decide) i_Exprs (B.2.2.2.1 _ k_193) rfl (hb.1.1 22 0 _ rfl) d_Exprs_part_44 ?_
    refine mv_iconst (pc := 47) (v := nI 4) B d_Exprs_part_47 (by decide) ?_
    obtain ⟨v25, h24, eh24, hf⟩ := xeb_e hf
    refine mv_callVi (pc := 48) (n := 1) (ci := 2) (C := R_Tokens) B (mK_ok sk sv) hNs rfl rfl (cx_Tokens_take l hi _ hb _ _ eh24) rfl (ma_goodc kc_Tokens_take) (B.2.2.2.1 _ k_1424) (B.2.2.2.1 _ k_1267) (B.2.2.2.1 _ k_1268) (B.2.2.2.1 _ k_3) ⟨by decide +kernel, by decide +kernel, by decide +kernel⟩ rfl d_Exprs_part_48 rfl (Nat.le_of_ble_eq_true rfl) ⟨by decide, by decide⟩ ⟨by decide, by decide⟩ ⟨by decide, by decide⟩ (mv_noH hno _) (fun w48 σ48 h48 => ?_)
    obtain ⟨rfl, rfl⟩ := h48
    refine mv_istore_n (pc := 51) B d_Exprs_part_51 rfl (by decide) rfl ?_
    refine mv_lpick [2, 1, 0] rfl ?_
    exact jn52 _ _ _ hf
def g_Exprs_ofTwo_125 (y0 : Nat) (h : xE) : Option xE := xev (g_Exprs_hold h y0) fun h1 => some h1
def g_Exprs_ofTwo_119 (h : xE) : Option xE := g_Exprs_ofTwo_125 1 h
def g_Exprs_ofTwo_93 (x1 : Nat) (x4 : Nat) (h : xE) : Option xE := xeb (g_Exprs_levelOf h x1) fun v3 h2 => bif xeq v3 4 then (g_Exprs_ofTwo_119  h2) else (bif xeq v3 5 then (g_Exprs_ofTwo_119  h2) else (bif xeq x1 213 then (g_Exprs_ofTwo_119  h2) else (g_Exprs_ofTwo_125 x4 h2)))
def g_Exprs_ofTwo_60 (h : xE) : Option xE := xev (g_Exprs_hold h 0) fun h4 => some h4
def g_Exprs_ofTwo_49 (x1 : Nat) (x2 : Nat) (x3 : Nat) (x4 : Nat) (y0 : Nat) (h : xE) : Option xE := bif xeq x4 0 then (g_Exprs_ofTwo_60  h) else (bif xeq x3 0 then (g_Exprs_ofTwo_60  h) else (bif xeq x4 x3 then (g_Exprs_ofTwo_93 x1 x4 h) else (bif xeq y0 0 then (xev (g_Exprs_tell h x2 4) fun h5 => xev (g_Exprs_hold h5 0) fun h6 => some h6) else (g_Exprs_ofTwo_93 x1 x4 h))))
def g_Exprs_ofTwo_44 (x1 : Nat) (x2 : Nat) (x3 : Nat) (x4 : Nat) (h : xE) : Option xE := g_Exprs_ofTwo_49 x1 x2 x3 x4 1 h
def g_Exprs_ofTwo (h : xE) (a0 : Nat) (a1 : Nat) : Option xE := xeb (g_Exprs_release h) fun v8 h7 => xeb (g_Exprs_release h7) fun v10 h9 => xeb (g_Program_emit h9 a0 (xi2l v10)) fun v12 h11 => bif xeq a0 131 then (g_Exprs_ofTwo_44 a0 a1 v8 v10 h11) else (bif xeq a0 132 then (g_Exprs_ofTwo_44 a0 a1 v8 v10 h11) else (bif xeq a0 216 then (g_Exprs_ofTwo_44 a0 a1 v8 v10 h11) else (g_Exprs_ofTwo_49 a0 a1 v8 v10 0 h11)))
set_option maxHeartbeats 4000000 in
set_option maxRecDepth 100000 in
theorem cx_Exprs_ofTwo (l : Launch) {dA : FieldType → ClassId} {D : va_G} {al : Nat → Nat} {sk sv : Nat → Nat} (hi : mv_inj (mg dA D al me)) (b : mv_H) (hb : xR (mv_r b)) (h : xE) (a0 : Nat) (a1 : Nat) {rg : xE} (hf : g_Exprs_ofTwo h a0 a1 = some rg) : mv_C l y_Exprs_ofTwo (Cond.code y_Exprs_ofTwo b_Exprs_ofTwo 7 (Option.none : Option Jvm.ClassFile.FieldType) :: ma) ({ frames := 2, cells := 0, slots := 0, locals := 44 }) (mg dA D al me) (mK sk sv) [.ref (al 22), .int (nI a0), .int (nI a1)] (ab b h) (mv_Rv (fun σ1 => σ1 = ab b rg)) := by
  refine mv_C.ofV (cc := b_Exprs_ofTwo) (nL := 7) (ret := (Option.none : Option Jvm.ClassFile.FieldType)) (by decide +kernel) rfl hi (Nat.le_of_ble_eq_true rfl) ?_
  intro p e s m below meth c B hNs hr hnm hno
  have jn125 : ∀ (y0 : Nat) (h : xE), g_Exprs_ofTwo_125 y0 h = some rg → mv_V p l e ({ frames := 2, cells := 0, slots := 0, locals := 44 }) s m ([.ref (al 22), .int (nI a0), .int (nI a1)] : List Value).toArray below meth c (mg dA D al me) 7 0 0 (mv_Q (mg dA D al me) below s 0 0 (mv_Rv (fun σ1 => σ1 = ab b rg))) (ab b h) 125 [] [.int (nI y0), .ref (al 22)] := by
    intro y0 h hf
    unfold g_Exprs_ofTwo_125 at hf
    obtain ⟨h1, eh1, hf⟩ := xev_e hf
    refine mv_callVv (pc := 125) (n := 1) (ci := 6) (C := R_Exprs) B (mK_ok sk sv) hNs rfl rfl (cx_Exprs_hold l hi _ hb _ _ eh1) rfl (ma_goodc kc_Exprs_hold) (B.2.2.2.1 _ k_1432) (B.2.2.2.1 _ k_1434) (B.2.2.2.1 _ ks_51) (B.2.2.2.1 _ k_7) ⟨by decide +kernel, by decide +kernel, by decide +kernel⟩ rfl d_Exprs_ofTwo_125 rfl (Nat.le_of_ble_eq_true rfl) ⟨by decide, by decide⟩ ⟨by decide, by decide⟩ ⟨by decide, by decide⟩ (mv_noH hno _) (fun σ125 h125 => ?_)
    subst h125
    exact mv_vret (pc := 128) B hr d_Exprs_ofTwo_128 (Nat.le_refl _) (Nat.le_refl _) ⟨rfl, xret_v hf⟩
  have jn119 : ∀ (h : xE), g_Exprs_ofTwo_119  h = some rg → mv_V p l e ({ frames := 2, cells := 0, slots := 0, locals := 44 }) s m ([.ref (al 22), .int (nI a0), .int (nI a1)] : List Value).toArray below meth c (mg dA D al me) 7 0 0 (mv_Q (mg dA D al me) below s 0 0 (mv_Rv (fun σ1 => σ1 = ab b rg))) (ab b h) 119 [] [.ref (al 22)] := by
    intro  h hf
    unfold g_Exprs_ofTwo_119 at hf
    refine mv_iconst (pc := 119) (v := nI 1) B d_Exprs_ofTwo_119 (by decide) ?_
    refine mv_goto (pc := 120) (tgt := 125) B d_Exprs_ofTwo_120 rfl ?_
    refine mv_lpick [] rfl ?_
    exact jn125 _ _ hf
  have jn93 : ∀ (x1 : Nat) (x4 : Nat) (h : xE), g_Exprs_ofTwo_93 x1 x4 h = some rg → mv_V p l e ({ frames := 2, cells := 0, slots := 0, locals := 44 }) s m ([.ref (al 22), .int (nI a0), .int (nI a1)] : List Value).toArray below meth c (mg dA D al me) 7 0 0 (mv_Q (mg dA D al me) below s 0 0 (mv_Rv (fun σ1 => σ1 = ab b rg))) (ab b h) 93 [(0, .ref (al 22)), (1, .int (nI x1)), (4, .int (nI x4))] [] := by
    intro x1 x4 h hf
    unfold g_Exprs_ofTwo_93 at hf
    refine mv_iload_n (pc := 93) B d_Exprs_ofTwo_93 rfl 1 rfl ?_
    obtain ⟨v3, h2, eh2, hf⟩ := xeb_e hf
    refine mv_callSi (pc := 94) (n := 1) B (mK_ok sk sv) hNs (cx_Exprs_levelOf l hi _ _ _ eh2) rfl (ma_goodc kc_Exprs_levelOf) (B.2.2.2.1 _ k_1482) (B.2.2.2.1 _ k_1483) (B.2.2.2.1 _ k_7) ⟨by decide +kernel, by decide +kernel, by decide +kernel⟩ rfl d_Exprs_ofTwo_94 rfl (Nat.le_of_ble_eq_true rfl) ⟨by decide, by decide⟩ ⟨by decide, by decide⟩ ⟨by decide, by decide⟩ (mv_noH hno _) (fun w94 σ94 h94 => ?_)
    obtain ⟨rfl, rfl⟩ := h94
    refine mv_istore (pc := 97) B d_Exprs_ofTwo_97 (by decide) rfl ?_
    refine mv_aload_n (pc := 99) B d_Exprs_ofTwo_99 rfl 1 rfl ?_
    refine mv_iload (pc := 100) B d_Exprs_ofTwo_100 0 rfl ?_
    refine mv_iconst (pc := 102) (v := nI 4) B d_Exprs_ofTwo_102 (by decide) ?_
    refine mv_icmp_eq (pc := 103) (tgt := 119) B d_Exprs_ofTwo_103 rfl (fun h103 => ?_) (fun h103 => ?_)
    · skip
      have hf := x_eq_t h103 hf
      refine mv_lpick [] rfl ?_
      exact jn119  _ hf
    · skip
      have hf := x_eq_f h103 hf
      refine mv_iload (pc := 106) B d_Exprs_ofTwo_106 0 rfl ?_
      refine mv_iconst (pc := 108) (v := nI 5) B d_Exprs_ofTwo_108 (by decide) ?_
      refine mv_icmp_eq (pc := 109) (tgt := 119) B d_Exprs_ofTwo_109 rfl (fun h109 => ?_) (fun h109 => ?_)
      · skip
        have hf := x_eq_t h109 hf
        refine mv_lpick [] rfl ?_
        exact jn119  _ hf
      · skip
        have hf := x_eq_f h109 hf
        refine mv_iload_n (pc := 112) B d_Exprs_ofTwo_112 rfl 2 rfl ?_
        refine mv_sipush (pc := 113) (v := nI 213) B d_Exprs_ofTwo_113 (by decide) ?_
        refine mv_icmp_ne (pc := 116) (tgt := 123) B d_Exprs_ofTwo_116 rfl (fun h116 => ?_) (fun h116 => ?_)
        · skip
          have hf := x_eq_f h116 hf
          refine mv_iload (pc := 123) B d_Exprs_ofTwo_123 3 rfl ?_
          refine mv_lpick [] rfl ?_
          exact jn125 _ _ hf
        · skip
          have hf := x_eq_t h116 hf
          refine mv_lpick [] rfl ?_
          exact jn119  _ hf
  have jn60 : ∀ (h : xE), g_Exprs_ofTwo_60  h = some rg → mv_V p l e ({ frames := 2, cells := 0, slots := 0, locals := 44 }) s m ([.ref (al 22), .int (nI a0), .int (nI a1)] : List Value).toArray below meth c (mg dA D al me) 7 0 0 (mv_Q (mg dA D al me) below s 0 0 (mv_Rv (fun σ1 => σ1 = ab b rg))) (ab b h) 60 [(0, .ref (al 22))] [] := by
    intro  h hf
    unfold g_Exprs_ofTwo_60 at hf
    refine mv_aload_n (pc := 60) B d_Exprs_ofTwo_60 rfl 0 rfl ?_
    refine mv_iconst (pc := 61) (v := nI 0) B d_Exprs_ofTwo_61 (by decide) ?_
    obtain ⟨h4, eh4, hf⟩ := xev_e hf
    refine mv_callVv (pc := 62) (n := 1) (ci := 6) (C := R_Exprs) B (mK_ok sk sv) hNs rfl rfl (cx_Exprs_hold l hi _ hb _ _ eh4) rfl (ma_goodc kc_Exprs_hold) (B.2.2.2.1 _ k_1432) (B.2.2.2.1 _ k_1434) (B.2.2.2.1 _ ks_51) (B.2.2.2.1 _ k_7) ⟨by decide +kernel, by decide +kernel, by decide +kernel⟩ rfl d_Exprs_ofTwo_62 rfl (Nat.le_of_ble_eq_true rfl) ⟨by decide, by decide⟩ ⟨by decide, by decide⟩ ⟨by decide, by decide⟩ (mv_noH hno _) (fun σ62 h62 => ?_)
    subst h62
    refine mv_goto (pc := 65) (tgt := 128) B d_Exprs_ofTwo_65 rfl ?_
    exact mv_vret (pc := 128) B hr d_Exprs_ofTwo_128 (Nat.le_refl _) (Nat.le_refl _) ⟨rfl, xret_v hf⟩
  have jn49 : ∀ (x1 : Nat) (x2 : Nat) (x3 : Nat) (x4 : Nat) (y0 : Nat) (h : xE), g_Exprs_ofTwo_49 x1 x2 x3 x4 y0 h = some rg → mv_V p l e ({ frames := 2, cells := 0, slots := 0, locals := 44 }) s m ([.ref (al 22), .int (nI a0), .int (nI a1)] : List Value).toArray below meth c (mg dA D al me) 7 0 0 (mv_Q (mg dA D al me) below s 0 0 (mv_Rv (fun σ1 => σ1 = ab b rg))) (ab b h) 49 [(0, .ref (al 22)), (1, .int (nI x1)), (2, .int (nI x2)), (3, .int (nI x3)), (4, .int (nI x4))] [.int (nI y0)] := by
    intro x1 x2 x3 x4 y0 h hf
    unfold g_Exprs_ofTwo_49 at hf
    refine mv_istore (pc := 49) B d_Exprs_ofTwo_49 (by decide) rfl ?_
    refine mv_iload (pc := 51) B d_Exprs_ofTwo_51 5 rfl ?_
    refine mv_if_eq (pc := 53) (tgt := 60) B d_Exprs_ofTwo_53 rfl (fun h53 => ?_) (fun h53 => ?_)
    · skip
      have hf := x_eq_t (y := 0) h53 hf
      refine mv_lpick [1] rfl ?_
      exact jn60  _ hf
    · skip
      have hf := x_eq_f (y := 0) h53 hf
      refine mv_iload_n (pc := 56) B d_Exprs_ofTwo_56 rfl 4 rfl ?_
      refine mv_if_ne (pc := 57) (tgt := 68) B d_Exprs_ofTwo_57 rfl (fun h57 => ?_) (fun h57 => ?_)
      · skip
        have hf := x_eq_f (y := 0) h57 hf
        refine mv_iload (pc := 68) B d_Exprs_ofTwo_68 5 rfl ?_
        refine mv_iload_n (pc := 70) B d_Exprs_ofTwo_70 rfl 4 rfl ?_
        refine mv_icmp_eq (pc := 71) (tgt := 93) B d_Exprs_ofTwo_71 rfl (fun h71 => ?_) (fun h71 => ?_)
        · skip
          have hf := x_eq_t h71 hf
          refine mv_lpick [1, 2, 5] rfl ?_
          exact jn93 _ _ _ hf
        · skip
          have hf := x_eq_f h71 hf
          refine mv_iload (pc := 74) B d_Exprs_ofTwo_74 0 rfl ?_
          refine mv_if_ne (pc := 76) (tgt := 93) B d_Exprs_ofTwo_76 rfl (fun h76 => ?_) (fun h76 => ?_)
          · skip
            have hf := x_eq_f (y := 0) h76 hf
            refine mv_lpick [1, 2, 5] rfl ?_
            exact jn93 _ _ _ hf
          · skip
            have hf := x_eq_t (y := 0) h76 hf
            refine mv_aload_n (pc := 79) B d_Exprs_ofTwo_79 rfl 1 rfl ?_
            refine mv_iload_n (pc := 80) B d_Exprs_ofTwo_80 rfl 3 rfl ?_
            refine mv_iconst (pc := 81) (v := nI 4) B d_Exprs_ofTwo_81 (by decide) ?_
            obtain ⟨h5, eh5, hf⟩ := xev_e hf
            refine mv_callVv (pc := 82) (n := 2) (ci := 6) (C := R_Exprs) B (mK_ok sk sv) hNs rfl rfl (cx_Exprs_tell l hi _ hb _ _ _ eh5) rfl (ma_goodc kc_Exprs_tell) (B.2.2.2.1 _ k_1427) (B.2.2.2.1 _ k_1429) (B.2.2.2.1 _ ks_50) (B.2.2.2.1 _ k_7) ⟨by decide +kernel, by decide +kernel, by decide +kernel⟩ rfl d_Exprs_ofTwo_82 rfl (Nat.le_of_ble_eq_true rfl) ⟨by decide, by decide⟩ ⟨by decide, by decide⟩ ⟨by decide, by decide⟩ (mv_noH hno _) (fun σ82 h82 => ?_)
            subst h82
            refine mv_aload_n (pc := 85) B d_Exprs_ofTwo_85 rfl 1 rfl ?_
            refine mv_iconst (pc := 86) (v := nI 0) B d_Exprs_ofTwo_86 (by decide) ?_
            obtain ⟨h6, eh6, hf⟩ := xev_e hf
            refine mv_callVv (pc := 87) (n := 1) (ci := 6) (C := R_Exprs) B (mK_ok sk sv) hNs rfl rfl (cx_Exprs_hold l hi _ hb _ _ eh6) rfl (ma_goodc kc_Exprs_hold) (B.2.2.2.1 _ k_1432) (B.2.2.2.1 _ k_1434) (B.2.2.2.1 _ ks_51) (B.2.2.2.1 _ k_7) ⟨by decide +kernel, by decide +kernel, by decide +kernel⟩ rfl d_Exprs_ofTwo_87 rfl (Nat.le_of_ble_eq_true rfl) ⟨by decide, by decide⟩ ⟨by decide, by decide⟩ ⟨by decide, by decide⟩ (mv_noH hno _) (fun σ87 h87 => ?_)
            subst h87
            refine mv_goto (pc := 90) (tgt := 128) B d_Exprs_ofTwo_90 rfl ?_
            exact mv_vret (pc := 128) B hr d_Exprs_ofTwo_128 (Nat.le_refl _) (Nat.le_refl _) ⟨rfl, xret_v hf⟩
      · skip
        have hf := x_eq_t (y := 0) h57 hf
        refine mv_lpick [1] rfl ?_
        exact jn60  _ hf
  have jn44 : ∀ (x1 : Nat) (x2 : Nat) (x3 : Nat) (x4 : Nat) (h : xE), g_Exprs_ofTwo_44 x1 x2 x3 x4 h = some rg → mv_V p l e ({ frames := 2, cells := 0, slots := 0, locals := 44 }) s m ([.ref (al 22), .int (nI a0), .int (nI a1)] : List Value).toArray below meth c (mg dA D al me) 7 0 0 (mv_Q (mg dA D al me) below s 0 0 (mv_Rv (fun σ1 => σ1 = ab b rg))) (ab b h) 44 [(0, .ref (al 22)), (1, .int (nI x1)), (2, .int (nI x2)), (3, .int (nI x3)), (4, .int (nI x4))] [] := by
    intro x1 x2 x3 x4 h hf
    unfold g_Exprs_ofTwo_44 at hf
    refine mv_iconst (pc := 44) (v := nI 1) B d_Exprs_ofTwo_44 (by decide) ?_
    refine mv_goto (pc := 45) (tgt := 49) B d_Exprs_ofTwo_45 rfl ?_
    refine mv_lpick [0, 1, 2, 3, 4] rfl ?_
    exact jn49 _ _ _ _ _ _ hf
  unfold g_Exprs_ofTwo at hf
  refine mv_aload_n (pc := 0) B d_Exprs_ofTwo_0 rfl 0 rfl ?_
  obtain ⟨v8, h7, eh7, hf⟩ := xeb_e hf
  refine mv_callVi (pc := 1) (n := 0) (ci := 6) (C := R_Exprs) B (mK_ok sk sv) hNs rfl rfl (cx_Exprs_release l hi _ hb _ eh7) rfl (ma_goodc kc_Exprs_release) (B.2.2.2.1 _ k_1469) (B.2.2.2.1 _ k_1470) (B.2.2.2.1 _ k_1471) (B.2.2.2.1 _ k_7) ⟨by decide +kernel, by decide +kernel, by decide +kernel⟩ rfl d_Exprs_ofTwo_1 rfl (Nat.le_of_ble_eq_true rfl) ⟨by decide, by decide⟩ ⟨by decide, by decide⟩ ⟨by decide, by decide⟩ (mv_noH hno _) (fun w1 σ1 h1 => ?_)
  obtain ⟨rfl, rfl⟩ := h1
  refine mv_istore_n (pc := 4) B d_Exprs_ofTwo_4 rfl (by decide) rfl ?_
  refine mv_aload_n (pc := 5) B d_Exprs_ofTwo_5 rfl 1 rfl ?_
  obtain ⟨v10, h9, eh9, hf⟩ := xeb_e hf
  refine mv_callVi (pc := 6) (n := 0) (ci := 6) (C := R_Exprs) B (mK_ok sk sv) hNs rfl rfl (cx_Exprs_release l hi _ hb _ eh9) rfl (ma_goodc kc_Exprs_release) (B.2.2.2.1 _ k_1469) (B.2.2.2.1 _ k_1470) (B.2.2.2.1 _ k_1471) (B.2.2.2.1 _ k_7) ⟨by decide +kernel, by decide +kernel, by decide +kernel⟩ rfl d_Exprs_ofTwo_6 rfl (Nat.le_of_ble_eq_true rfl) ⟨by decide, by decide⟩ ⟨by decide, by decide⟩ ⟨by decide, by decide⟩ (mv_noH hno _) (fun w6 σ6 h6 => ?_)
  obtain ⟨rfl, rfl⟩ := h6
  refine mv_istore (pc := 9) B d_Exprs_ofTwo_9 (by decide) rfl ?_
  refine mv_aload_n (pc := 11) B d_Exprs_ofTwo_11 rfl 2 rfl ?_
  refine mv_getR (pc := 12) (ci := 6) (C := R_Exprs) (T := F_Exprs) (N := 11) B 3 rfl rfl (by decide) i_Exprs (B.2.2.2.1 _ k_197) rfl hb.1.2.2.2 d_Exprs_ofTwo_12 ?_
  refine mv_iload_n (pc := 15) B d_Exprs_ofTwo_15 rfl 3 rfl ?_
  refine mv_iload (pc := 16) B d_Exprs_ofTwo_16 0 rfl ?_
  refine mvn_i2l (pc := 18) B d_Exprs_ofTwo_18 ?_
  obtain ⟨v12, h11, eh11, hf⟩ := xeb_e hf
  refine mv_callVi (pc := 19) (n := 2) (ci := 7) (C := R_Program) B (mK_ok sk sv) hNs rfl rfl (cx_Program_emit l hi _ hb _ _ _ eh11) rfl (ma_goodc kc_Program_emit) (B.2.2.2.1 _ k_1425) (B.2.2.2.1 _ k_1385) (B.2.2.2.1 _ k_1386) (B.2.2.2.1 _ k_8) ⟨by decide +kernel, by decide +kernel, by decide +kernel⟩ rfl d_Exprs_ofTwo_19 rfl (Nat.le_of_ble_eq_true rfl) ⟨by decide, by decide⟩ ⟨by decide, by decide⟩ ⟨by decide, by decide⟩ (mv_noH hno _) (fun w19 σ19 h19 => ?_)
  obtain ⟨rfl, rfl⟩ := h19
  refine mv_pop (pc := 22) B d_Exprs_ofTwo_22 rfl ?_
  refine mv_iload_n (pc := 23) B d_Exprs_ofTwo_23 rfl 3 rfl ?_
  refine mv_sipush (pc := 24) (v := nI 131) B d_Exprs_ofTwo_24 (by decide) ?_
  refine mv_icmp_eq (pc := 27) (tgt := 44) B d_Exprs_ofTwo_27 rfl (fun h27 => ?_) (fun h27 => ?_)
  · skip
    have hf := x_eq_t h27 hf
    refine mv_lpick [2, 3, 4, 1, 0] rfl ?_
    exact jn44 _ _ _ _ _ hf
  · skip
    have hf := x_eq_f h27 hf
    refine mv_iload_n (pc := 30) B d_Exprs_ofTwo_30 rfl 3 rfl ?_
    refine mv_sipush (pc := 31) (v := nI 132) B d_Exprs_ofTwo_31 (by decide) ?_
    refine mv_icmp_eq (pc := 34) (tgt := 44) B d_Exprs_ofTwo_34 rfl (fun h34 => ?_) (fun h34 => ?_)
    · skip
      have hf := x_eq_t h34 hf
      refine mv_lpick [2, 3, 4, 1, 0] rfl ?_
      exact jn44 _ _ _ _ _ hf
    · skip
      have hf := x_eq_f h34 hf
      refine mv_iload_n (pc := 37) B d_Exprs_ofTwo_37 rfl 3 rfl ?_
      refine mv_sipush (pc := 38) (v := nI 216) B d_Exprs_ofTwo_38 (by decide) ?_
      refine mv_icmp_ne (pc := 41) (tgt := 48) B d_Exprs_ofTwo_41 rfl (fun h41 => ?_) (fun h41 => ?_)
      · skip
        have hf := x_eq_f h41 hf
        refine mv_iconst (pc := 48) (v := nI 0) B d_Exprs_ofTwo_48 (by decide) ?_
        refine mv_lpick [2, 3, 4, 1, 0] rfl ?_
        exact jn49 _ _ _ _ _ _ hf
      · skip
        have hf := x_eq_t h41 hf
        refine mv_lpick [2, 3, 4, 1, 0] rfl ?_
        exact jn44 _ _ _ _ _ hf
def g_Exprs_endSigns_105 (k2 : Nat → xE → Option xE) (x1 : Nat) (x2 : Nat) (x3 : Nat) (h : xE) : Option xE := xeb (g_Bits_mask h x3) fun v2 h1 => xeb (g_Program_emit h1 x2 v2) fun v4 h3 => xev (g_Exprs_hold h3 x3) fun h5 => k2 (xadd x1 1) h5
def g_Exprs_endSigns_49 (k2 : Nat → xE → Option xE) (x1 : Nat) (x2 : Nat) (h : xE) : Option xE := xer (ep_g h.1 17) fun v6 => xwi h 17 (xsub v6 1) fun h7 => xer (ep_g h7.1 10) fun v8 => xwi h7 10 (xsub v8 1) fun h9 => xeb (g_Exprs_release h9) fun v11 h10 => bif xeq x2 307 then (bif xlt 1 v11 then (xer (ep_g h10.1 17) fun v12 => bif Nat.blt v12 1024 then xer (ep_g (xL_24 h10.2) v12) fun v14 => xev (g_Exprs_tell h10 v14 4) fun h15 => g_Exprs_endSigns_105 k2 x1 x2 0 h15 else none) else (g_Exprs_endSigns_105 k2 x1 x2 v11 h10)) else (g_Exprs_endSigns_105 k2 x1 x2 v11 h10)
def gF_Exprs_endSigns_2 (k2 : Nat → xE → Option xE) (x1 : Nat) (h : xE) : Option xE := xfz x1 fun x1 => bif xlt 60 x1 then (some h) else (xer (ep_g h.1 17) fun v16 => bif xlt 0 v16 then (xer (ep_g h.1 17) fun v17 => bif Nat.blt (xsub v17 1) 1024 then xer (ep_g (xL_23 h.2) (xsub v17 1)) fun v19 => bif xeq v19 305 then (g_Exprs_endSigns_49 k2 x1 v19 h) else (bif xeq v19 306 then (g_Exprs_endSigns_49 k2 x1 v19 h) else (bif xeq v19 307 then (g_Exprs_endSigns_49 k2 x1 v19 h) else (some h))) else none) else (some h))
def g_Exprs_endSigns_2 : Nat → Nat → xE → Option xE
  | 0 => fun _ _ => none
  | nn + 1 => gF_Exprs_endSigns_2 (g_Exprs_endSigns_2 nn)
def g_Exprs_endSigns (h : xE) : Option xE := g_Exprs_endSigns_2 200000 0 h
set_option maxHeartbeats 4000000 in
set_option maxRecDepth 100000 in
theorem cx_Exprs_endSigns (l : Launch) {dA : FieldType → ClassId} {D : va_G} {al : Nat → Nat} {sk sv : Nat → Nat} (hi : mv_inj (mg dA D al me)) (b : mv_H) (hb : xR (mv_r b)) (h : xE) {rg : xE} (hf : g_Exprs_endSigns h = some rg) : mv_C l y_Exprs_endSigns (Cond.code y_Exprs_endSigns b_Exprs_endSigns 4 (Option.none : Option Jvm.ClassFile.FieldType) :: ma) ({ frames := 2, cells := 0, slots := 0, locals := 44 }) (mg dA D al me) (mK sk sv) [.ref (al 22)] (ab b h) (mv_Rv (fun σ1 => σ1 = ab b rg)) := by
  refine mv_C.ofV (cc := b_Exprs_endSigns) (nL := 4) (ret := (Option.none : Option Jvm.ClassFile.FieldType)) (by decide +kernel) rfl hi (Nat.le_of_ble_eq_true rfl) ?_
  intro p e s m below meth c B hNs hr hnm hno
  have lp2 : ∀ (nn2 : Nat) (x1 : Nat) (h : xE), g_Exprs_endSigns_2 nn2 x1 h = some rg → mv_V p l e ({ frames := 2, cells := 0, slots := 0, locals := 44 }) s m ([.ref (al 22)] : List Value).toArray below meth c (mg dA D al me) 4 0 0 (mv_Q (mg dA D al me) below s 0 0 (mv_Rv (fun σ1 => σ1 = ab b rg))) (ab b h) 2 [(0, .ref (al 22)), (1, .int (nI x1))] [] := by
    intro nn2
    induction nn2 with
    | zero => intro x1 h hf; cases hf
    | succ nn2 ih2 =>
      intro x1 h hf
      have jn105 : ∀ (x1 : Nat) (x2 : Nat) (x3 : Nat) (h : xE), g_Exprs_endSigns_105 (g_Exprs_endSigns_2 nn2) x1 x2 x3 h = some rg → mv_V p l e ({ frames := 2, cells := 0, slots := 0, locals := 44 }) s m ([.ref (al 22)] : List Value).toArray below meth c (mg dA D al me) 4 0 0 (mv_Q (mg dA D al me) below s 0 0 (mv_Rv (fun σ1 => σ1 = ab b rg))) (ab b h) 105 [(0, .ref (al 22)), (1, .int (nI x1)), (2, .int (nI x2)), (3, .int (nI x3))] [] := by
        intro x1 x2 x3 h hf
        unfold g_Exprs_endSigns_105 at hf
        refine mv_aload_n (pc := 105) B d_Exprs_endSigns_105 rfl 0 rfl ?_
        refine mv_getR (pc := 106) (ci := 6) (C := R_Exprs) (T := F_Exprs) (N := 11) B 3 rfl rfl (by decide) i_Exprs (B.2.2.2.1 _ k_197) rfl hb.1.2.2.2 d_Exprs_endSigns_106 ?_
        refine mv_iload_n (pc := 109) B d_Exprs_endSigns_109 rfl 2 rfl ?_
        refine mv_iload_n (pc := 110) B d_Exprs_endSigns_110 rfl 3 rfl ?_
        obtain ⟨v2, h1, eh1, hf⟩ := xeb_e hf
        refine mv_callSl (pc := 111) (n := 1) B (mK_ok sk sv) hNs (cx_Bits_mask l hi _ _ _ eh1) rfl (ma_goodc kc_Bits_mask) (B.2.2.2.1 _ k_1436) (B.2.2.2.1 _ k_1437) (B.2.2.2.1 _ k_33) ⟨by decide +kernel, by decide +kernel, by decide +kernel⟩ rfl d_Exprs_endSigns_111 rfl (Nat.le_of_ble_eq_true rfl) ⟨by decide, by decide⟩ ⟨by decide, by decide⟩ ⟨by decide, by decide⟩ (mv_noH hno _) (fun w111 σ111 h111 => ?_)
        obtain ⟨rfl, rfl⟩ := h111
        obtain ⟨v4, h3, eh3, hf⟩ := xeb_e hf
        refine mv_callVi (pc := 114) (n := 2) (ci := 7) (C := R_Program) B (mK_ok sk sv) hNs rfl rfl (cx_Program_emit l hi _ hb _ _ _ eh3) rfl (ma_goodc kc_Program_emit) (B.2.2.2.1 _ k_1425) (B.2.2.2.1 _ k_1385) (B.2.2.2.1 _ k_1386) (B.2.2.2.1 _ k_8) ⟨by decide +kernel, by decide +kernel, by decide +kernel⟩ rfl d_Exprs_endSigns_114 rfl (Nat.le_of_ble_eq_true rfl) ⟨by decide, by decide⟩ ⟨by decide, by decide⟩ ⟨by decide, by decide⟩ (mv_noH hno _) (fun w114 σ114 h114 => ?_)
        obtain ⟨rfl, rfl⟩ := h114
        refine mv_pop (pc := 117) B d_Exprs_endSigns_117 rfl ?_
        refine mv_aload_n (pc := 118) B d_Exprs_endSigns_118 rfl 0 rfl ?_
        refine mv_iload_n (pc := 119) B d_Exprs_endSigns_119 rfl 3 rfl ?_
        obtain ⟨h5, eh5, hf⟩ := xev_e hf
        refine mv_callVv (pc := 120) (n := 1) (ci := 6) (C := R_Exprs) B (mK_ok sk sv) hNs rfl rfl (cx_Exprs_hold l hi _ hb _ _ eh5) rfl (ma_goodc kc_Exprs_hold) (B.2.2.2.1 _ k_1432) (B.2.2.2.1 _ k_1434) (B.2.2.2.1 _ ks_51) (B.2.2.2.1 _ k_7) ⟨by decide +kernel, by decide +kernel, by decide +kernel⟩ rfl d_Exprs_endSigns_120 rfl (Nat.le_of_ble_eq_true rfl) ⟨by decide, by decide⟩ ⟨by decide, by decide⟩ ⟨by decide, by decide⟩ (mv_noH hno _) (fun σ120 h120 => ?_)
        subst h120
        refine mvn_iinc (pc := 123) (j := 1) (v := 1) B d_Exprs_endSigns_123 rfl (by decide) (by decide) rfl ?_
        refine mv_goto (pc := 126) (tgt := 2) B d_Exprs_endSigns_126 rfl ?_
        refine mv_lpick [1, 0] rfl ?_
        exact ih2 _ _ hf
      have jn49 : ∀ (x1 : Nat) (x2 : Nat) (h : xE), g_Exprs_endSigns_49 (g_Exprs_endSigns_2 nn2) x1 x2 h = some rg → mv_V p l e ({ frames := 2, cells := 0, slots := 0, locals := 44 }) s m ([.ref (al 22)] : List Value).toArray below meth c (mg dA D al me) 4 0 0 (mv_Q (mg dA D al me) below s 0 0 (mv_Rv (fun σ1 => σ1 = ab b rg))) (ab b h) 49 [(0, .ref (al 22)), (1, .int (nI x1)), (2, .int (nI x2))] [] := by
        intro x1 x2 h hf
        unfold g_Exprs_endSigns_49 at hf
        refine mv_aload_n (pc := 49) B d_Exprs_endSigns_49 rfl 0 rfl ?_
        refine mv_dup (pc := 50) B d_Exprs_endSigns_50 rfl ?_
        refine mv_getI (pc := 51) (ci := 6) (C := R_Exprs) (T := F_Exprs) (N := 11) B 8 rfl rfl (by decide) i_Exprs (B.2.2.2.1 _ k_202) rfl d_Exprs_endSigns_51 ?_
        obtain ⟨v6, ev6, hf⟩ := xer_e hf
        refine mvn_top (xfi_22_8 ev6) ?_
        refine mv_iconst (pc := 54) (v := nI 1) B d_Exprs_endSigns_54 (by decide) ?_
        refine mvn_isub (pc := 55) B d_Exprs_endSigns_55 ?_
        refine mv_putI (pc := 56) (ci := 6) (C := R_Exprs) (T := F_Exprs) (N := 11) B 8 rfl rfl (by decide) i_Exprs t_Exprs_ok n_Exprs (B.2.2.2.1 _ k_202) rfl rfl rfl rfl d_Exprs_endSigns_56 ?_
        refine mvn_hp (xwi_22_8 _ _ _) (xwi_f hf) (fun h7 hf => ?_)
        refine mv_aload_n (pc := 59) B d_Exprs_endSigns_59 rfl 0 rfl ?_
        refine mv_getR (pc := 60) (ci := 6) (C := R_Exprs) (T := F_Exprs) (N := 11) B 0 rfl rfl (by decide) i_Exprs (B.2.2.2.1 _ k_193) rfl (hb.1.1 22 0 _ rfl) d_Exprs_endSigns_60 ?_
        refine mv_dup (pc := 63) B d_Exprs_endSigns_63 rfl ?_
        refine mv_getI (pc := 64) (ci := 2) (C := R_Tokens) (T := F_Tokens) (N := 10) B 8 rfl rfl (by decide) i_Tokens (B.2.2.2.1 _ k_104) rfl d_Exprs_endSigns_64 ?_
        obtain ⟨v8, ev8, hf⟩ := xer_e hf
        refine mvn_top (xfi_3_8 ev8) ?_
        refine mv_iconst (pc := 67) (v := nI 1) B d_Exprs_endSigns_67 (by decide) ?_
        refine mvn_isub (pc := 68) B d_Exprs_endSigns_68 ?_
        refine mv_putI (pc := 69) (ci := 2) (C := R_Tokens) (T := F_Tokens) (N := 10) B 8 rfl rfl (by decide) i_Tokens t_Tokens_ok n_Tokens (B.2.2.2.1 _ k_104) rfl rfl rfl rfl d_Exprs_endSigns_69 ?_
        refine mvn_hp (xwi_3_8 _ _ _) (xwi_f hf) (fun h9 hf => ?_)
        refine mv_aload_n (pc := 72) B d_Exprs_endSigns_72 rfl 0 rfl ?_
        obtain ⟨v11, h10, eh10, hf⟩ := xeb_e hf
        refine mv_callVi (pc := 73) (n := 0) (ci := 6) (C := R_Exprs) B (mK_ok sk sv) hNs rfl rfl (cx_Exprs_release l hi _ hb _ eh10) rfl (ma_goodc kc_Exprs_release) (B.2.2.2.1 _ k_1469) (B.2.2.2.1 _ k_1470) (B.2.2.2.1 _ k_1471) (B.2.2.2.1 _ k_7) ⟨by decide +kernel, by decide +kernel, by decide +kernel⟩ rfl d_Exprs_endSigns_73 rfl (Nat.le_of_ble_eq_true rfl) ⟨by decide, by decide⟩ ⟨by decide, by decide⟩ ⟨by decide, by decide⟩ (mv_noH hno _) (fun w73 σ73 h73 => ?_)
        obtain ⟨rfl, rfl⟩ := h73
        refine mv_istore_n (pc := 76) B d_Exprs_endSigns_76 rfl (by decide) rfl ?_
        refine mv_iload_n (pc := 77) B d_Exprs_endSigns_77 rfl 3 rfl ?_
        refine mv_sipush (pc := 78) (v := nI 307) B d_Exprs_endSigns_78 (by decide) ?_
        refine mv_icmp_ne (pc := 81) (tgt := 105) B d_Exprs_endSigns_81 rfl (fun h81 => ?_) (fun h81 => ?_)
        · skip
          have hf := x_eq_f h81 hf
          refine mv_lpick [1, 2, 3, 0] rfl ?_
          exact jn105 _ _ _ _ hf
        · skip
          have hf := x_eq_t h81 hf
          refine mv_iload_n (pc := 84) B d_Exprs_endSigns_84 rfl 0 rfl ?_
          refine mv_iconst (pc := 85) (v := nI 1) B d_Exprs_endSigns_85 (by decide) ?_
          refine mv_icmp_le (pc := 86) (tgt := 105) B d_Exprs_endSigns_86 rfl (fun h86 => ?_) (fun h86 => ?_)
          · skip
            have hf := x_le_t h86 hf
            refine mv_lpick [1, 2, 3, 0] rfl ?_
            exact jn105 _ _ _ _ hf
          · skip
            have hf := x_le_f h86 hf
            refine mv_aload_n (pc := 89) B d_Exprs_endSigns_89 rfl 1 rfl ?_
            refine mv_aload_n (pc := 90) B d_Exprs_endSigns_90 rfl 1 rfl ?_
            refine mv_getR (pc := 91) (ci := 6) (C := R_Exprs) (T := F_Exprs) (N := 11) B 5 rfl rfl (by decide) i_Exprs (B.2.2.2.1 _ k_199) rfl (hb.1.1 22 5 _ rfl) d_Exprs_endSigns_91 ?_
            refine mv_aload_n (pc := 94) B d_Exprs_endSigns_94 rfl 1 rfl ?_
            refine mv_getI (pc := 95) (ci := 6) (C := R_Exprs) (T := F_Exprs) (N := 11) B 8 rfl rfl (by decide) i_Exprs (B.2.2.2.1 _ k_202) rfl d_Exprs_endSigns_95 ?_
            obtain ⟨v12, ev12, hf⟩ := xer_e hf
            refine mvn_top (xfi_22_8 ev12) ?_
            obtain ⟨q13, hf⟩ := xix_e hf
            refine mv_iald (pc := 98) B rfl (xin q13 (by decide)) d_Exprs_endSigns_98 ?_
            obtain ⟨v14, ev14, hf⟩ := xer_e hf
            refine mvn_top (xfa_24 q13 ev14) ?_
            refine mv_iconst (pc := 99) (v := nI 4) B d_Exprs_endSigns_99 (by decide) ?_
            obtain ⟨h15, eh15, hf⟩ := xev_e hf
            refine mv_callVv (pc := 100) (n := 2) (ci := 6) (C := R_Exprs) B (mK_ok sk sv) hNs rfl rfl (cx_Exprs_tell l hi _ hb _ _ _ eh15) rfl (ma_goodc kc_Exprs_tell) (B.2.2.2.1 _ k_1427) (B.2.2.2.1 _ k_1429) (B.2.2.2.1 _ ks_50) (B.2.2.2.1 _ k_7) ⟨by decide +kernel, by decide +kernel, by decide +kernel⟩ rfl d_Exprs_endSigns_100 rfl (Nat.le_of_ble_eq_true rfl) ⟨by decide, by decide⟩ ⟨by decide, by decide⟩ ⟨by decide, by decide⟩ (mv_noH hno _) (fun σ100 h100 => ?_)
            subst h100
            refine mv_iconst (pc := 103) (v := nI 0) B d_Exprs_endSigns_103 (by decide) ?_
            refine mv_istore_n (pc := 104) B d_Exprs_endSigns_104 rfl (by decide) rfl ?_
            refine mv_lpick [1, 2, 3, 0] rfl ?_
            exact jn105 _ _ _ _ hf
      have hf : gF_Exprs_endSigns_2 (g_Exprs_endSigns_2 nn2) x1 h = some rg := hf
      unfold gF_Exprs_endSigns_2 at hf
      have hf := (xfz_e _ _).symm.trans hf
      refine mv_iload_n (pc := 2) B d_Exprs_endSigns_2 rfl 1 rfl ?_
      refine mv_bipush (pc := 3) (v := nI 60) B d_Exprs_endSigns_3 (by decide) ?_
      refine mv_icmp_gt (pc := 5) (tgt := 129) B d_Exprs_endSigns_5 rfl (fun h5 => ?_) (fun h5 => ?_)
      · skip
        have hf := x_lt_t h5 hf
        exact mv_vret (pc := 129) B hr d_Exprs_endSigns_129 (Nat.le_refl _) (Nat.le_refl _) ⟨rfl, xret_v hf⟩
      · skip
        have hf := x_lt_f h5 hf
        refine mv_aload_n (pc := 8) B d_Exprs_endSigns_8 rfl 0 rfl ?_
        refine mv_getI (pc := 9) (ci := 6) (C := R_Exprs) (T := F_Exprs) (N := 11) B 8 rfl rfl (by decide) i_Exprs (B.2.2.2.1 _ k_202) rfl d_Exprs_endSigns_9 ?_
        obtain ⟨v16, ev16, hf⟩ := xer_e hf
        refine mvn_top (xfi_22_8 ev16) ?_
        refine mv_if_le (pc := 12) (tgt := 129) B d_Exprs_endSigns_12 rfl (fun h12 => ?_) (fun h12 => ?_)
        · skip
          have hf := x_le_t (y := 0) h12 hf
          exact mv_vret (pc := 129) B hr d_Exprs_endSigns_129 (Nat.le_refl _) (Nat.le_refl _) ⟨rfl, xret_v hf⟩
        · skip
          have hf := x_le_f (y := 0) h12 hf
          refine mv_aload_n (pc := 15) B d_Exprs_endSigns_15 rfl 0 rfl ?_
          refine mv_getR (pc := 16) (ci := 6) (C := R_Exprs) (T := F_Exprs) (N := 11) B 4 rfl rfl (by decide) i_Exprs (B.2.2.2.1 _ k_198) rfl (hb.1.1 22 4 _ rfl) d_Exprs_endSigns_16 ?_
          refine mv_aload_n (pc := 19) B d_Exprs_endSigns_19 rfl 0 rfl ?_
          refine mv_getI (pc := 20) (ci := 6) (C := R_Exprs) (T := F_Exprs) (N := 11) B 8 rfl rfl (by decide) i_Exprs (B.2.2.2.1 _ k_202) rfl d_Exprs_endSigns_20 ?_
          obtain ⟨v17, ev17, hf⟩ := xer_e hf
          refine mvn_top (xfi_22_8 ev17) ?_
          refine mv_iconst (pc := 23) (v := nI 1) B d_Exprs_endSigns_23 (by decide) ?_
          refine mvn_isub (pc := 24) B d_Exprs_endSigns_24 ?_
          obtain ⟨q18, hf⟩ := xix_e hf
          refine mv_iald (pc := 25) B rfl (xin q18 (by decide)) d_Exprs_endSigns_25 ?_
          obtain ⟨v19, ev19, hf⟩ := xer_e hf
          refine mvn_top (xfa_23 q18 ev19) ?_
          refine mv_istore_n (pc := 26) B d_Exprs_endSigns_26 rfl (by decide) rfl ?_
          refine mv_iload_n (pc := 27) B d_Exprs_endSigns_27 rfl 0 rfl ?_
          refine mv_sipush (pc := 28) (v := nI 305) B d_Exprs_endSigns_28 (by decide) ?_
          refine mv_icmp_eq (pc := 31) (tgt := 49) B d_Exprs_endSigns_31 rfl (fun h31 => ?_) (fun h31 => ?_)
          · skip
            have hf := x_eq_t h31 hf
            refine mv_lpick [1, 2, 0] rfl ?_
            exact jn49 _ _ _ hf
          · skip
            have hf := x_eq_f h31 hf
            refine mv_iload_n (pc := 34) B d_Exprs_endSigns_34 rfl 0 rfl ?_
            refine mv_sipush (pc := 35) (v := nI 306) B d_Exprs_endSigns_35 (by decide) ?_
            refine mv_icmp_eq (pc := 38) (tgt := 49) B d_Exprs_endSigns_38 rfl (fun h38 => ?_) (fun h38 => ?_)
            · skip
              have hf := x_eq_t h38 hf
              refine mv_lpick [1, 2, 0] rfl ?_
              exact jn49 _ _ _ hf
            · skip
              have hf := x_eq_f h38 hf
              refine mv_iload_n (pc := 41) B d_Exprs_endSigns_41 rfl 0 rfl ?_
              refine mv_sipush (pc := 42) (v := nI 307) B d_Exprs_endSigns_42 (by decide) ?_
              refine mv_icmp_eq (pc := 45) (tgt := 49) B d_Exprs_endSigns_45 rfl (fun h45 => ?_) (fun h45 => ?_)
              · skip
                have hf := x_eq_t h45 hf
                refine mv_lpick [1, 2, 0] rfl ?_
                exact jn49 _ _ _ hf
              · skip
                have hf := x_eq_f h45 hf
                exact mv_vret (pc := 48) B hr d_Exprs_endSigns_48 (Nat.le_refl _) (Nat.le_refl _) ⟨rfl, xret_v hf⟩
  unfold g_Exprs_endSigns at hf
  refine mv_iconst (pc := 0) (v := nI 0) B d_Exprs_endSigns_0 (by decide) ?_
  refine mv_istore_n (pc := 1) B d_Exprs_endSigns_1 rfl (by decide) rfl ?_
  refine mv_lpick [1, 0] rfl ?_
  exact lp2 _ _ _ hf
def gF_Exprs_endBinaries_2 (k2 : Nat → Nat → xE → Option xE) (x1 : Nat) (x2 : Nat) (h : xE) : Option xE := xfz x1 fun x1 => xfz x2 fun x2 => bif xlt x2 1024 then (xer (ep_g h.1 17) fun v1 => bif xlt 0 v1 then (xer (ep_g h.1 17) fun v2 => bif Nat.blt (xsub v2 1) 1024 then xer (ep_g (xL_23 h.2) (xsub v2 1)) fun v4 => xeb (g_Exprs_levelOf h v4) fun v6 h5 => bif xlt v6 x1 then (some h5) else (xer (ep_g h5.1 17) fun v7 => xwi h5 17 (xsub v7 1) fun h8 => xer (ep_g h8.1 17) fun v9 => bif Nat.blt v9 1024 then xer (ep_g (xL_24 h8.2) v9) fun v11 => xev (g_Exprs_ofTwo h8 v4 v11) fun h12 => k2 x1 (xadd x2 1) h12 else none) else none) else (some h)) else (some h)
def g_Exprs_endBinaries_2 : Nat → Nat → Nat → xE → Option xE
  | 0 => fun _ _ _ => none
  | nn + 1 => gF_Exprs_endBinaries_2 (g_Exprs_endBinaries_2 nn)
def g_Exprs_endBinaries (h : xE) (a0 : Nat) : Option xE := g_Exprs_endBinaries_2 200000 a0 0 h
set_option maxHeartbeats 4000000 in
set_option maxRecDepth 100000 in
theorem cx_Exprs_endBinaries (l : Launch) {dA : FieldType → ClassId} {D : va_G} {al : Nat → Nat} {sk sv : Nat → Nat} (hi : mv_inj (mg dA D al me)) (b : mv_H) (hb : xR (mv_r b)) (h : xE) (a0 : Nat) {rg : xE} (hf : g_Exprs_endBinaries h a0 = some rg) : mv_C l y_Exprs_endBinaries (Cond.code y_Exprs_endBinaries b_Exprs_endBinaries 4 (Option.none : Option Jvm.ClassFile.FieldType) :: ma) ({ frames := 3, cells := 0, slots := 0, locals := 70 }) (mg dA D al me) (mK sk sv) [.ref (al 22), .int (nI a0)] (ab b h) (mv_Rv (fun σ1 => σ1 = ab b rg)) := by
  refine mv_C.ofV (cc := b_Exprs_endBinaries) (nL := 4) (ret := (Option.none : Option Jvm.ClassFile.FieldType)) (by decide +kernel) rfl hi (Nat.le_of_ble_eq_true rfl) ?_
  intro p e s m below meth c B hNs hr hnm hno
  have lp2 : ∀ (nn2 : Nat) (x1 : Nat) (x2 : Nat) (h : xE), g_Exprs_endBinaries_2 nn2 x1 x2 h = some rg → mv_V p l e ({ frames := 3, cells := 0, slots := 0, locals := 70 }) s m ([.ref (al 22), .int (nI a0)] : List Value).toArray below meth c (mg dA D al me) 4 0 0 (mv_Q (mg dA D al me) below s 0 0 (mv_Rv (fun σ1 => σ1 = ab b rg))) (ab b h) 2 [(0, .ref (al 22)), (1, .int (nI x1)), (2, .int (nI x2))] [] := by
    intro nn2
    induction nn2 with
    | zero => intro x1 x2 h hf; cases hf
    | succ nn2 ih2 =>
      intro x1 x2 h hf
      have hf : gF_Exprs_endBinaries_2 (g_Exprs_endBinaries_2 nn2) x1 x2 h = some rg := hf
      unfold gF_Exprs_endBinaries_2 at hf
      have hf := (xfz_e _ _).symm.trans hf
      have hf := (xfz_e _ _).symm.trans hf
      refine mv_iload_n (pc := 2) B d_Exprs_endBinaries_2 rfl 2 rfl ?_
      refine mv_sipush (pc := 3) (v := nI 1024) B d_Exprs_endBinaries_3 (by decide) ?_
      refine mv_icmp_ge (pc := 6) (tgt := 67) B d_Exprs_endBinaries_6 rfl (fun h6 => ?_) (fun h6 => ?_)
      · skip
        have hf := x_le_t h6 hf
        exact mv_vret (pc := 67) B hr d_Exprs_endBinaries_67 (Nat.le_refl _) (Nat.le_refl _) ⟨rfl, xret_v hf⟩
      · skip
        have hf := x_le_f h6 hf
        refine mv_aload_n (pc := 9) B d_Exprs_endBinaries_9 rfl 0 rfl ?_
        refine mv_getI (pc := 10) (ci := 6) (C := R_Exprs) (T := F_Exprs) (N := 11) B 8 rfl rfl (by decide) i_Exprs (B.2.2.2.1 _ k_202) rfl d_Exprs_endBinaries_10 ?_
        obtain ⟨v1, ev1, hf⟩ := xer_e hf
        refine mvn_top (xfi_22_8 ev1) ?_
        refine mv_if_le (pc := 13) (tgt := 67) B d_Exprs_endBinaries_13 rfl (fun h13 => ?_) (fun h13 => ?_)
        · skip
          have hf := x_le_t (y := 0) h13 hf
          exact mv_vret (pc := 67) B hr d_Exprs_endBinaries_67 (Nat.le_refl _) (Nat.le_refl _) ⟨rfl, xret_v hf⟩
        · skip
          have hf := x_le_f (y := 0) h13 hf
          refine mv_aload_n (pc := 16) B d_Exprs_endBinaries_16 rfl 0 rfl ?_
          refine mv_getR (pc := 17) (ci := 6) (C := R_Exprs) (T := F_Exprs) (N := 11) B 4 rfl rfl (by decide) i_Exprs (B.2.2.2.1 _ k_198) rfl (hb.1.1 22 4 _ rfl) d_Exprs_endBinaries_17 ?_
          refine mv_aload_n (pc := 20) B d_Exprs_endBinaries_20 rfl 0 rfl ?_
          refine mv_getI (pc := 21) (ci := 6) (C := R_Exprs) (T := F_Exprs) (N := 11) B 8 rfl rfl (by decide) i_Exprs (B.2.2.2.1 _ k_202) rfl d_Exprs_endBinaries_21 ?_
          obtain ⟨v2, ev2, hf⟩ := xer_e hf
          refine mvn_top (xfi_22_8 ev2) ?_
          refine mv_iconst (pc := 24) (v := nI 1) B d_Exprs_endBinaries_24 (by decide) ?_
          refine mvn_isub (pc := 25) B d_Exprs_endBinaries_25 ?_
          obtain ⟨q3, hf⟩ := xix_e hf
          refine mv_iald (pc := 26) B rfl (xin q3 (by decide)) d_Exprs_endBinaries_26 ?_
          obtain ⟨v4, ev4, hf⟩ := xer_e hf
          refine mvn_top (xfa_23 q3 ev4) ?_
          refine mv_istore_n (pc := 27) B d_Exprs_endBinaries_27 rfl (by decide) rfl ?_
          refine mv_iload_n (pc := 28) B d_Exprs_endBinaries_28 rfl 0 rfl ?_
          obtain ⟨v6, h5, eh5, hf⟩ := xeb_e hf
          refine mv_callSi (pc := 29) (n := 1) B (mK_ok sk sv) hNs (cx_Exprs_levelOf l hi _ _ _ eh5) rfl (ma_goodc kc_Exprs_levelOf) (B.2.2.2.1 _ k_1482) (B.2.2.2.1 _ k_1483) (B.2.2.2.1 _ k_7) ⟨by decide +kernel, by decide +kernel, by decide +kernel⟩ rfl d_Exprs_endBinaries_29 rfl (Nat.le_of_ble_eq_true rfl) ⟨by decide, by decide⟩ ⟨by decide, by decide⟩ ⟨by decide, by decide⟩ (mv_noH hno _) (fun w29 σ29 h29 => ?_)
          obtain ⟨rfl, rfl⟩ := h29
          refine mv_iload_n (pc := 32) B d_Exprs_endBinaries_32 rfl 2 rfl ?_
          refine mv_icmp_ge (pc := 33) (tgt := 37) B d_Exprs_endBinaries_33 rfl (fun h33 => ?_) (fun h33 => ?_)
          · skip
            have hf := x_le_t h33 hf
            refine mv_aload_n (pc := 37) B d_Exprs_endBinaries_37 rfl 1 rfl ?_
            refine mv_dup (pc := 38) B d_Exprs_endBinaries_38 rfl ?_
            refine mv_getI (pc := 39) (ci := 6) (C := R_Exprs) (T := F_Exprs) (N := 11) B 8 rfl rfl (by decide) i_Exprs (B.2.2.2.1 _ k_202) rfl d_Exprs_endBinaries_39 ?_
            obtain ⟨v7, ev7, hf⟩ := xer_e hf
            refine mvn_top (xfi_22_8 ev7) ?_
            refine mv_iconst (pc := 42) (v := nI 1) B d_Exprs_endBinaries_42 (by decide) ?_
            refine mvn_isub (pc := 43) B d_Exprs_endBinaries_43 ?_
            refine mv_putI (pc := 44) (ci := 6) (C := R_Exprs) (T := F_Exprs) (N := 11) B 8 rfl rfl (by decide) i_Exprs t_Exprs_ok n_Exprs (B.2.2.2.1 _ k_202) rfl rfl rfl rfl d_Exprs_endBinaries_44 ?_
            refine mvn_hp (xwi_22_8 _ _ _) (xwi_f hf) (fun h8 hf => ?_)
            refine mv_aload_n (pc := 47) B d_Exprs_endBinaries_47 rfl 1 rfl ?_
            refine mv_iload_n (pc := 48) B d_Exprs_endBinaries_48 rfl 0 rfl ?_
            refine mv_aload_n (pc := 49) B d_Exprs_endBinaries_49 rfl 1 rfl ?_
            refine mv_getR (pc := 50) (ci := 6) (C := R_Exprs) (T := F_Exprs) (N := 11) B 5 rfl rfl (by decide) i_Exprs (B.2.2.2.1 _ k_199) rfl (hb.1.1 22 5 _ rfl) d_Exprs_endBinaries_50 ?_
            refine mv_aload_n (pc := 53) B d_Exprs_endBinaries_53 rfl 1 rfl ?_
            refine mv_getI (pc := 54) (ci := 6) (C := R_Exprs) (T := F_Exprs) (N := 11) B 8 rfl rfl (by decide) i_Exprs (B.2.2.2.1 _ k_202) rfl d_Exprs_endBinaries_54 ?_
            obtain ⟨v9, ev9, hf⟩ := xer_e hf
            refine mvn_top (xfi_22_8 ev9) ?_
            obtain ⟨q10, hf⟩ := xix_e hf
            refine mv_iald (pc := 57) B rfl (xin q10 (by decide)) d_Exprs_endBinaries_57 ?_
            obtain ⟨v11, ev11, hf⟩ := xer_e hf
            refine mvn_top (xfa_24 q10 ev11) ?_
            obtain ⟨h12, eh12, hf⟩ := xev_e hf
            refine mv_callVv (pc := 58) (n := 2) (ci := 6) (C := R_Exprs) B (mK_ok sk sv) hNs rfl rfl (cx_Exprs_ofTwo l hi _ hb _ _ _ eh12) rfl (ma_goodc kc_Exprs_ofTwo) (B.2.2.2.1 _ k_1489) (B.2.2.2.1 _ k_1491) (B.2.2.2.1 _ ks_57) (B.2.2.2.1 _ k_7) ⟨by decide +kernel, by decide +kernel, by decide +kernel⟩ rfl d_Exprs_endBinaries_58 rfl (Nat.le_of_ble_eq_true rfl) ⟨by decide, by decide⟩ ⟨by decide, by decide⟩ ⟨by decide, by decide⟩ (mv_noH hno _) (fun σ58 h58 => ?_)
            subst h58
            refine mvn_iinc (pc := 61) (j := 3) (v := 1) B d_Exprs_endBinaries_61 rfl (by decide) (by decide) rfl ?_
            refine mv_goto (pc := 64) (tgt := 2) B d_Exprs_endBinaries_64 rfl ?_
            refine mv_lpick [2, 3, 0] rfl ?_
            exact ih2 _ _ _ hf
          · skip
            have hf := x_le_f h33 hf
            exact mv_vret (pc := 36) B hr d_Exprs_endBinaries_36 (Nat.le_refl _) (Nat.le_refl _) ⟨rfl, xret_v hf⟩
  unfold g_Exprs_endBinaries at hf
  refine mv_iconst (pc := 0) (v := nI 0) B d_Exprs_endBinaries_0 (by decide) ?_
  refine mv_istore_n (pc := 1) B d_Exprs_endBinaries_1 rfl (by decide) rfl ?_
  refine mv_lpick [1, 2, 0] rfl ?_
  exact lp2 _ _ _ _ hf
def g_Exprs_choose (h : xE) : Option xE := xeb (g_Tokens_open h 63) fun v2 h1 => xev (g_Exprs_mark h1 63 v2) fun h3 => xer (ep_g h3.1 17) fun v4 => xeb (g_Exprs_release h3) fun v6 h5 => bif Nat.blt (xsub v4 1) 1024 then xw xL_26 xS_26 h5 (xsub v4 1) v6 fun h8 => xer (ep_g h8.1 17) fun v9 => xeb (g_Program_emit h8 312 0) fun v11 h10 => bif Nat.blt (xsub v9 1) 1024 then xw xL_25 xS_25 h10 (xsub v9 1) v11 fun h13 => some h13 else none else none
set_option maxHeartbeats 4000000 in
set_option maxRecDepth 100000 in
theorem cx_Exprs_choose (l : Launch) {dA : FieldType → ClassId} {D : va_G} {al : Nat → Nat} {sk sv : Nat → Nat} (hi : mv_inj (mg dA D al me)) (b : mv_H) (hb : xR (mv_r b)) (h : xE) {rg : xE} (hf : g_Exprs_choose h = some rg) : mv_C l y_Exprs_choose (Cond.code y_Exprs_choose b_Exprs_choose 1 (Option.none : Option Jvm.ClassFile.FieldType) :: ma) ({ frames := 3, cells := 0, slots := 0, locals := 63 }) (mg dA D al me) (mK sk sv) [.ref (al 22)] (ab b h) (mv_Rv (fun σ1 => σ1 = ab b rg)) := by
  refine mv_C.ofV (cc := b_Exprs_choose) (nL := 1) (ret := (Option.none : Option Jvm.ClassFile.FieldType)) (by decide +kernel) rfl hi (Nat.le_of_ble_eq_true rfl) ?_
  intro p e s m below meth c B hNs hr hnm hno
  unfold g_Exprs_choose at hf
  refine mv_aload_n (pc := 0) B d_Exprs_choose_0 rfl 0 rfl ?_
  refine mv_bipush (pc := 1) (v := nI 63) B d_Exprs_choose_1 (by decide) ?_
  refine mv_aload_n (pc := 3) B d_Exprs_choose_3 rfl 0 rfl ?_
  refine mv_getR (pc := 4) (ci := 6) (C := R_Exprs) (T := F_Exprs) (N := 11) B 0 rfl rfl (by decide) i_Exprs (B.2.2.2.1 _ k_193) rfl (hb.1.1 22 0 _ rfl) d_Exprs_choose_4 ?_
  refine mv_bipush (pc := 7) (v := nI 63) B d_Exprs_choose_7 (by decide) ?_
  obtain ⟨v2, h1, eh1, hf⟩ := xeb_e hf
  refine mv_callVi (pc := 9) (n := 1) (ci := 2) (C := R_Tokens) B (mK_ok sk sv) hNs rfl rfl (cx_Tokens_open l hi _ hb _ _ eh1) rfl (ma_goodc kc_Tokens_open) (B.2.2.2.1 _ k_1415) (B.2.2.2.1 _ k_1350) (B.2.2.2.1 _ k_1351) (B.2.2.2.1 _ k_3) ⟨by decide +kernel, by decide +kernel, by decide +kernel⟩ rfl d_Exprs_choose_9 rfl (Nat.le_of_ble_eq_true rfl) ⟨by decide, by decide⟩ ⟨by decide, by decide⟩ ⟨by decide, by decide⟩ (mv_noH hno _) (fun w9 σ9 h9 => ?_)
  obtain ⟨rfl, rfl⟩ := h9
  obtain ⟨h3, eh3, hf⟩ := xev_e hf
  refine mv_callVv (pc := 12) (n := 2) (ci := 6) (C := R_Exprs) B (mK_ok sk sv) hNs rfl rfl (cx_Exprs_mark l hi _ hb _ _ _ eh3) rfl (ma_goodc kc_Exprs_mark) (B.2.2.2.1 _ k_1416) (B.2.2.2.1 _ k_1418) (B.2.2.2.1 _ ks_48) (B.2.2.2.1 _ k_7) ⟨by decide +kernel, by decide +kernel, by decide +kernel⟩ rfl d_Exprs_choose_12 rfl (Nat.le_of_ble_eq_true rfl) ⟨by decide, by decide⟩ ⟨by decide, by decide⟩ ⟨by decide, by decide⟩ (mv_noH hno _) (fun σ12 h12 => ?_)
  subst h12
  refine mv_aload_n (pc := 15) B d_Exprs_choose_15 rfl 0 rfl ?_
  refine mv_getR (pc := 16) (ci := 6) (C := R_Exprs) (T := F_Exprs) (N := 11) B 7 rfl rfl (by decide) i_Exprs (B.2.2.2.1 _ k_201) rfl (hb.1.1 22 7 _ rfl) d_Exprs_choose_16 ?_
  refine mv_aload_n (pc := 19) B d_Exprs_choose_19 rfl 0 rfl ?_
  refine mv_getI (pc := 20) (ci := 6) (C := R_Exprs) (T := F_Exprs) (N := 11) B 8 rfl rfl (by decide) i_Exprs (B.2.2.2.1 _ k_202) rfl d_Exprs_choose_20 ?_
  obtain ⟨v4, ev4, hf⟩ := xer_e hf
  refine mvn_top (xfi_22_8 ev4) ?_
  refine mv_iconst (pc := 23) (v := nI 1) B d_Exprs_choose_23 (by decide) ?_
  refine mvn_isub (pc := 24) B d_Exprs_choose_24 ?_
  refine mv_aload_n (pc := 25) B d_Exprs_choose_25 rfl 0 rfl ?_
  obtain ⟨v6, h5, eh5, hf⟩ := xeb_e hf
  refine mv_callVi (pc := 26) (n := 0) (ci := 6) (C := R_Exprs) B (mK_ok sk sv) hNs rfl rfl (cx_Exprs_release l hi _ hb _ eh5) rfl (ma_goodc kc_Exprs_release) (B.2.2.2.1 _ k_1469) (B.2.2.2.1 _ k_1470) (B.2.2.2.1 _ k_1471) (B.2.2.2.1 _ k_7) ⟨by decide +kernel, by decide +kernel, by decide +kernel⟩ rfl d_Exprs_choose_26 rfl (Nat.le_of_ble_eq_true rfl) ⟨by decide, by decide⟩ ⟨by decide, by decide⟩ ⟨by decide, by decide⟩ (mv_noH hno _) (fun w26 σ26 h26 => ?_)
  obtain ⟨rfl, rfl⟩ := h26
  obtain ⟨q7, hf⟩ := xix_e hf
  refine mv_iast (pc := 29) B rfl (xin q7 (by decide)) d_Exprs_choose_29 ?_
  refine mvn_hp (xwa_26 _ _ _ q7) (xw_f xLe_26 xSe_26 hf) (fun h8 hf => ?_)
  refine mv_aload_n (pc := 30) B d_Exprs_choose_30 rfl 0 rfl ?_
  refine mv_getR (pc := 31) (ci := 6) (C := R_Exprs) (T := F_Exprs) (N := 11) B 6 rfl rfl (by decide) i_Exprs (B.2.2.2.1 _ k_200) rfl (hb.1.1 22 6 _ rfl) d_Exprs_choose_31 ?_
  refine mv_aload_n (pc := 34) B d_Exprs_choose_34 rfl 0 rfl ?_
  refine mv_getI (pc := 35) (ci := 6) (C := R_Exprs) (T := F_Exprs) (N := 11) B 8 rfl rfl (by decide) i_Exprs (B.2.2.2.1 _ k_202) rfl d_Exprs_choose_35 ?_
  obtain ⟨v9, ev9, hf⟩ := xer_e hf
  refine mvn_top (xfi_22_8 ev9) ?_
  refine mv_iconst (pc := 38) (v := nI 1) B d_Exprs_choose_38 (by decide) ?_
  refine mvn_isub (pc := 39) B d_Exprs_choose_39 ?_
  refine mv_aload_n (pc := 40) B d_Exprs_choose_40 rfl 0 rfl ?_
  refine mv_getR (pc := 41) (ci := 6) (C := R_Exprs) (T := F_Exprs) (N := 11) B 3 rfl rfl (by decide) i_Exprs (B.2.2.2.1 _ k_197) rfl hb.1.2.2.2 d_Exprs_choose_41 ?_
  refine mv_sipush (pc := 44) (v := nI 312) B d_Exprs_choose_44 (by decide) ?_
  refine mv_lconst (pc := 47) (v := nJ 0) B d_Exprs_choose_47 (by decide) ?_
  obtain ⟨v11, h10, eh10, hf⟩ := xeb_e hf
  refine mv_callVi (pc := 48) (n := 2) (ci := 7) (C := R_Program) B (mK_ok sk sv) hNs rfl rfl (cx_Program_emit l hi _ hb _ _ _ eh10) rfl (ma_goodc kc_Program_emit) (B.2.2.2.1 _ k_1425) (B.2.2.2.1 _ k_1385) (B.2.2.2.1 _ k_1386) (B.2.2.2.1 _ k_8) ⟨by decide +kernel, by decide +kernel, by decide +kernel⟩ rfl d_Exprs_choose_48 rfl (Nat.le_of_ble_eq_true rfl) ⟨by decide, by decide⟩ ⟨by decide, by decide⟩ ⟨by decide, by decide⟩ (mv_noH hno _) (fun w48 σ48 h48 => ?_)
  obtain ⟨rfl, rfl⟩ := h48
  obtain ⟨q12, hf⟩ := xix_e hf
  refine mv_iast (pc := 51) B rfl (xin q12 (by decide)) d_Exprs_choose_51 ?_
  refine mvn_hp (xwa_25 _ _ _ q12) (xw_f xLe_25 xSe_25 hf) (fun h13 hf => ?_)
  exact mv_vret (pc := 52) B hr d_Exprs_choose_52 (Nat.le_refl _) (Nat.le_refl _) ⟨rfl, xret_v hf⟩
def g_Exprs_otherwise (h : xE) : Option xE := xeb (g_Tokens_take h 58) fun v2 h1 => xer (ep_g h1.1 17) fun v3 => bif Nat.blt (xsub v3 1) 1024 then xer (ep_g (xL_25 h1.2) (xsub v3 1)) fun v5 => xer (ep_g h1.1 17) fun v6 => bif Nat.blt (xsub v6 1) 1024 then xw xL_23 xS_23 h1 (xsub v6 1) 58 fun h8 => xer (ep_g h8.1 17) fun v9 => xeb (g_Program_emit h8 311 0) fun v11 h10 => bif Nat.blt (xsub v9 1) 1024 then xw xL_25 xS_25 h10 (xsub v9 1) v11 fun h13 => xev (g_Program_aim h13 v5) fun h14 => some h14 else none else none else none
set_option maxHeartbeats 4000000 in
set_option maxRecDepth 100000 in
theorem cx_Exprs_otherwise (l : Launch) {dA : FieldType → ClassId} {D : va_G} {al : Nat → Nat} {sk sv : Nat → Nat} (hi : mv_inj (mg dA D al me)) (b : mv_H) (hb : xR (mv_r b)) (h : xE) {rg : xE} (hf : g_Exprs_otherwise h = some rg) : mv_C l y_Exprs_otherwise (Cond.code y_Exprs_otherwise b_Exprs_otherwise 2 (Option.none : Option Jvm.ClassFile.FieldType) :: ma) ({ frames := 2, cells := 0, slots := 0, locals := 42 }) (mg dA D al me) (mK sk sv) [.ref (al 22)] (ab b h) (mv_Rv (fun σ1 => σ1 = ab b rg)) := by
  refine mv_C.ofV (cc := b_Exprs_otherwise) (nL := 2) (ret := (Option.none : Option Jvm.ClassFile.FieldType)) (by decide +kernel) rfl hi (Nat.le_of_ble_eq_true rfl) ?_
  intro p e s m below meth c B hNs hr hnm hno
  unfold g_Exprs_otherwise at hf
  refine mv_aload_n (pc := 0) B d_Exprs_otherwise_0 rfl 0 rfl ?_
  refine mv_getR (pc := 1) (ci := 6) (C := R_Exprs) (T := F_Exprs) (N := 11) B 0 rfl rfl (by decide) i_Exprs (B.2.2.2.1 _ k_193) rfl (hb.1.1 22 0 _ rfl) d_Exprs_otherwise_1 ?_
  refine mv_bipush (pc := 4) (v := nI 58) B d_Exprs_otherwise_4 (by decide) ?_
  obtain ⟨v2, h1, eh1, hf⟩ := xeb_e hf
  refine mv_callVi (pc := 6) (n := 1) (ci := 2) (C := R_Tokens) B (mK_ok sk sv) hNs rfl rfl (cx_Tokens_take l hi _ hb _ _ eh1) rfl (ma_goodc kc_Tokens_take) (B.2.2.2.1 _ k_1424) (B.2.2.2.1 _ k_1267) (B.2.2.2.1 _ k_1268) (B.2.2.2.1 _ k_3) ⟨by decide +kernel, by decide +kernel, by decide +kernel⟩ rfl d_Exprs_otherwise_6 rfl (Nat.le_of_ble_eq_true rfl) ⟨by decide, by decide⟩ ⟨by decide, by decide⟩ ⟨by decide, by decide⟩ (mv_noH hno _) (fun w6 σ6 h6 => ?_)
  obtain ⟨rfl, rfl⟩ := h6
  refine mv_pop (pc := 9) B d_Exprs_otherwise_9 rfl ?_
  refine mv_aload_n (pc := 10) B d_Exprs_otherwise_10 rfl 0 rfl ?_
  refine mv_getR (pc := 11) (ci := 6) (C := R_Exprs) (T := F_Exprs) (N := 11) B 6 rfl rfl (by decide) i_Exprs (B.2.2.2.1 _ k_200) rfl (hb.1.1 22 6 _ rfl) d_Exprs_otherwise_11 ?_
  refine mv_aload_n (pc := 14) B d_Exprs_otherwise_14 rfl 0 rfl ?_
  refine mv_getI (pc := 15) (ci := 6) (C := R_Exprs) (T := F_Exprs) (N := 11) B 8 rfl rfl (by decide) i_Exprs (B.2.2.2.1 _ k_202) rfl d_Exprs_otherwise_15 ?_
  obtain ⟨v3, ev3, hf⟩ := xer_e hf
  refine mvn_top (xfi_22_8 ev3) ?_
  refine mv_iconst (pc := 18) (v := nI 1) B d_Exprs_otherwise_18 (by decide) ?_
  refine mvn_isub (pc := 19) B d_Exprs_otherwise_19 ?_
  obtain ⟨q4, hf⟩ := xix_e hf
  refine mv_iald (pc := 20) B rfl (xin q4 (by decide)) d_Exprs_otherwise_20 ?_
  obtain ⟨v5, ev5, hf⟩ := xer_e hf
  refine mvn_top (xfa_25 q4 ev5) ?_
  refine mv_istore_n (pc := 21) B d_Exprs_otherwise_21 rfl (by decide) rfl ?_
  refine mv_aload_n (pc := 22) B d_Exprs_otherwise_22 rfl 1 rfl ?_
  refine mv_getR (pc := 23) (ci := 6) (C := R_Exprs) (T := F_Exprs) (N := 11) B 4 rfl rfl (by decide) i_Exprs (B.2.2.2.1 _ k_198) rfl (hb.1.1 22 4 _ rfl) d_Exprs_otherwise_23 ?_
  refine mv_aload_n (pc := 26) B d_Exprs_otherwise_26 rfl 1 rfl ?_
  refine mv_getI (pc := 27) (ci := 6) (C := R_Exprs) (T := F_Exprs) (N := 11) B 8 rfl rfl (by decide) i_Exprs (B.2.2.2.1 _ k_202) rfl d_Exprs_otherwise_27 ?_
  obtain ⟨v6, ev6, hf⟩ := xer_e hf
  refine mvn_top (xfi_22_8 ev6) ?_
  refine mv_iconst (pc := 30) (v := nI 1) B d_Exprs_otherwise_30 (by decide) ?_
  refine mvn_isub (pc := 31) B d_Exprs_otherwise_31 ?_
  refine mv_bipush (pc := 32) (v := nI 58) B d_Exprs_otherwise_32 (by decide) ?_
  obtain ⟨q7, hf⟩ := xix_e hf
  refine mv_iast (pc := 34) B rfl (xin q7 (by decide)) d_Exprs_otherwise_34 ?_
  refine mvn_hp (xwa_23 _ _ _ q7) (xw_f xLe_23 xSe_23 hf) (fun h8 hf => ?_)
  refine mv_aload_n (pc := 35) B d_Exprs_otherwise_35 rfl 1 rfl ?_
  refine mv_getR (pc := 36) (ci := 6) (C := R_Exprs) (T := F_Exprs) (N := 11) B 6 rfl rfl (by decide) i_Exprs (B.2.2.2.1 _ k_200) rfl (hb.1.1 22 6 _ rfl) d_Exprs_otherwise_36 ?_
  refine mv_aload_n (pc := 39) B d_Exprs_otherwise_39 rfl 1 rfl ?_
  refine mv_getI (pc := 40) (ci := 6) (C := R_Exprs) (T := F_Exprs) (N := 11) B 8 rfl rfl (by decide) i_Exprs (B.2.2.2.1 _ k_202) rfl d_Exprs_otherwise_40 ?_
  obtain ⟨v9, ev9, hf⟩ := xer_e hf
  refine mvn_top (xfi_22_8 ev9) ?_
  refine mv_iconst (pc := 43) (v := nI 1) B d_Exprs_otherwise_43 (by decide) ?_
  refine mvn_isub (pc := 44) B d_Exprs_otherwise_44 ?_
  refine mv_aload_n (pc := 45) B d_Exprs_otherwise_45 rfl 1 rfl ?_
  refine mv_getR (pc := 46) (ci := 6) (C := R_Exprs) (T := F_Exprs) (N := 11) B 3 rfl rfl (by decide) i_Exprs (B.2.2.2.1 _ k_197) rfl hb.1.2.2.2 d_Exprs_otherwise_46 ?_
  refine mv_sipush (pc := 49) (v := nI 311) B d_Exprs_otherwise_49 (by decide) ?_
  refine mv_lconst (pc := 52) (v := nJ 0) B d_Exprs_otherwise_52 (by decide) ?_
  obtain ⟨v11, h10, eh10, hf⟩ := xeb_e hf
  refine mv_callVi (pc := 53) (n := 2) (ci := 7) (C := R_Program) B (mK_ok sk sv) hNs rfl rfl (cx_Program_emit l hi _ hb _ _ _ eh10) rfl (ma_goodc kc_Program_emit) (B.2.2.2.1 _ k_1425) (B.2.2.2.1 _ k_1385) (B.2.2.2.1 _ k_1386) (B.2.2.2.1 _ k_8) ⟨by decide +kernel, by decide +kernel, by decide +kernel⟩ rfl d_Exprs_otherwise_53 rfl (Nat.le_of_ble_eq_true rfl) ⟨by decide, by decide⟩ ⟨by decide, by decide⟩ ⟨by decide, by decide⟩ (mv_noH hno _) (fun w53 σ53 h53 => ?_)
  obtain ⟨rfl, rfl⟩ := h53
  obtain ⟨q12, hf⟩ := xix_e hf
  refine mv_iast (pc := 56) B rfl (xin q12 (by decide)) d_Exprs_otherwise_56 ?_
  refine mvn_hp (xwa_25 _ _ _ q12) (xw_f xLe_25 xSe_25 hf) (fun h13 hf => ?_)
  refine mv_aload_n (pc := 57) B d_Exprs_otherwise_57 rfl 1 rfl ?_
  refine mv_getR (pc := 58) (ci := 6) (C := R_Exprs) (T := F_Exprs) (N := 11) B 3 rfl rfl (by decide) i_Exprs (B.2.2.2.1 _ k_197) rfl hb.1.2.2.2 d_Exprs_otherwise_58 ?_
  refine mv_iload_n (pc := 61) B d_Exprs_otherwise_61 rfl 0 rfl ?_
  obtain ⟨h14, eh14, hf⟩ := xev_e hf
  refine mv_callVv (pc := 62) (n := 1) (ci := 7) (C := R_Program) B (mK_ok sk sv) hNs rfl rfl (cx_Program_aim l hi _ hb _ _ eh14) rfl (ma_goodc kc_Program_aim) (B.2.2.2.1 _ k_1501) (B.2.2.2.1 _ k_1403) (B.2.2.2.1 _ k_1404) (B.2.2.2.1 _ k_8) ⟨by decide +kernel, by decide +kernel, by decide +kernel⟩ rfl d_Exprs_otherwise_62 rfl (Nat.le_of_ble_eq_true rfl) ⟨by decide, by decide⟩ ⟨by decide, by decide⟩ ⟨by decide, by decide⟩ (mv_noH hno _) (fun σ62 h62 => ?_)
  subst h62
  exact mv_vret (pc := 65) B hr d_Exprs_otherwise_65 (Nat.le_refl _) (Nat.le_refl _) ⟨rfl, xret_v hf⟩
def g_Exprs_endChoices_156 (k2 : Nat → xE → Option xE) (x1 : Nat) (y0 : Nat) (h : xE) : Option xE := xev (g_Exprs_hold h y0) fun h1 => k2 (xadd x1 1) h1
def g_Exprs_endChoices_145 (k2 : Nat → xE → Option xE) (x1 : Nat) (x3 : Nat) (x5 : Nat) (h : xE) : Option xE := bif xeq x5 0 then (g_Exprs_endChoices_156 k2 x1 x3 h) else (g_Exprs_endChoices_156 k2 x1 0 h)
def g_Exprs_endChoices_128 (k2 : Nat → xE → Option xE) (x1 : Nat) (x3 : Nat) (h : xE) : Option xE := xer (ep_g h.1 17) fun v2 => bif Nat.blt v2 1024 then xer (ep_g (xL_24 h.2) v2) fun v4 => xev (g_Exprs_tell h v4 4) fun h5 => g_Exprs_endChoices_145 k2 x1 x3 1 h5 else none
def g_Exprs_endChoices_110 (k2 : Nat → xE → Option xE) (x1 : Nat) (x2 : Nat) (x3 : Nat) (x4 : Nat) (y0 : Nat) (h : xE) : Option xE := bif xeq y0 0 then (bif xeq x4 1 then (bif xeq x3 x2 then (g_Exprs_endChoices_145 k2 x1 x3 y0 h) else (g_Exprs_endChoices_128 k2 x1 x3 h)) else (g_Exprs_endChoices_128 k2 x1 x3 h)) else (g_Exprs_endChoices_145 k2 x1 x3 y0 h)
def g_Exprs_endChoices_105 (k2 : Nat → xE → Option xE) (x1 : Nat) (x2 : Nat) (x3 : Nat) (x4 : Nat) (h : xE) : Option xE := g_Exprs_endChoices_110 k2 x1 x2 x3 x4 1 h
def gF_Exprs_endChoices_2 (k2 : Nat → xE → Option xE) (x1 : Nat) (h : xE) : Option xE := xfz x1 fun x1 => bif xlt 60 x1 then (some h) else (xer (ep_g h.1 17) fun v6 => bif xlt 0 v6 then (xer (ep_g h.1 17) fun v7 => bif Nat.blt (xsub v7 1) 1024 then xer (ep_g (xL_23 h.2) (xsub v7 1)) fun v9 => bif xeq v9 58 then (xer (ep_g h.1 17) fun v10 => xwi h 17 (xsub v10 1) fun h11 => xer (ep_g h11.1 10) fun v12 => xwi h11 10 (xsub v12 1) fun h13 => xer (ep_g h13.1 17) fun v14 => bif Nat.blt v14 1024 then xer (ep_g (xL_25 h13.2) v14) fun v16 => xev (g_Program_aim h13 v16) fun h17 => xeb (g_Exprs_release h17) fun v19 h18 => xeb (g_Exprs_release h18) fun v21 h20 => xer (ep_g h20.1 17) fun v22 => bif Nat.blt v22 1024 then xer (ep_g (xL_26 h20.2) v22) fun v24 => bif xeq v24 0 then (g_Exprs_endChoices_105 k2 x1 v19 v21 v24 h20) else (bif xeq v21 0 then (g_Exprs_endChoices_105 k2 x1 v19 v21 v24 h20) else (bif xeq v19 0 then (g_Exprs_endChoices_105 k2 x1 v19 v21 v24 h20) else (g_Exprs_endChoices_110 k2 x1 v19 v21 v24 0 h20))) else none else none) else (some h) else none) else (some h))
def g_Exprs_endChoices_2 : Nat → Nat → xE → Option xE
  | 0 => fun _ _ => none
  | nn + 1 => gF_Exprs_endChoices_2 (g_Exprs_endChoices_2 nn)
def g_Exprs_endChoices (h : xE) : Option xE := g_Exprs_endChoices_2 200000 0 h
set_option maxHeartbeats 4000000 in
set_option maxRecDepth 100000 in
theorem cx_Exprs_endChoices (l : Launch) {dA : FieldType → ClassId} {D : va_G} {al : Nat → Nat} {sk sv : Nat → Nat} (hi : mv_inj (mg dA D al me)) (b : mv_H) (hb : xR (mv_r b)) (h : xE) {rg : xE} (hf : g_Exprs_endChoices h = some rg) : mv_C l y_Exprs_endChoices (Cond.code y_Exprs_endChoices b_Exprs_endChoices 6 (Option.none : Option Jvm.ClassFile.FieldType) :: ma) ({ frames := 2, cells := 0, slots := 0, locals := 44 }) (mg dA D al me) (mK sk sv) [.ref (al 22)] (ab b h) (mv_Rv (fun σ1 => σ1 = ab b rg)) := by
  refine mv_C.ofV (cc := b_Exprs_endChoices) (nL := 6) (ret := (Option.none : Option Jvm.ClassFile.FieldType)) (by decide +kernel) rfl hi (Nat.le_of_ble_eq_true rfl) ?_
  intro p e s m below meth c B hNs hr hnm hno
  have lp2 : ∀ (nn2 : Nat) (x1 : Nat) (h : xE), g_Exprs_endChoices_2 nn2 x1 h = some rg → mv_V p l e ({ frames := 2, cells := 0, slots := 0, locals := 44 }) s m ([.ref (al 22)] : List Value).toArray below meth c (mg dA D al me) 6 0 0 (mv_Q (mg dA D al me) below s 0 0 (mv_Rv (fun σ1 => σ1 = ab b rg))) (ab b h) 2 [(0, .ref (al 22)), (1, .int (nI x1))] [] := by
    intro nn2
    induction nn2 with
    | zero => intro x1 h hf; cases hf
    | succ nn2 ih2 =>
      intro x1 h hf
      have jn156 : ∀ (x1 : Nat) (y0 : Nat) (h : xE), g_Exprs_endChoices_156 (g_Exprs_endChoices_2 nn2) x1 y0 h = some rg → mv_V p l e ({ frames := 2, cells := 0, slots := 0, locals := 44 }) s m ([.ref (al 22)] : List Value).toArray below meth c (mg dA D al me) 6 0 0 (mv_Q (mg dA D al me) below s 0 0 (mv_Rv (fun σ1 => σ1 = ab b rg))) (ab b h) 156 [(0, .ref (al 22)), (1, .int (nI x1))] [.int (nI y0), .ref (al 22)] := by
        intro x1 y0 h hf
        unfold g_Exprs_endChoices_156 at hf
        obtain ⟨h1, eh1, hf⟩ := xev_e hf
        refine mv_callVv (pc := 156) (n := 1) (ci := 6) (C := R_Exprs) B (mK_ok sk sv) hNs rfl rfl (cx_Exprs_hold l hi _ hb _ _ eh1) rfl (ma_goodc kc_Exprs_hold) (B.2.2.2.1 _ k_1432) (B.2.2.2.1 _ k_1434) (B.2.2.2.1 _ ks_51) (B.2.2.2.1 _ k_7) ⟨by decide +kernel, by decide +kernel, by decide +kernel⟩ rfl d_Exprs_endChoices_156 rfl (Nat.le_of_ble_eq_true rfl) ⟨by decide, by decide⟩ ⟨by decide, by decide⟩ ⟨by decide, by decide⟩ (mv_noH hno _) (fun σ156 h156 => ?_)
        subst h156
        refine mvn_iinc (pc := 159) (j := 1) (v := 1) B d_Exprs_endChoices_159 rfl (by decide) (by decide) rfl ?_
        refine mv_goto (pc := 162) (tgt := 2) B d_Exprs_endChoices_162 rfl ?_
        refine mv_lpick [1, 0] rfl ?_
        exact ih2 _ _ hf
      have jn145 : ∀ (x1 : Nat) (x3 : Nat) (x5 : Nat) (h : xE), g_Exprs_endChoices_145 (g_Exprs_endChoices_2 nn2) x1 x3 x5 h = some rg → mv_V p l e ({ frames := 2, cells := 0, slots := 0, locals := 44 }) s m ([.ref (al 22)] : List Value).toArray below meth c (mg dA D al me) 6 0 0 (mv_Q (mg dA D al me) below s 0 0 (mv_Rv (fun σ1 => σ1 = ab b rg))) (ab b h) 145 [(0, .ref (al 22)), (1, .int (nI x1)), (3, .int (nI x3)), (5, .int (nI x5))] [] := by
        intro x1 x3 x5 h hf
        unfold g_Exprs_endChoices_145 at hf
        refine mv_aload_n (pc := 145) B d_Exprs_endChoices_145 rfl 0 rfl ?_
        refine mv_iload (pc := 146) B d_Exprs_endChoices_146 3 rfl ?_
        refine mv_if_eq (pc := 148) (tgt := 155) B d_Exprs_endChoices_148 rfl (fun h148 => ?_) (fun h148 => ?_)
        · skip
          have hf := x_eq_t (y := 0) h148 hf
          refine mv_iload_n (pc := 155) B d_Exprs_endChoices_155 rfl 2 rfl ?_
          refine mv_lpick [0, 1] rfl ?_
          exact jn156 _ _ _ hf
        · skip
          have hf := x_eq_f (y := 0) h148 hf
          refine mv_iconst (pc := 151) (v := nI 0) B d_Exprs_endChoices_151 (by decide) ?_
          refine mv_goto (pc := 152) (tgt := 156) B d_Exprs_endChoices_152 rfl ?_
          refine mv_lpick [0, 1] rfl ?_
          exact jn156 _ _ _ hf
      have jn128 : ∀ (x1 : Nat) (x3 : Nat) (h : xE), g_Exprs_endChoices_128 (g_Exprs_endChoices_2 nn2) x1 x3 h = some rg → mv_V p l e ({ frames := 2, cells := 0, slots := 0, locals := 44 }) s m ([.ref (al 22)] : List Value).toArray below meth c (mg dA D al me) 6 0 0 (mv_Q (mg dA D al me) below s 0 0 (mv_Rv (fun σ1 => σ1 = ab b rg))) (ab b h) 128 [(0, .ref (al 22)), (1, .int (nI x1)), (3, .int (nI x3))] [] := by
        intro x1 x3 h hf
        unfold g_Exprs_endChoices_128 at hf
        refine mv_aload_n (pc := 128) B d_Exprs_endChoices_128 rfl 0 rfl ?_
        refine mv_aload_n (pc := 129) B d_Exprs_endChoices_129 rfl 0 rfl ?_
        refine mv_getR (pc := 130) (ci := 6) (C := R_Exprs) (T := F_Exprs) (N := 11) B 5 rfl rfl (by decide) i_Exprs (B.2.2.2.1 _ k_199) rfl (hb.1.1 22 5 _ rfl) d_Exprs_endChoices_130 ?_
        refine mv_aload_n (pc := 133) B d_Exprs_endChoices_133 rfl 0 rfl ?_
        refine mv_getI (pc := 134) (ci := 6) (C := R_Exprs) (T := F_Exprs) (N := 11) B 8 rfl rfl (by decide) i_Exprs (B.2.2.2.1 _ k_202) rfl d_Exprs_endChoices_134 ?_
        obtain ⟨v2, ev2, hf⟩ := xer_e hf
        refine mvn_top (xfi_22_8 ev2) ?_
        obtain ⟨q3, hf⟩ := xix_e hf
        refine mv_iald (pc := 137) B rfl (xin q3 (by decide)) d_Exprs_endChoices_137 ?_
        obtain ⟨v4, ev4, hf⟩ := xer_e hf
        refine mvn_top (xfa_24 q3 ev4) ?_
        refine mv_iconst (pc := 138) (v := nI 4) B d_Exprs_endChoices_138 (by decide) ?_
        obtain ⟨h5, eh5, hf⟩ := xev_e hf
        refine mv_callVv (pc := 139) (n := 2) (ci := 6) (C := R_Exprs) B (mK_ok sk sv) hNs rfl rfl (cx_Exprs_tell l hi _ hb _ _ _ eh5) rfl (ma_goodc kc_Exprs_tell) (B.2.2.2.1 _ k_1427) (B.2.2.2.1 _ k_1429) (B.2.2.2.1 _ ks_50) (B.2.2.2.1 _ k_7) ⟨by decide +kernel, by decide +kernel, by decide +kernel⟩ rfl d_Exprs_endChoices_139 rfl (Nat.le_of_ble_eq_true rfl) ⟨by decide, by decide⟩ ⟨by decide, by decide⟩ ⟨by decide, by decide⟩ (mv_noH hno _) (fun σ139 h139 => ?_)
        subst h139
        refine mv_iconst (pc := 142) (v := nI 1) B d_Exprs_endChoices_142 (by decide) ?_
        refine mv_istore (pc := 143) B d_Exprs_endChoices_143 (by decide) rfl ?_
        refine mv_lpick [1, 2, 3, 0] rfl ?_
        exact jn145 _ _ _ _ hf
      have jn110 : ∀ (x1 : Nat) (x2 : Nat) (x3 : Nat) (x4 : Nat) (y0 : Nat) (h : xE), g_Exprs_endChoices_110 (g_Exprs_endChoices_2 nn2) x1 x2 x3 x4 y0 h = some rg → mv_V p l e ({ frames := 2, cells := 0, slots := 0, locals := 44 }) s m ([.ref (al 22)] : List Value).toArray below meth c (mg dA D al me) 6 0 0 (mv_Q (mg dA D al me) below s 0 0 (mv_Rv (fun σ1 => σ1 = ab b rg))) (ab b h) 110 [(0, .ref (al 22)), (1, .int (nI x1)), (2, .int (nI x2)), (3, .int (nI x3)), (4, .int (nI x4))] [.int (nI y0)] := by
        intro x1 x2 x3 x4 y0 h hf
        unfold g_Exprs_endChoices_110 at hf
        refine mv_istore (pc := 110) B d_Exprs_endChoices_110 (by decide) rfl ?_
        refine mv_iload (pc := 112) B d_Exprs_endChoices_112 0 rfl ?_
        refine mv_if_ne (pc := 114) (tgt := 145) B d_Exprs_endChoices_114 rfl (fun h114 => ?_) (fun h114 => ?_)
        · skip
          have hf := x_eq_f (y := 0) h114 hf
          refine mv_lpick [1, 2, 4, 0] rfl ?_
          exact jn145 _ _ _ _ hf
        · skip
          have hf := x_eq_t (y := 0) h114 hf
          refine mv_iload (pc := 117) B d_Exprs_endChoices_117 5 rfl ?_
          refine mv_iconst (pc := 119) (v := nI 1) B d_Exprs_endChoices_119 (by decide) ?_
          refine mv_icmp_ne (pc := 120) (tgt := 128) B d_Exprs_endChoices_120 rfl (fun h120 => ?_) (fun h120 => ?_)
          · skip
            have hf := x_eq_f h120 hf
            refine mv_lpick [1, 2, 4] rfl ?_
            exact jn128 _ _ _ hf
          · skip
            have hf := x_eq_t h120 hf
            refine mv_iload_n (pc := 123) B d_Exprs_endChoices_123 rfl 4 rfl ?_
            refine mv_iload_n (pc := 124) B d_Exprs_endChoices_124 rfl 3 rfl ?_
            refine mv_icmp_eq (pc := 125) (tgt := 145) B d_Exprs_endChoices_125 rfl (fun h125 => ?_) (fun h125 => ?_)
            · skip
              have hf := x_eq_t h125 hf
              refine mv_lpick [1, 2, 4, 0] rfl ?_
              exact jn145 _ _ _ _ hf
            · skip
              have hf := x_eq_f h125 hf
              refine mv_lpick [1, 2, 4] rfl ?_
              exact jn128 _ _ _ hf
      have jn105 : ∀ (x1 : Nat) (x2 : Nat) (x3 : Nat) (x4 : Nat) (h : xE), g_Exprs_endChoices_105 (g_Exprs_endChoices_2 nn2) x1 x2 x3 x4 h = some rg → mv_V p l e ({ frames := 2, cells := 0, slots := 0, locals := 44 }) s m ([.ref (al 22)] : List Value).toArray below meth c (mg dA D al me) 6 0 0 (mv_Q (mg dA D al me) below s 0 0 (mv_Rv (fun σ1 => σ1 = ab b rg))) (ab b h) 105 [(0, .ref (al 22)), (1, .int (nI x1)), (2, .int (nI x2)), (3, .int (nI x3)), (4, .int (nI x4))] [] := by
        intro x1 x2 x3 x4 h hf
        unfold g_Exprs_endChoices_105 at hf
        refine mv_iconst (pc := 105) (v := nI 1) B d_Exprs_endChoices_105 (by decide) ?_
        refine mv_goto (pc := 106) (tgt := 110) B d_Exprs_endChoices_106 rfl ?_
        refine mv_lpick [0, 1, 2, 3, 4] rfl ?_
        exact jn110 _ _ _ _ _ _ hf
      have hf : gF_Exprs_endChoices_2 (g_Exprs_endChoices_2 nn2) x1 h = some rg := hf
      unfold gF_Exprs_endChoices_2 at hf
      have hf := (xfz_e _ _).symm.trans hf
      refine mv_iload_n (pc := 2) B d_Exprs_endChoices_2 rfl 1 rfl ?_
      refine mv_bipush (pc := 3) (v := nI 60) B d_Exprs_endChoices_3 (by decide) ?_
      refine mv_icmp_gt (pc := 5) (tgt := 165) B d_Exprs_endChoices_5 rfl (fun h5 => ?_) (fun h5 => ?_)
      · skip
        have hf := x_lt_t h5 hf
        exact mv_vret (pc := 165) B hr d_Exprs_endChoices_165 (Nat.le_refl _) (Nat.le_refl _) ⟨rfl, xret_v hf⟩
      · skip
        have hf := x_lt_f h5 hf
        refine mv_aload_n (pc := 8) B d_Exprs_endChoices_8 rfl 0 rfl ?_
        refine mv_getI (pc := 9) (ci := 6) (C := R_Exprs) (T := F_Exprs) (N := 11) B 8 rfl rfl (by decide) i_Exprs (B.2.2.2.1 _ k_202) rfl d_Exprs_endChoices_9 ?_
        obtain ⟨v6, ev6, hf⟩ := xer_e hf
        refine mvn_top (xfi_22_8 ev6) ?_
        refine mv_if_le (pc := 12) (tgt := 165) B d_Exprs_endChoices_12 rfl (fun h12 => ?_) (fun h12 => ?_)
        · skip
          have hf := x_le_t (y := 0) h12 hf
          exact mv_vret (pc := 165) B hr d_Exprs_endChoices_165 (Nat.le_refl _) (Nat.le_refl _) ⟨rfl, xret_v hf⟩
        · skip
          have hf := x_le_f (y := 0) h12 hf
          refine mv_aload_n (pc := 15) B d_Exprs_endChoices_15 rfl 0 rfl ?_
          refine mv_getR (pc := 16) (ci := 6) (C := R_Exprs) (T := F_Exprs) (N := 11) B 4 rfl rfl (by decide) i_Exprs (B.2.2.2.1 _ k_198) rfl (hb.1.1 22 4 _ rfl) d_Exprs_endChoices_16 ?_
          refine mv_aload_n (pc := 19) B d_Exprs_endChoices_19 rfl 0 rfl ?_
          refine mv_getI (pc := 20) (ci := 6) (C := R_Exprs) (T := F_Exprs) (N := 11) B 8 rfl rfl (by decide) i_Exprs (B.2.2.2.1 _ k_202) rfl d_Exprs_endChoices_20 ?_
          obtain ⟨v7, ev7, hf⟩ := xer_e hf
          refine mvn_top (xfi_22_8 ev7) ?_
          refine mv_iconst (pc := 23) (v := nI 1) B d_Exprs_endChoices_23 (by decide) ?_
          refine mvn_isub (pc := 24) B d_Exprs_endChoices_24 ?_
          obtain ⟨q8, hf⟩ := xix_e hf
          refine mv_iald (pc := 25) B rfl (xin q8 (by decide)) d_Exprs_endChoices_25 ?_
          obtain ⟨v9, ev9, hf⟩ := xer_e hf
          refine mvn_top (xfa_23 q8 ev9) ?_
          refine mv_bipush (pc := 26) (v := nI 58) B d_Exprs_endChoices_26 (by decide) ?_
          refine mv_icmp_eq (pc := 28) (tgt := 32) B d_Exprs_endChoices_28 rfl (fun h28 => ?_) (fun h28 => ?_)
          · skip
            have hf := x_eq_t h28 hf
            refine mv_aload_n (pc := 32) B d_Exprs_endChoices_32 rfl 0 rfl ?_
            refine mv_dup (pc := 33) B d_Exprs_endChoices_33 rfl ?_
            refine mv_getI (pc := 34) (ci := 6) (C := R_Exprs) (T := F_Exprs) (N := 11) B 8 rfl rfl (by decide) i_Exprs (B.2.2.2.1 _ k_202) rfl d_Exprs_endChoices_34 ?_
            obtain ⟨v10, ev10, hf⟩ := xer_e hf
            refine mvn_top (xfi_22_8 ev10) ?_
            refine mv_iconst (pc := 37) (v := nI 1) B d_Exprs_endChoices_37 (by decide) ?_
            refine mvn_isub (pc := 38) B d_Exprs_endChoices_38 ?_
            refine mv_putI (pc := 39) (ci := 6) (C := R_Exprs) (T := F_Exprs) (N := 11) B 8 rfl rfl (by decide) i_Exprs t_Exprs_ok n_Exprs (B.2.2.2.1 _ k_202) rfl rfl rfl rfl d_Exprs_endChoices_39 ?_
            refine mvn_hp (xwi_22_8 _ _ _) (xwi_f hf) (fun h11 hf => ?_)
            refine mv_aload_n (pc := 42) B d_Exprs_endChoices_42 rfl 0 rfl ?_
            refine mv_getR (pc := 43) (ci := 6) (C := R_Exprs) (T := F_Exprs) (N := 11) B 0 rfl rfl (by decide) i_Exprs (B.2.2.2.1 _ k_193) rfl (hb.1.1 22 0 _ rfl) d_Exprs_endChoices_43 ?_
            refine mv_dup (pc := 46) B d_Exprs_endChoices_46 rfl ?_
            refine mv_getI (pc := 47) (ci := 2) (C := R_Tokens) (T := F_Tokens) (N := 10) B 8 rfl rfl (by decide) i_Tokens (B.2.2.2.1 _ k_104) rfl d_Exprs_endChoices_47 ?_
            obtain ⟨v12, ev12, hf⟩ := xer_e hf
            refine mvn_top (xfi_3_8 ev12) ?_
            refine mv_iconst (pc := 50) (v := nI 1) B d_Exprs_endChoices_50 (by decide) ?_
            refine mvn_isub (pc := 51) B d_Exprs_endChoices_51 ?_
            refine mv_putI (pc := 52) (ci := 2) (C := R_Tokens) (T := F_Tokens) (N := 10) B 8 rfl rfl (by decide) i_Tokens t_Tokens_ok n_Tokens (B.2.2.2.1 _ k_104) rfl rfl rfl rfl d_Exprs_endChoices_52 ?_
            refine mvn_hp (xwi_3_8 _ _ _) (xwi_f hf) (fun h13 hf => ?_)
            refine mv_aload_n (pc := 55) B d_Exprs_endChoices_55 rfl 0 rfl ?_
            refine mv_getR (pc := 56) (ci := 6) (C := R_Exprs) (T := F_Exprs) (N := 11) B 3 rfl rfl (by decide) i_Exprs (B.2.2.2.1 _ k_197) rfl hb.1.2.2.2 d_Exprs_endChoices_56 ?_
            refine mv_aload_n (pc := 59) B d_Exprs_endChoices_59 rfl 0 rfl ?_
            refine mv_getR (pc := 60) (ci := 6) (C := R_Exprs) (T := F_Exprs) (N := 11) B 6 rfl rfl (by decide) i_Exprs (B.2.2.2.1 _ k_200) rfl (hb.1.1 22 6 _ rfl) d_Exprs_endChoices_60 ?_
            refine mv_aload_n (pc := 63) B d_Exprs_endChoices_63 rfl 0 rfl ?_
            refine mv_getI (pc := 64) (ci := 6) (C := R_Exprs) (T := F_Exprs) (N := 11) B 8 rfl rfl (by decide) i_Exprs (B.2.2.2.1 _ k_202) rfl d_Exprs_endChoices_64 ?_
            obtain ⟨v14, ev14, hf⟩ := xer_e hf
            refine mvn_top (xfi_22_8 ev14) ?_
            obtain ⟨q15, hf⟩ := xix_e hf
            refine mv_iald (pc := 67) B rfl (xin q15 (by decide)) d_Exprs_endChoices_67 ?_
            obtain ⟨v16, ev16, hf⟩ := xer_e hf
            refine mvn_top (xfa_25 q15 ev16) ?_
            obtain ⟨h17, eh17, hf⟩ := xev_e hf
            refine mv_callVv (pc := 68) (n := 1) (ci := 7) (C := R_Program) B (mK_ok sk sv) hNs rfl rfl (cx_Program_aim l hi _ hb _ _ eh17) rfl (ma_goodc kc_Program_aim) (B.2.2.2.1 _ k_1501) (B.2.2.2.1 _ k_1403) (B.2.2.2.1 _ k_1404) (B.2.2.2.1 _ k_8) ⟨by decide +kernel, by decide +kernel, by decide +kernel⟩ rfl d_Exprs_endChoices_68 rfl (Nat.le_of_ble_eq_true rfl) ⟨by decide, by decide⟩ ⟨by decide, by decide⟩ ⟨by decide, by decide⟩ (mv_noH hno _) (fun σ68 h68 => ?_)
            subst h68
            refine mv_aload_n (pc := 71) B d_Exprs_endChoices_71 rfl 0 rfl ?_
            obtain ⟨v19, h18, eh18, hf⟩ := xeb_e hf
            refine mv_callVi (pc := 72) (n := 0) (ci := 6) (C := R_Exprs) B (mK_ok sk sv) hNs rfl rfl (cx_Exprs_release l hi _ hb _ eh18) rfl (ma_goodc kc_Exprs_release) (B.2.2.2.1 _ k_1469) (B.2.2.2.1 _ k_1470) (B.2.2.2.1 _ k_1471) (B.2.2.2.1 _ k_7) ⟨by decide +kernel, by decide +kernel, by decide +kernel⟩ rfl d_Exprs_endChoices_72 rfl (Nat.le_of_ble_eq_true rfl) ⟨by decide, by decide⟩ ⟨by decide, by decide⟩ ⟨by decide, by decide⟩ (mv_noH hno _) (fun w72 σ72 h72 => ?_)
            obtain ⟨rfl, rfl⟩ := h72
            refine mv_istore_n (pc := 75) B d_Exprs_endChoices_75 rfl (by decide) rfl ?_
            refine mv_aload_n (pc := 76) B d_Exprs_endChoices_76 rfl 1 rfl ?_
            obtain ⟨v21, h20, eh20, hf⟩ := xeb_e hf
            refine mv_callVi (pc := 77) (n := 0) (ci := 6) (C := R_Exprs) B (mK_ok sk sv) hNs rfl rfl (cx_Exprs_release l hi _ hb _ eh20) rfl (ma_goodc kc_Exprs_release) (B.2.2.2.1 _ k_1469) (B.2.2.2.1 _ k_1470) (B.2.2.2.1 _ k_1471) (B.2.2.2.1 _ k_7) ⟨by decide +kernel, by decide +kernel, by decide +kernel⟩ rfl d_Exprs_endChoices_77 rfl (Nat.le_of_ble_eq_true rfl) ⟨by decide, by decide⟩ ⟨by decide, by decide⟩ ⟨by decide, by decide⟩ (mv_noH hno _) (fun w77 σ77 h77 => ?_)
            obtain ⟨rfl, rfl⟩ := h77
            refine mv_istore_n (pc := 80) B d_Exprs_endChoices_80 rfl (by decide) rfl ?_
            refine mv_aload_n (pc := 81) B d_Exprs_endChoices_81 rfl 2 rfl ?_
            refine mv_getR (pc := 82) (ci := 6) (C := R_Exprs) (T := F_Exprs) (N := 11) B 7 rfl rfl (by decide) i_Exprs (B.2.2.2.1 _ k_201) rfl (hb.1.1 22 7 _ rfl) d_Exprs_endChoices_82 ?_
            refine mv_aload_n (pc := 85) B d_Exprs_endChoices_85 rfl 2 rfl ?_
            refine mv_getI (pc := 86) (ci := 6) (C := R_Exprs) (T := F_Exprs) (N := 11) B 8 rfl rfl (by decide) i_Exprs (B.2.2.2.1 _ k_202) rfl d_Exprs_endChoices_86 ?_
            obtain ⟨v22, ev22, hf⟩ := xer_e hf
            refine mvn_top (xfi_22_8 ev22) ?_
            obtain ⟨q23, hf⟩ := xix_e hf
            refine mv_iald (pc := 89) B rfl (xin q23 (by decide)) d_Exprs_endChoices_89 ?_
            obtain ⟨v24, ev24, hf⟩ := xer_e hf
            refine mvn_top (xfa_26 q23 ev24) ?_
            refine mv_istore (pc := 90) B d_Exprs_endChoices_90 (by decide) rfl ?_
            refine mv_iload (pc := 92) B d_Exprs_endChoices_92 0 rfl ?_
            refine mv_if_eq (pc := 94) (tgt := 105) B d_Exprs_endChoices_94 rfl (fun h94 => ?_) (fun h94 => ?_)
            · skip
              have hf := x_eq_t (y := 0) h94 hf
              refine mv_lpick [3, 4, 2, 1, 0] rfl ?_
              exact jn105 _ _ _ _ _ hf
            · skip
              have hf := x_eq_f (y := 0) h94 hf
              refine mv_iload_n (pc := 97) B d_Exprs_endChoices_97 rfl 1 rfl ?_
              refine mv_if_eq (pc := 98) (tgt := 105) B d_Exprs_endChoices_98 rfl (fun h98 => ?_) (fun h98 => ?_)
              · skip
                have hf := x_eq_t (y := 0) h98 hf
                refine mv_lpick [3, 4, 2, 1, 0] rfl ?_
                exact jn105 _ _ _ _ _ hf
              · skip
                have hf := x_eq_f (y := 0) h98 hf
                refine mv_iload_n (pc := 101) B d_Exprs_endChoices_101 rfl 2 rfl ?_
                refine mv_if_ne (pc := 102) (tgt := 109) B d_Exprs_endChoices_102 rfl (fun h102 => ?_) (fun h102 => ?_)
                · skip
                  have hf := x_eq_f (y := 0) h102 hf
                  refine mv_iconst (pc := 109) (v := nI 0) B d_Exprs_endChoices_109 (by decide) ?_
                  refine mv_lpick [3, 4, 2, 1, 0] rfl ?_
                  exact jn110 _ _ _ _ _ _ hf
                · skip
                  have hf := x_eq_t (y := 0) h102 hf
                  refine mv_lpick [3, 4, 2, 1, 0] rfl ?_
                  exact jn105 _ _ _ _ _ hf
          · skip
            have hf := x_eq_f h28 hf
            exact mv_vret (pc := 31) B hr d_Exprs_endChoices_31 (Nat.le_refl _) (Nat.le_refl _) ⟨rfl, xret_v hf⟩
  unfold g_Exprs_endChoices at hf
  refine mv_iconst (pc := 0) (v := nI 0) B d_Exprs_endChoices_0 (by decide) ?_
  refine mv_istore_n (pc := 1) B d_Exprs_endChoices_1 rfl (by decide) rfl ?_
  refine mv_lpick [1, 0] rfl ?_
  exact lp2 _ _ _ hf
def g_Exprs_join_136 (x3 : Nat) (h : xE) : Option (Nat × xE) := xev (g_Exprs_hold h x3) fun h1 => some (1, h1)
def g_Exprs_join_61 (x1 : Nat) (x2 : Nat) (h : xE) : Option (Nat × xE) := bif Nat.blt x2 1024 then xer (ep_g (xL_25 h.2) x2) fun v3 => bif Nat.blt x2 1024 then xw xL_25 xS_25 h x2 (xadd v3 1) fun h5 => bif xeq x1 44 then (xeb (g_Tokens_take h5 44) fun v17 h16 => some (0, h16)) else (xeb (g_Tokens_close h5 125) fun v7 h6 => xer (ep_g h6.1 17) fun v8 => xwi h6 17 (xsub v8 1) fun h9 => xeb (g_Exprs_release h9) fun v11 h10 => bif xlt 64 v11 then (xer (ep_g h10.1 17) fun v12 => bif Nat.blt v12 1024 then xer (ep_g (xL_24 h10.2) v12) fun v14 => xev (g_Exprs_tell h10 v14 4) fun h15 => g_Exprs_join_136 0 h15 else none) else (g_Exprs_join_136 v11 h10)) else none else none
def g_Exprs_join_58 (x1 : Nat) (x2 : Nat) (y0 : Nat) (h : xE) : Option (Nat × xE) := xev (g_Exprs_hold h y0) fun h18 => g_Exprs_join_61 x1 x2 h18
def g_Exprs_join_50 (x1 : Nat) (x2 : Nat) (h : xE) : Option (Nat × xE) := g_Exprs_join_58 x1 x2 0 h
def g_Exprs_join (h : xE) (a0 : Nat) : Option (Nat × xE) := xer (ep_g h.1 17) fun v19 => bif Nat.blt (xsub v19 1) 1024 then xer (ep_g (xL_25 h.2) (xsub v19 1)) fun v21 => bif xlt 0 v21 then (xeb (g_Exprs_release h) fun v23 h22 => xeb (g_Exprs_release h22) fun v25 h24 => xeb (g_Program_emit h24 309 (xi2l v23)) fun v27 h26 => bif xeq v25 0 then (g_Exprs_join_50 a0 (xsub v19 1) h26) else (bif xeq v23 0 then (g_Exprs_join_50 a0 (xsub v19 1) h26) else (g_Exprs_join_58 a0 (xsub v19 1) (xadd v25 v23) h26))) else (g_Exprs_join_61 a0 (xsub v19 1) h) else none
set_option maxHeartbeats 4000000 in
set_option maxRecDepth 100000 in
theorem cx_Exprs_join (l : Launch) {dA : FieldType → ClassId} {D : va_G} {al : Nat → Nat} {sk sv : Nat → Nat} (hi : mv_inj (mg dA D al me)) (b : mv_H) (hb : xR (mv_r b)) (h : xE) (a0 : Nat) {rv : Nat} {rg : xE} (hf : g_Exprs_join h a0 = some (rv, rg)) : mv_C l y_Exprs_join (Cond.code y_Exprs_join b_Exprs_join 5 (Option.some Jvm.ClassFile.FieldType.int) :: ma) ({ frames := 3, cells := 0, slots := 0, locals := 63 }) (mg dA D al me) (mK sk sv) [.ref (al 22), .int (nI a0)] (ab b h) (mv_Ri (fun v σ1 => v = nI rv ∧ σ1 = ab b rg)) := by
  refine mv_C.ofV (cc := b_Exprs_join) (nL := 5) (ret := (Option.some Jvm.ClassFile.FieldType.int)) (by decide +kernel) rfl hi (Nat.le_of_ble_eq_true rfl) ?_
  intro p e s m below meth c B hNs hr hnm hno
  have jn136 : ∀ (x3 : Nat) (h : xE), g_Exprs_join_136 x3 h = some (rv, rg) → mv_V p l e ({ frames := 3, cells := 0, slots := 0, locals := 63 }) s m ([.ref (al 22), .int (nI a0)] : List Value).toArray below meth c (mg dA D al me) 5 0 0 (mv_Q (mg dA D al me) below s 0 0 (mv_Ri (fun v σ1 => v = nI rv ∧ σ1 = ab b rg))) (ab b h) 136 [(0, .ref (al 22)), (3, .int (nI x3))] [] := by
    intro x3 h hf
    unfold g_Exprs_join_136 at hf
    refine mv_aload_n (pc := 136) B d_Exprs_join_136 rfl 0 rfl ?_
    refine mv_iload_n (pc := 137) B d_Exprs_join_137 rfl 1 rfl ?_
    obtain ⟨h1, eh1, hf⟩ := xev_e hf
    refine mv_callVv (pc := 138) (n := 1) (ci := 6) (C := R_Exprs) B (mK_ok sk sv) hNs rfl rfl (cx_Exprs_hold l hi _ hb _ _ eh1) rfl (ma_goodc kc_Exprs_hold) (B.2.2.2.1 _ k_1432) (B.2.2.2.1 _ k_1434) (B.2.2.2.1 _ ks_51) (B.2.2.2.1 _ k_7) ⟨by decide +kernel, by decide +kernel, by decide +kernel⟩ rfl d_Exprs_join_138 rfl (Nat.le_of_ble_eq_true rfl) ⟨by decide, by decide⟩ ⟨by decide, by decide⟩ ⟨by decide, by decide⟩ (mv_noH hno _) (fun σ138 h138 => ?_)
    subst h138
    refine mv_iconst (pc := 141) (v := nI 1) B d_Exprs_join_141 (by decide) ?_
    exact mv_iret (pc := 142) B hr rfl d_Exprs_join_142 (Nat.le_refl _) (Nat.le_refl _) ⟨_, rfl, xret_i hf⟩
  have jn61 : ∀ (x1 : Nat) (x2 : Nat) (h : xE), g_Exprs_join_61 x1 x2 h = some (rv, rg) → mv_V p l e ({ frames := 3, cells := 0, slots := 0, locals := 63 }) s m ([.ref (al 22), .int (nI a0)] : List Value).toArray below meth c (mg dA D al me) 5 0 0 (mv_Q (mg dA D al me) below s 0 0 (mv_Ri (fun v σ1 => v = nI rv ∧ σ1 = ab b rg))) (ab b h) 61 [(0, .ref (al 22)), (1, .int (nI x1)), (2, .int (nI x2))] [] := by
    intro x1 x2 h hf
    unfold g_Exprs_join_61 at hf
    refine mv_aload_n (pc := 61) B d_Exprs_join_61 rfl 0 rfl ?_
    refine mv_getR (pc := 62) (ci := 6) (C := R_Exprs) (T := F_Exprs) (N := 11) B 6 rfl rfl (by decide) i_Exprs (B.2.2.2.1 _ k_200) rfl (hb.1.1 22 6 _ rfl) d_Exprs_join_62 ?_
    refine mv_iload_n (pc := 65) B d_Exprs_join_65 rfl 2 rfl ?_
    refine mv_dup2_11 (pc := 66) B d_Exprs_join_66 rfl rfl ?_
    obtain ⟨q2, hf⟩ := xix_e hf
    refine mv_iald (pc := 67) B rfl (xin q2 (by decide)) d_Exprs_join_67 ?_
    obtain ⟨v3, ev3, hf⟩ := xer_e hf
    refine mvn_top (xfa_25 q2 ev3) ?_
    refine mv_iconst (pc := 68) (v := nI 1) B d_Exprs_join_68 (by decide) ?_
    refine mvn_iadd (pc := 69) B d_Exprs_join_69 ?_
    obtain ⟨q4, hf⟩ := xix_e hf
    refine mv_iast (pc := 70) B rfl (xin q4 (by decide)) d_Exprs_join_70 ?_
    refine mvn_hp (xwa_25 _ _ _ q4) (xw_f xLe_25 xSe_25 hf) (fun h5 hf => ?_)
    refine mv_iload_n (pc := 71) B d_Exprs_join_71 rfl 1 rfl ?_
    refine mv_bipush (pc := 72) (v := nI 44) B d_Exprs_join_72 (by decide) ?_
    refine mv_icmp_ne (pc := 74) (tgt := 89) B d_Exprs_join_74 rfl (fun h74 => ?_) (fun h74 => ?_)
    · skip
      have hf := x_eq_f h74 hf
      refine mv_aload_n (pc := 89) B d_Exprs_join_89 rfl 0 rfl ?_
      refine mv_getR (pc := 90) (ci := 6) (C := R_Exprs) (T := F_Exprs) (N := 11) B 0 rfl rfl (by decide) i_Exprs (B.2.2.2.1 _ k_193) rfl (hb.1.1 22 0 _ rfl) d_Exprs_join_90 ?_
      refine mv_bipush (pc := 93) (v := nI 125) B d_Exprs_join_93 (by decide) ?_
      obtain ⟨v7, h6, eh6, hf⟩ := xeb_e hf
      refine mv_callVi (pc := 95) (n := 1) (ci := 2) (C := R_Tokens) B (mK_ok sk sv) hNs rfl rfl (cx_Tokens_close l hi _ hb _ _ eh6) rfl (ma_goodc kc_Tokens_close) (B.2.2.2.1 _ k_1468) (B.2.2.2.1 _ k_1397) (B.2.2.2.1 _ k_1398) (B.2.2.2.1 _ k_3) ⟨by decide +kernel, by decide +kernel, by decide +kernel⟩ rfl d_Exprs_join_95 rfl (Nat.le_of_ble_eq_true rfl) ⟨by decide, by decide⟩ ⟨by decide, by decide⟩ ⟨by decide, by decide⟩ (mv_noH hno _) (fun w95 σ95 h95 => ?_)
      obtain ⟨rfl, rfl⟩ := h95
      refine mv_pop (pc := 98) B d_Exprs_join_98 rfl ?_
      refine mv_aload_n (pc := 99) B d_Exprs_join_99 rfl 0 rfl ?_
      refine mv_dup (pc := 100) B d_Exprs_join_100 rfl ?_
      refine mv_getI (pc := 101) (ci := 6) (C := R_Exprs) (T := F_Exprs) (N := 11) B 8 rfl rfl (by decide) i_Exprs (B.2.2.2.1 _ k_202) rfl d_Exprs_join_101 ?_
      obtain ⟨v8, ev8, hf⟩ := xer_e hf
      refine mvn_top (xfi_22_8 ev8) ?_
      refine mv_iconst (pc := 104) (v := nI 1) B d_Exprs_join_104 (by decide) ?_
      refine mvn_isub (pc := 105) B d_Exprs_join_105 ?_
      refine mv_putI (pc := 106) (ci := 6) (C := R_Exprs) (T := F_Exprs) (N := 11) B 8 rfl rfl (by decide) i_Exprs t_Exprs_ok n_Exprs (B.2.2.2.1 _ k_202) rfl rfl rfl rfl d_Exprs_join_106 ?_
      refine mvn_hp (xwi_22_8 _ _ _) (xwi_f hf) (fun h9 hf => ?_)
      refine mv_aload_n (pc := 109) B d_Exprs_join_109 rfl 0 rfl ?_
      obtain ⟨v11, h10, eh10, hf⟩ := xeb_e hf
      refine mv_callVi (pc := 110) (n := 0) (ci := 6) (C := R_Exprs) B (mK_ok sk sv) hNs rfl rfl (cx_Exprs_release l hi _ hb _ eh10) rfl (ma_goodc kc_Exprs_release) (B.2.2.2.1 _ k_1469) (B.2.2.2.1 _ k_1470) (B.2.2.2.1 _ k_1471) (B.2.2.2.1 _ k_7) ⟨by decide +kernel, by decide +kernel, by decide +kernel⟩ rfl d_Exprs_join_110 rfl (Nat.le_of_ble_eq_true rfl) ⟨by decide, by decide⟩ ⟨by decide, by decide⟩ ⟨by decide, by decide⟩ (mv_noH hno _) (fun w110 σ110 h110 => ?_)
      obtain ⟨rfl, rfl⟩ := h110
      refine mv_istore_n (pc := 113) B d_Exprs_join_113 rfl (by decide) rfl ?_
      refine mv_iload_n (pc := 114) B d_Exprs_join_114 rfl 0 rfl ?_
      refine mv_bipush (pc := 115) (v := nI 64) B d_Exprs_join_115 (by decide) ?_
      refine mv_icmp_le (pc := 117) (tgt := 136) B d_Exprs_join_117 rfl (fun h117 => ?_) (fun h117 => ?_)
      · skip
        have hf := x_le_t h117 hf
        refine mv_lpick [1, 0] rfl ?_
        exact jn136 _ _ hf
      · skip
        have hf := x_le_f h117 hf
        refine mv_aload_n (pc := 120) B d_Exprs_join_120 rfl 1 rfl ?_
        refine mv_aload_n (pc := 121) B d_Exprs_join_121 rfl 1 rfl ?_
        refine mv_getR (pc := 122) (ci := 6) (C := R_Exprs) (T := F_Exprs) (N := 11) B 5 rfl rfl (by decide) i_Exprs (B.2.2.2.1 _ k_199) rfl (hb.1.1 22 5 _ rfl) d_Exprs_join_122 ?_
        refine mv_aload_n (pc := 125) B d_Exprs_join_125 rfl 1 rfl ?_
        refine mv_getI (pc := 126) (ci := 6) (C := R_Exprs) (T := F_Exprs) (N := 11) B 8 rfl rfl (by decide) i_Exprs (B.2.2.2.1 _ k_202) rfl d_Exprs_join_126 ?_
        obtain ⟨v12, ev12, hf⟩ := xer_e hf
        refine mvn_top (xfi_22_8 ev12) ?_
        obtain ⟨q13, hf⟩ := xix_e hf
        refine mv_iald (pc := 129) B rfl (xin q13 (by decide)) d_Exprs_join_129 ?_
        obtain ⟨v14, ev14, hf⟩ := xer_e hf
        refine mvn_top (xfa_24 q13 ev14) ?_
        refine mv_iconst (pc := 130) (v := nI 4) B d_Exprs_join_130 (by decide) ?_
        obtain ⟨h15, eh15, hf⟩ := xev_e hf
        refine mv_callVv (pc := 131) (n := 2) (ci := 6) (C := R_Exprs) B (mK_ok sk sv) hNs rfl rfl (cx_Exprs_tell l hi _ hb _ _ _ eh15) rfl (ma_goodc kc_Exprs_tell) (B.2.2.2.1 _ k_1427) (B.2.2.2.1 _ k_1429) (B.2.2.2.1 _ ks_50) (B.2.2.2.1 _ k_7) ⟨by decide +kernel, by decide +kernel, by decide +kernel⟩ rfl d_Exprs_join_131 rfl (Nat.le_of_ble_eq_true rfl) ⟨by decide, by decide⟩ ⟨by decide, by decide⟩ ⟨by decide, by decide⟩ (mv_noH hno _) (fun σ131 h131 => ?_)
        subst h131
        refine mv_iconst (pc := 134) (v := nI 0) B d_Exprs_join_134 (by decide) ?_
        refine mv_istore_n (pc := 135) B d_Exprs_join_135 rfl (by decide) rfl ?_
        refine mv_lpick [1, 0] rfl ?_
        exact jn136 _ _ hf
    · skip
      have hf := x_eq_t h74 hf
      refine mv_aload_n (pc := 77) B d_Exprs_join_77 rfl 0 rfl ?_
      refine mv_getR (pc := 78) (ci := 6) (C := R_Exprs) (T := F_Exprs) (N := 11) B 0 rfl rfl (by decide) i_Exprs (B.2.2.2.1 _ k_193) rfl (hb.1.1 22 0 _ rfl) d_Exprs_join_78 ?_
      refine mv_bipush (pc := 81) (v := nI 44) B d_Exprs_join_81 (by decide) ?_
      obtain ⟨v17, h16, eh16, hf⟩ := xeb_e hf
      refine mv_callVi (pc := 83) (n := 1) (ci := 2) (C := R_Tokens) B (mK_ok sk sv) hNs rfl rfl (cx_Tokens_take l hi _ hb _ _ eh16) rfl (ma_goodc kc_Tokens_take) (B.2.2.2.1 _ k_1424) (B.2.2.2.1 _ k_1267) (B.2.2.2.1 _ k_1268) (B.2.2.2.1 _ k_3) ⟨by decide +kernel, by decide +kernel, by decide +kernel⟩ rfl d_Exprs_join_83 rfl (Nat.le_of_ble_eq_true rfl) ⟨by decide, by decide⟩ ⟨by decide, by decide⟩ ⟨by decide, by decide⟩ (mv_noH hno _) (fun w83 σ83 h83 => ?_)
      obtain ⟨rfl, rfl⟩ := h83
      refine mv_pop (pc := 86) B d_Exprs_join_86 rfl ?_
      refine mv_iconst (pc := 87) (v := nI 0) B d_Exprs_join_87 (by decide) ?_
      exact mv_iret (pc := 88) B hr rfl d_Exprs_join_88 (Nat.le_refl _) (Nat.le_refl _) ⟨_, rfl, xret_i hf⟩
  have jn58 : ∀ (x1 : Nat) (x2 : Nat) (y0 : Nat) (h : xE), g_Exprs_join_58 x1 x2 y0 h = some (rv, rg) → mv_V p l e ({ frames := 3, cells := 0, slots := 0, locals := 63 }) s m ([.ref (al 22), .int (nI a0)] : List Value).toArray below meth c (mg dA D al me) 5 0 0 (mv_Q (mg dA D al me) below s 0 0 (mv_Ri (fun v σ1 => v = nI rv ∧ σ1 = ab b rg))) (ab b h) 58 [(0, .ref (al 22)), (1, .int (nI x1)), (2, .int (nI x2))] [.int (nI y0), .ref (al 22)] := by
    intro x1 x2 y0 h hf
    unfold g_Exprs_join_58 at hf
    obtain ⟨h18, eh18, hf⟩ := xev_e hf
    refine mv_callVv (pc := 58) (n := 1) (ci := 6) (C := R_Exprs) B (mK_ok sk sv) hNs rfl rfl (cx_Exprs_hold l hi _ hb _ _ eh18) rfl (ma_goodc kc_Exprs_hold) (B.2.2.2.1 _ k_1432) (B.2.2.2.1 _ k_1434) (B.2.2.2.1 _ ks_51) (B.2.2.2.1 _ k_7) ⟨by decide +kernel, by decide +kernel, by decide +kernel⟩ rfl d_Exprs_join_58 rfl (Nat.le_of_ble_eq_true rfl) ⟨by decide, by decide⟩ ⟨by decide, by decide⟩ ⟨by decide, by decide⟩ (mv_noH hno _) (fun σ58 h58 => ?_)
    subst h58
    refine mv_lpick [0, 1, 2] rfl ?_
    exact jn61 _ _ _ hf
  have jn50 : ∀ (x1 : Nat) (x2 : Nat) (h : xE), g_Exprs_join_50 x1 x2 h = some (rv, rg) → mv_V p l e ({ frames := 3, cells := 0, slots := 0, locals := 63 }) s m ([.ref (al 22), .int (nI a0)] : List Value).toArray below meth c (mg dA D al me) 5 0 0 (mv_Q (mg dA D al me) below s 0 0 (mv_Ri (fun v σ1 => v = nI rv ∧ σ1 = ab b rg))) (ab b h) 50 [(0, .ref (al 22)), (1, .int (nI x1)), (2, .int (nI x2))] [.ref (al 22)] := by
    intro x1 x2 h hf
    unfold g_Exprs_join_50 at hf
    refine mv_iconst (pc := 50) (v := nI 0) B d_Exprs_join_50 (by decide) ?_
    refine mv_goto (pc := 51) (tgt := 58) B d_Exprs_join_51 rfl ?_
    refine mv_lpick [0, 1, 2] rfl ?_
    exact jn58 _ _ _ _ hf
  unfold g_Exprs_join at hf
  refine mv_aload_n (pc := 0) B d_Exprs_join_0 rfl 0 rfl ?_
  refine mv_getI (pc := 1) (ci := 6) (C := R_Exprs) (T := F_Exprs) (N := 11) B 8 rfl rfl (by decide) i_Exprs (B.2.2.2.1 _ k_202) rfl d_Exprs_join_1 ?_
  obtain ⟨v19, ev19, hf⟩ := xer_e hf
  refine mvn_top (xfi_22_8 ev19) ?_
  refine mv_iconst (pc := 4) (v := nI 1) B d_Exprs_join_4 (by decide) ?_
  refine mvn_isub (pc := 5) B d_Exprs_join_5 ?_
  refine mv_istore_n (pc := 6) B d_Exprs_join_6 rfl (by decide) rfl ?_
  refine mv_aload_n (pc := 7) B d_Exprs_join_7 rfl 1 rfl ?_
  refine mv_getR (pc := 8) (ci := 6) (C := R_Exprs) (T := F_Exprs) (N := 11) B 6 rfl rfl (by decide) i_Exprs (B.2.2.2.1 _ k_200) rfl (hb.1.1 22 6 _ rfl) d_Exprs_join_8 ?_
  refine mv_iload_n (pc := 11) B d_Exprs_join_11 rfl 0 rfl ?_
  obtain ⟨q20, hf⟩ := xix_e hf
  refine mv_iald (pc := 12) B rfl (xin q20 (by decide)) d_Exprs_join_12 ?_
  obtain ⟨v21, ev21, hf⟩ := xer_e hf
  refine mvn_top (xfa_25 q20 ev21) ?_
  refine mv_if_le (pc := 13) (tgt := 61) B d_Exprs_join_13 rfl (fun h13 => ?_) (fun h13 => ?_)
  · skip
    have hf := x_le_t (y := 0) h13 hf
    refine mv_lpick [1, 2, 0] rfl ?_
    exact jn61 _ _ _ hf
  · skip
    have hf := x_le_f (y := 0) h13 hf
    refine mv_aload_n (pc := 16) B d_Exprs_join_16 rfl 1 rfl ?_
    obtain ⟨v23, h22, eh22, hf⟩ := xeb_e hf
    refine mv_callVi (pc := 17) (n := 0) (ci := 6) (C := R_Exprs) B (mK_ok sk sv) hNs rfl rfl (cx_Exprs_release l hi _ hb _ eh22) rfl (ma_goodc kc_Exprs_release) (B.2.2.2.1 _ k_1469) (B.2.2.2.1 _ k_1470) (B.2.2.2.1 _ k_1471) (B.2.2.2.1 _ k_7) ⟨by decide +kernel, by decide +kernel, by decide +kernel⟩ rfl d_Exprs_join_17 rfl (Nat.le_of_ble_eq_true rfl) ⟨by decide, by decide⟩ ⟨by decide, by decide⟩ ⟨by decide, by decide⟩ (mv_noH hno _) (fun w17 σ17 h17 => ?_)
    obtain ⟨rfl, rfl⟩ := h17
    refine mv_istore_n (pc := 20) B d_Exprs_join_20 rfl (by decide) rfl ?_
    refine mv_aload_n (pc := 21) B d_Exprs_join_21 rfl 2 rfl ?_
    obtain ⟨v25, h24, eh24, hf⟩ := xeb_e hf
    refine mv_callVi (pc := 22) (n := 0) (ci := 6) (C := R_Exprs) B (mK_ok sk sv) hNs rfl rfl (cx_Exprs_release l hi _ hb _ eh24) rfl (ma_goodc kc_Exprs_release) (B.2.2.2.1 _ k_1469) (B.2.2.2.1 _ k_1470) (B.2.2.2.1 _ k_1471) (B.2.2.2.1 _ k_7) ⟨by decide +kernel, by decide +kernel, by decide +kernel⟩ rfl d_Exprs_join_22 rfl (Nat.le_of_ble_eq_true rfl) ⟨by decide, by decide⟩ ⟨by decide, by decide⟩ ⟨by decide, by decide⟩ (mv_noH hno _) (fun w22 σ22 h22 => ?_)
    obtain ⟨rfl, rfl⟩ := h22
    refine mv_istore (pc := 25) B d_Exprs_join_25 (by decide) rfl ?_
    refine mv_aload_n (pc := 27) B d_Exprs_join_27 rfl 3 rfl ?_
    refine mv_getR (pc := 28) (ci := 6) (C := R_Exprs) (T := F_Exprs) (N := 11) B 3 rfl rfl (by decide) i_Exprs (B.2.2.2.1 _ k_197) rfl hb.1.2.2.2 d_Exprs_join_28 ?_
    refine mv_sipush (pc := 31) (v := nI 309) B d_Exprs_join_31 (by decide) ?_
    refine mv_iload_n (pc := 34) B d_Exprs_join_34 rfl 1 rfl ?_
    refine mvn_i2l (pc := 35) B d_Exprs_join_35 ?_
    obtain ⟨v27, h26, eh26, hf⟩ := xeb_e hf
    refine mv_callVi (pc := 36) (n := 2) (ci := 7) (C := R_Program) B (mK_ok sk sv) hNs rfl rfl (cx_Program_emit l hi _ hb _ _ _ eh26) rfl (ma_goodc kc_Program_emit) (B.2.2.2.1 _ k_1425) (B.2.2.2.1 _ k_1385) (B.2.2.2.1 _ k_1386) (B.2.2.2.1 _ k_8) ⟨by decide +kernel, by decide +kernel, by decide +kernel⟩ rfl d_Exprs_join_36 rfl (Nat.le_of_ble_eq_true rfl) ⟨by decide, by decide⟩ ⟨by decide, by decide⟩ ⟨by decide, by decide⟩ (mv_noH hno _) (fun w36 σ36 h36 => ?_)
    obtain ⟨rfl, rfl⟩ := h36
    refine mv_pop (pc := 39) B d_Exprs_join_39 rfl ?_
    refine mv_aload_n (pc := 40) B d_Exprs_join_40 rfl 3 rfl ?_
    refine mv_iload (pc := 41) B d_Exprs_join_41 0 rfl ?_
    refine mv_if_eq (pc := 43) (tgt := 50) B d_Exprs_join_43 rfl (fun h43 => ?_) (fun h43 => ?_)
    · skip
      have hf := x_eq_t (y := 0) h43 hf
      refine mv_lpick [3, 4, 2] rfl ?_
      exact jn50 _ _ _ hf
    · skip
      have hf := x_eq_f (y := 0) h43 hf
      refine mv_iload_n (pc := 46) B d_Exprs_join_46 rfl 1 rfl ?_
      refine mv_if_ne (pc := 47) (tgt := 54) B d_Exprs_join_47 rfl (fun h47 => ?_) (fun h47 => ?_)
      · skip
        have hf := x_eq_f (y := 0) h47 hf
        refine mv_iload (pc := 54) B d_Exprs_join_54 0 rfl ?_
        refine mv_iload_n (pc := 56) B d_Exprs_join_56 rfl 1 rfl ?_
        refine mvn_iadd (pc := 57) B d_Exprs_join_57 ?_
        refine mv_lpick [3, 4, 2] rfl ?_
        exact jn58 _ _ _ _ hf
      · skip
        have hf := x_eq_t (y := 0) h47 hf
        refine mv_lpick [3, 4, 2] rfl ?_
        exact jn50 _ _ _ hf
def g_Exprs_cell_66 (y0 : Nat) (h : xE) : Option xE := xev (g_Exprs_hold h y0) fun h1 => some h1
def g_Exprs_cell (h : xE) : Option xE := xeb (g_Tokens_close h 93) fun v3 h2 => xer (ep_g h2.1 17) fun v4 => xwi h2 17 (xsub v4 1) fun h5 => xer (ep_g h5.1 17) fun v6 => bif Nat.blt v6 1024 then xer (ep_g (xL_25 h5.2) v6) fun v8 => xeb (g_Program_emit h5 304 (xi2l v8)) fun v10 h9 => xeb (g_Exprs_release h9) fun v12 h11 => bif xeq v12 0 then (g_Exprs_cell_66 0 h11) else (bif Nat.blt v8 64 then xer (ep_g (xL_146 h11.2) v8) fun v14 => g_Exprs_cell_66 v14 h11 else none) else none
set_option maxHeartbeats 4000000 in
set_option maxRecDepth 100000 in
theorem cx_Exprs_cell (l : Launch) {dA : FieldType → ClassId} {D : va_G} {al : Nat → Nat} {sk sv : Nat → Nat} (hi : mv_inj (mg dA D al me)) (b : mv_H) (hb : xR (mv_r b)) (h : xE) {rg : xE} (hf : g_Exprs_cell h = some rg) : mv_C l y_Exprs_cell (Cond.code y_Exprs_cell b_Exprs_cell 3 (Option.none : Option Jvm.ClassFile.FieldType) :: ma) ({ frames := 3, cells := 0, slots := 0, locals := 63 }) (mg dA D al me) (mK sk sv) [.ref (al 22)] (ab b h) (mv_Rv (fun σ1 => σ1 = ab b rg)) := by
  refine mv_C.ofV (cc := b_Exprs_cell) (nL := 3) (ret := (Option.none : Option Jvm.ClassFile.FieldType)) (by decide +kernel) rfl hi (Nat.le_of_ble_eq_true rfl) ?_
  intro p e s m below meth c B hNs hr hnm hno
  have jn66 : ∀ (y0 : Nat) (h : xE), g_Exprs_cell_66 y0 h = some rg → mv_V p l e ({ frames := 3, cells := 0, slots := 0, locals := 63 }) s m ([.ref (al 22)] : List Value).toArray below meth c (mg dA D al me) 3 0 0 (mv_Q (mg dA D al me) below s 0 0 (mv_Rv (fun σ1 => σ1 = ab b rg))) (ab b h) 66 [] [.int (nI y0), .ref (al 22)] := by
    intro y0 h hf
    unfold g_Exprs_cell_66 at hf
    obtain ⟨h1, eh1, hf⟩ := xev_e hf
    refine mv_callVv (pc := 66) (n := 1) (ci := 6) (C := R_Exprs) B (mK_ok sk sv) hNs rfl rfl (cx_Exprs_hold l hi _ hb _ _ eh1) rfl (ma_goodc kc_Exprs_hold) (B.2.2.2.1 _ k_1432) (B.2.2.2.1 _ k_1434) (B.2.2.2.1 _ ks_51) (B.2.2.2.1 _ k_7) ⟨by decide +kernel, by decide +kernel, by decide +kernel⟩ rfl d_Exprs_cell_66 rfl (Nat.le_of_ble_eq_true rfl) ⟨by decide, by decide⟩ ⟨by decide, by decide⟩ ⟨by decide, by decide⟩ (mv_noH hno _) (fun σ66 h66 => ?_)
    subst h66
    exact mv_vret (pc := 69) B hr d_Exprs_cell_69 (Nat.le_refl _) (Nat.le_refl _) ⟨rfl, xret_v hf⟩
  unfold g_Exprs_cell at hf
  refine mv_aload_n (pc := 0) B d_Exprs_cell_0 rfl 0 rfl ?_
  refine mv_getR (pc := 1) (ci := 6) (C := R_Exprs) (T := F_Exprs) (N := 11) B 0 rfl rfl (by decide) i_Exprs (B.2.2.2.1 _ k_193) rfl (hb.1.1 22 0 _ rfl) d_Exprs_cell_1 ?_
  refine mv_bipush (pc := 4) (v := nI 93) B d_Exprs_cell_4 (by decide) ?_
  obtain ⟨v3, h2, eh2, hf⟩ := xeb_e hf
  refine mv_callVi (pc := 6) (n := 1) (ci := 2) (C := R_Tokens) B (mK_ok sk sv) hNs rfl rfl (cx_Tokens_close l hi _ hb _ _ eh2) rfl (ma_goodc kc_Tokens_close) (B.2.2.2.1 _ k_1468) (B.2.2.2.1 _ k_1397) (B.2.2.2.1 _ k_1398) (B.2.2.2.1 _ k_3) ⟨by decide +kernel, by decide +kernel, by decide +kernel⟩ rfl d_Exprs_cell_6 rfl (Nat.le_of_ble_eq_true rfl) ⟨by decide, by decide⟩ ⟨by decide, by decide⟩ ⟨by decide, by decide⟩ (mv_noH hno _) (fun w6 σ6 h6 => ?_)
  obtain ⟨rfl, rfl⟩ := h6
  refine mv_pop (pc := 9) B d_Exprs_cell_9 rfl ?_
  refine mv_aload_n (pc := 10) B d_Exprs_cell_10 rfl 0 rfl ?_
  refine mv_dup (pc := 11) B d_Exprs_cell_11 rfl ?_
  refine mv_getI (pc := 12) (ci := 6) (C := R_Exprs) (T := F_Exprs) (N := 11) B 8 rfl rfl (by decide) i_Exprs (B.2.2.2.1 _ k_202) rfl d_Exprs_cell_12 ?_
  obtain ⟨v4, ev4, hf⟩ := xer_e hf
  refine mvn_top (xfi_22_8 ev4) ?_
  refine mv_iconst (pc := 15) (v := nI 1) B d_Exprs_cell_15 (by decide) ?_
  refine mvn_isub (pc := 16) B d_Exprs_cell_16 ?_
  refine mv_putI (pc := 17) (ci := 6) (C := R_Exprs) (T := F_Exprs) (N := 11) B 8 rfl rfl (by decide) i_Exprs t_Exprs_ok n_Exprs (B.2.2.2.1 _ k_202) rfl rfl rfl rfl d_Exprs_cell_17 ?_
  refine mvn_hp (xwi_22_8 _ _ _) (xwi_f hf) (fun h5 hf => ?_)
  refine mv_aload_n (pc := 20) B d_Exprs_cell_20 rfl 0 rfl ?_
  refine mv_getR (pc := 21) (ci := 6) (C := R_Exprs) (T := F_Exprs) (N := 11) B 6 rfl rfl (by decide) i_Exprs (B.2.2.2.1 _ k_200) rfl (hb.1.1 22 6 _ rfl) d_Exprs_cell_21 ?_
  refine mv_aload_n (pc := 24) B d_Exprs_cell_24 rfl 0 rfl ?_
  refine mv_getI (pc := 25) (ci := 6) (C := R_Exprs) (T := F_Exprs) (N := 11) B 8 rfl rfl (by decide) i_Exprs (B.2.2.2.1 _ k_202) rfl d_Exprs_cell_25 ?_
  obtain ⟨v6, ev6, hf⟩ := xer_e hf
  refine mvn_top (xfi_22_8 ev6) ?_
  obtain ⟨q7, hf⟩ := xix_e hf
  refine mv_iald (pc := 28) B rfl (xin q7 (by decide)) d_Exprs_cell_28 ?_
  obtain ⟨v8, ev8, hf⟩ := xer_e hf
  refine mvn_top (xfa_25 q7 ev8) ?_
  refine mv_istore_n (pc := 29) B d_Exprs_cell_29 rfl (by decide) rfl ?_
  refine mv_aload_n (pc := 30) B d_Exprs_cell_30 rfl 1 rfl ?_
  refine mv_getR (pc := 31) (ci := 6) (C := R_Exprs) (T := F_Exprs) (N := 11) B 3 rfl rfl (by decide) i_Exprs (B.2.2.2.1 _ k_197) rfl hb.1.2.2.2 d_Exprs_cell_31 ?_
  refine mv_sipush (pc := 34) (v := nI 304) B d_Exprs_cell_34 (by decide) ?_
  refine mv_iload_n (pc := 37) B d_Exprs_cell_37 rfl 0 rfl ?_
  refine mvn_i2l (pc := 38) B d_Exprs_cell_38 ?_
  obtain ⟨v10, h9, eh9, hf⟩ := xeb_e hf
  refine mv_callVi (pc := 39) (n := 2) (ci := 7) (C := R_Program) B (mK_ok sk sv) hNs rfl rfl (cx_Program_emit l hi _ hb _ _ _ eh9) rfl (ma_goodc kc_Program_emit) (B.2.2.2.1 _ k_1425) (B.2.2.2.1 _ k_1385) (B.2.2.2.1 _ k_1386) (B.2.2.2.1 _ k_8) ⟨by decide +kernel, by decide +kernel, by decide +kernel⟩ rfl d_Exprs_cell_39 rfl (Nat.le_of_ble_eq_true rfl) ⟨by decide, by decide⟩ ⟨by decide, by decide⟩ ⟨by decide, by decide⟩ (mv_noH hno _) (fun w39 σ39 h39 => ?_)
  obtain ⟨rfl, rfl⟩ := h39
  refine mv_pop (pc := 42) B d_Exprs_cell_42 rfl ?_
  refine mv_aload_n (pc := 43) B d_Exprs_cell_43 rfl 1 rfl ?_
  obtain ⟨v12, h11, eh11, hf⟩ := xeb_e hf
  refine mv_callVi (pc := 44) (n := 0) (ci := 6) (C := R_Exprs) B (mK_ok sk sv) hNs rfl rfl (cx_Exprs_release l hi _ hb _ eh11) rfl (ma_goodc kc_Exprs_release) (B.2.2.2.1 _ k_1469) (B.2.2.2.1 _ k_1470) (B.2.2.2.1 _ k_1471) (B.2.2.2.1 _ k_7) ⟨by decide +kernel, by decide +kernel, by decide +kernel⟩ rfl d_Exprs_cell_44 rfl (Nat.le_of_ble_eq_true rfl) ⟨by decide, by decide⟩ ⟨by decide, by decide⟩ ⟨by decide, by decide⟩ (mv_noH hno _) (fun w44 σ44 h44 => ?_)
  obtain ⟨rfl, rfl⟩ := h44
  refine mv_istore_n (pc := 47) B d_Exprs_cell_47 rfl (by decide) rfl ?_
  refine mv_aload_n (pc := 48) B d_Exprs_cell_48 rfl 2 rfl ?_
  refine mv_iload_n (pc := 49) B d_Exprs_cell_49 rfl 0 rfl ?_
  refine mv_if_ne (pc := 50) (tgt := 57) B d_Exprs_cell_50 rfl (fun h50 => ?_) (fun h50 => ?_)
  · skip
    have hf := x_eq_f (y := 0) h50 hf
    refine mv_aload_n (pc := 57) B d_Exprs_cell_57 rfl 2 rfl ?_
    refine mv_getR (pc := 58) (ci := 6) (C := R_Exprs) (T := F_Exprs) (N := 11) B 3 rfl rfl (by decide) i_Exprs (B.2.2.2.1 _ k_197) rfl hb.1.2.2.2 d_Exprs_cell_58 ?_
    refine mv_getR (pc := 61) (ci := 7) (C := R_Program) (T := F_Program) (N := 19) B 2 rfl rfl (by decide) i_Program (B.2.2.2.1 _ k_320) rfl (hb.1.2.1 145 2 146 rfl) d_Exprs_cell_61 ?_
    refine mv_iload_n (pc := 64) B d_Exprs_cell_64 rfl 1 rfl ?_
    obtain ⟨q13, hf⟩ := xix_e hf
    refine mv_iald (pc := 65) B rfl (xin q13 (by decide)) d_Exprs_cell_65 ?_
    obtain ⟨v14, ev14, hf⟩ := xer_e hf
    refine mvn_top (xfa_146 q13 ev14) ?_
    refine mv_lpick [] rfl ?_
    exact jn66 _ _ hf
  · skip
    have hf := x_eq_t (y := 0) h50 hf
    refine mv_iconst (pc := 53) (v := nI 0) B d_Exprs_cell_53 (by decide) ?_
    refine mv_goto (pc := 54) (tgt := 66) B d_Exprs_cell_54 rfl ?_
    refine mv_lpick [] rfl ?_
    exact jn66 _ _ hf
def g_Exprs_widen_140 (y0 : Nat) (h : xE) : Option xE := xev (g_Exprs_hold h y0) fun h1 => some h1
def g_Exprs_widen_133 (h : xE) : Option xE := g_Exprs_widen_140 0 h
def g_Exprs_widen_123 (x3 : Nat) (x4 : Nat) (x6 : Nat) (h : xE) : Option xE := bif xeq x6 0 then (bif xeq x3 0 then (g_Exprs_widen_133  h) else (g_Exprs_widen_140 (x4 % 4294967296) h)) else (g_Exprs_widen_133  h)
def g_Exprs_widen_97 (x1 : Nat) (x3 : Nat) (x4 : Nat) (x6 : Nat) (h : xE) : Option xE := bif xeq x1 211 then (xeb (g_Program_emit h 310 (Nat.lor (xi2l x3) (yshl x4 8))) fun v3 h2 => g_Exprs_widen_123 x3 x4 x6 h2) else (g_Exprs_widen_123 x3 x4 x6 h)
def g_Exprs_widen_84 (x1 : Nat) (x2 : Nat) (x3 : Nat) (x4 : Nat) (y0 : Nat) (h : xE) : Option xE := bif xeq y0 0 then (g_Exprs_widen_97 x1 x3 x4 y0 h) else (xev (g_Exprs_tell h x2 3) fun h4 => g_Exprs_widen_97 x1 x3 x4 y0 h4)
def g_Exprs_widen_79 (x1 : Nat) (x2 : Nat) (x3 : Nat) (x4 : Nat) (h : xE) : Option xE := g_Exprs_widen_84 x1 x2 x3 x4 1 h
def g_Exprs_widen (h : xE) (a0 : Nat) : Option xE := xeb (g_Tokens_take h 44) fun v6 h5 => xeb (g_Tokens_take h5 4) fun v8 h7 => xeb (g_Tokens_close h7 41) fun v10 h9 => xer (ep_g h9.1 17) fun v11 => xwi h9 17 (xsub v11 1) fun h12 => xeb (g_Exprs_release h12) fun v14 h13 => bif Nat.blt v8 32770 then xer (ep_g (xL_6 h13.2) v8) fun v16 => bif xlt (ycmp v16 1) 0 then (g_Exprs_widen_79 a0 v8 v14 v16 h13) else (bif xlt (ycmp v16 (xi2l v14)) 0 then (g_Exprs_widen_79 a0 v8 v14 v16 h13) else (bif xlt 0 (ycmp v16 64) then (g_Exprs_widen_79 a0 v8 v14 v16 h13) else (g_Exprs_widen_84 a0 v8 v14 v16 0 h13))) else none
set_option maxHeartbeats 4000000 in
set_option maxRecDepth 100000 in
theorem cx_Exprs_widen (l : Launch) {dA : FieldType → ClassId} {D : va_G} {al : Nat → Nat} {sk sv : Nat → Nat} (hi : mv_inj (mg dA D al me)) (b : mv_H) (hb : xR (mv_r b)) (h : xE) (a0 : Nat) {rg : xE} (hf : g_Exprs_widen h a0 = some rg) : mv_C l y_Exprs_widen (Cond.code y_Exprs_widen b_Exprs_widen 7 (Option.none : Option Jvm.ClassFile.FieldType) :: ma) ({ frames := 3, cells := 0, slots := 0, locals := 63 }) (mg dA D al me) (mK sk sv) [.ref (al 22), .int (nI a0)] (ab b h) (mv_Rv (fun σ1 => σ1 = ab b rg)) := by
  refine mv_C.ofV (cc := b_Exprs_widen) (nL := 7) (ret := (Option.none : Option Jvm.ClassFile.FieldType)) (by decide +kernel) rfl hi (Nat.le_of_ble_eq_true rfl) ?_
  intro p e s m below meth c B hNs hr hnm hno
  have jn140 : ∀ (y0 : Nat) (h : xE), g_Exprs_widen_140 y0 h = some rg → mv_V p l e ({ frames := 3, cells := 0, slots := 0, locals := 63 }) s m ([.ref (al 22), .int (nI a0)] : List Value).toArray below meth c (mg dA D al me) 7 0 0 (mv_Q (mg dA D al me) below s 0 0 (mv_Rv (fun σ1 => σ1 = ab b rg))) (ab b h) 140 [] [.int (nI y0), .ref (al 22)] := by
    intro y0 h hf
    unfold g_Exprs_widen_140 at hf
    obtain ⟨h1, eh1, hf⟩ := xev_e hf
    refine mv_callVv (pc := 140) (n := 1) (ci := 6) (C := R_Exprs) B (mK_ok sk sv) hNs rfl rfl (cx_Exprs_hold l hi _ hb _ _ eh1) rfl (ma_goodc kc_Exprs_hold) (B.2.2.2.1 _ k_1432) (B.2.2.2.1 _ k_1434) (B.2.2.2.1 _ ks_51) (B.2.2.2.1 _ k_7) ⟨by decide +kernel, by decide +kernel, by decide +kernel⟩ rfl d_Exprs_widen_140 rfl (Nat.le_of_ble_eq_true rfl) ⟨by decide, by decide⟩ ⟨by decide, by decide⟩ ⟨by decide, by decide⟩ (mv_noH hno _) (fun σ140 h140 => ?_)
    subst h140
    exact mv_vret (pc := 143) B hr d_Exprs_widen_143 (Nat.le_refl _) (Nat.le_refl _) ⟨rfl, xret_v hf⟩
  have jn133 : ∀ (h : xE), g_Exprs_widen_133  h = some rg → mv_V p l e ({ frames := 3, cells := 0, slots := 0, locals := 63 }) s m ([.ref (al 22), .int (nI a0)] : List Value).toArray below meth c (mg dA D al me) 7 0 0 (mv_Q (mg dA D al me) below s 0 0 (mv_Rv (fun σ1 => σ1 = ab b rg))) (ab b h) 133 [] [.ref (al 22)] := by
    intro  h hf
    unfold g_Exprs_widen_133 at hf
    refine mv_iconst (pc := 133) (v := nI 0) B d_Exprs_widen_133 (by decide) ?_
    refine mv_goto (pc := 134) (tgt := 140) B d_Exprs_widen_134 rfl ?_
    refine mv_lpick [] rfl ?_
    exact jn140 _ _ hf
  have jn123 : ∀ (x3 : Nat) (x4 : Nat) (x6 : Nat) (h : xE), g_Exprs_widen_123 x3 x4 x6 h = some rg → mv_V p l e ({ frames := 3, cells := 0, slots := 0, locals := 63 }) s m ([.ref (al 22), .int (nI a0)] : List Value).toArray below meth c (mg dA D al me) 7 0 0 (mv_Q (mg dA D al me) below s 0 0 (mv_Rv (fun σ1 => σ1 = ab b rg))) (ab b h) 123 [(0, .ref (al 22)), (3, .int (nI x3)), (4, .long (nJ x4)), (6, .int (nI x6))] [] := by
    intro x3 x4 x6 h hf
    unfold g_Exprs_widen_123 at hf
    refine mv_aload_n (pc := 123) B d_Exprs_widen_123 rfl 0 rfl ?_
    refine mv_iload (pc := 124) B d_Exprs_widen_124 3 rfl ?_
    refine mv_if_ne (pc := 126) (tgt := 133) B d_Exprs_widen_126 rfl (fun h126 => ?_) (fun h126 => ?_)
    · skip
      have hf := x_eq_f (y := 0) h126 hf
      refine mv_lpick [] rfl ?_
      exact jn133  _ hf
    · skip
      have hf := x_eq_t (y := 0) h126 hf
      refine mv_iload_n (pc := 129) B d_Exprs_widen_129 rfl 1 rfl ?_
      refine mv_if_ne (pc := 130) (tgt := 137) B d_Exprs_widen_130 rfl (fun h130 => ?_) (fun h130 => ?_)
      · skip
        have hf := x_eq_f (y := 0) h130 hf
        refine mv_lload (pc := 137) B d_Exprs_widen_137 2 rfl ?_
        refine mvn_l2i (pc := 139) B d_Exprs_widen_139 ?_
        refine mv_lpick [] rfl ?_
        exact jn140 _ _ hf
      · skip
        have hf := x_eq_t (y := 0) h130 hf
        refine mv_lpick [] rfl ?_
        exact jn133  _ hf
  have jn97 : ∀ (x1 : Nat) (x3 : Nat) (x4 : Nat) (x6 : Nat) (h : xE), g_Exprs_widen_97 x1 x3 x4 x6 h = some rg → mv_V p l e ({ frames := 3, cells := 0, slots := 0, locals := 63 }) s m ([.ref (al 22), .int (nI a0)] : List Value).toArray below meth c (mg dA D al me) 7 0 0 (mv_Q (mg dA D al me) below s 0 0 (mv_Rv (fun σ1 => σ1 = ab b rg))) (ab b h) 97 [(0, .ref (al 22)), (1, .int (nI x1)), (3, .int (nI x3)), (4, .long (nJ x4)), (6, .int (nI x6))] [] := by
    intro x1 x3 x4 x6 h hf
    unfold g_Exprs_widen_97 at hf
    refine mv_iload_n (pc := 97) B d_Exprs_widen_97 rfl 1 rfl ?_
    refine mv_sipush (pc := 98) (v := nI 211) B d_Exprs_widen_98 (by decide) ?_
    refine mv_icmp_ne (pc := 101) (tgt := 123) B d_Exprs_widen_101 rfl (fun h101 => ?_) (fun h101 => ?_)
    · skip
      have hf := x_eq_f h101 hf
      refine mv_lpick [0, 2, 3, 4] rfl ?_
      exact jn123 _ _ _ _ hf
    · skip
      have hf := x_eq_t h101 hf
      refine mv_aload_n (pc := 104) B d_Exprs_widen_104 rfl 0 rfl ?_
      refine mv_getR (pc := 105) (ci := 6) (C := R_Exprs) (T := F_Exprs) (N := 11) B 3 rfl rfl (by decide) i_Exprs (B.2.2.2.1 _ k_197) rfl hb.1.2.2.2 d_Exprs_widen_105 ?_
      refine mv_sipush (pc := 108) (v := nI 310) B d_Exprs_widen_108 (by decide) ?_
      refine mv_iload_n (pc := 111) B d_Exprs_widen_111 rfl 2 rfl ?_
      refine mvn_i2l (pc := 112) B d_Exprs_widen_112 ?_
      refine mv_lload (pc := 113) B d_Exprs_widen_113 3 rfl ?_
      refine mv_bipush (pc := 115) (v := nI 8) B d_Exprs_widen_115 (by decide) ?_
      refine mvn_lshl (pc := 117) B d_Exprs_widen_117 ?_
      refine mvn_lor (pc := 118) B d_Exprs_widen_118 ?_
      obtain ⟨v3, h2, eh2, hf⟩ := xeb_e hf
      refine mv_callVi (pc := 119) (n := 2) (ci := 7) (C := R_Program) B (mK_ok sk sv) hNs rfl rfl (cx_Program_emit l hi _ hb _ _ _ eh2) rfl (ma_goodc kc_Program_emit) (B.2.2.2.1 _ k_1425) (B.2.2.2.1 _ k_1385) (B.2.2.2.1 _ k_1386) (B.2.2.2.1 _ k_8) ⟨by decide +kernel, by decide +kernel, by decide +kernel⟩ rfl d_Exprs_widen_119 rfl (Nat.le_of_ble_eq_true rfl) ⟨by decide, by decide⟩ ⟨by decide, by decide⟩ ⟨by decide, by decide⟩ (mv_noH hno _) (fun w119 σ119 h119 => ?_)
      obtain ⟨rfl, rfl⟩ := h119
      refine mv_pop (pc := 122) B d_Exprs_widen_122 rfl ?_
      refine mv_lpick [0, 2, 3, 4] rfl ?_
      exact jn123 _ _ _ _ hf
  have jn84 : ∀ (x1 : Nat) (x2 : Nat) (x3 : Nat) (x4 : Nat) (y0 : Nat) (h : xE), g_Exprs_widen_84 x1 x2 x3 x4 y0 h = some rg → mv_V p l e ({ frames := 3, cells := 0, slots := 0, locals := 63 }) s m ([.ref (al 22), .int (nI a0)] : List Value).toArray below meth c (mg dA D al me) 7 0 0 (mv_Q (mg dA D al me) below s 0 0 (mv_Rv (fun σ1 => σ1 = ab b rg))) (ab b h) 84 [(0, .ref (al 22)), (1, .int (nI x1)), (2, .int (nI x2)), (3, .int (nI x3)), (4, .long (nJ x4))] [.int (nI y0)] := by
    intro x1 x2 x3 x4 y0 h hf
    unfold g_Exprs_widen_84 at hf
    refine mv_istore (pc := 84) B d_Exprs_widen_84 (by decide) rfl ?_
    refine mv_iload (pc := 86) B d_Exprs_widen_86 0 rfl ?_
    refine mv_if_eq (pc := 88) (tgt := 97) B d_Exprs_widen_88 rfl (fun h88 => ?_) (fun h88 => ?_)
    · skip
      have hf := x_eq_t (y := 0) h88 hf
      refine mv_lpick [1, 2, 4, 5, 0] rfl ?_
      exact jn97 _ _ _ _ _ hf
    · skip
      have hf := x_eq_f (y := 0) h88 hf
      refine mv_aload_n (pc := 91) B d_Exprs_widen_91 rfl 1 rfl ?_
      refine mv_iload_n (pc := 92) B d_Exprs_widen_92 rfl 3 rfl ?_
      refine mv_iconst (pc := 93) (v := nI 3) B d_Exprs_widen_93 (by decide) ?_
      obtain ⟨h4, eh4, hf⟩ := xev_e hf
      refine mv_callVv (pc := 94) (n := 2) (ci := 6) (C := R_Exprs) B (mK_ok sk sv) hNs rfl rfl (cx_Exprs_tell l hi _ hb _ _ _ eh4) rfl (ma_goodc kc_Exprs_tell) (B.2.2.2.1 _ k_1427) (B.2.2.2.1 _ k_1429) (B.2.2.2.1 _ ks_50) (B.2.2.2.1 _ k_7) ⟨by decide +kernel, by decide +kernel, by decide +kernel⟩ rfl d_Exprs_widen_94 rfl (Nat.le_of_ble_eq_true rfl) ⟨by decide, by decide⟩ ⟨by decide, by decide⟩ ⟨by decide, by decide⟩ (mv_noH hno _) (fun σ94 h94 => ?_)
      subst h94
      refine mv_lpick [1, 2, 4, 5, 0] rfl ?_
      exact jn97 _ _ _ _ _ hf
  have jn79 : ∀ (x1 : Nat) (x2 : Nat) (x3 : Nat) (x4 : Nat) (h : xE), g_Exprs_widen_79 x1 x2 x3 x4 h = some rg → mv_V p l e ({ frames := 3, cells := 0, slots := 0, locals := 63 }) s m ([.ref (al 22), .int (nI a0)] : List Value).toArray below meth c (mg dA D al me) 7 0 0 (mv_Q (mg dA D al me) below s 0 0 (mv_Rv (fun σ1 => σ1 = ab b rg))) (ab b h) 79 [(0, .ref (al 22)), (1, .int (nI x1)), (2, .int (nI x2)), (3, .int (nI x3)), (4, .long (nJ x4))] [] := by
    intro x1 x2 x3 x4 h hf
    unfold g_Exprs_widen_79 at hf
    refine mv_iconst (pc := 79) (v := nI 1) B d_Exprs_widen_79 (by decide) ?_
    refine mv_goto (pc := 80) (tgt := 84) B d_Exprs_widen_80 rfl ?_
    refine mv_lpick [0, 1, 2, 3, 4] rfl ?_
    exact jn84 _ _ _ _ _ _ hf
  unfold g_Exprs_widen at hf
  refine mv_aload_n (pc := 0) B d_Exprs_widen_0 rfl 0 rfl ?_
  refine mv_getR (pc := 1) (ci := 6) (C := R_Exprs) (T := F_Exprs) (N := 11) B 0 rfl rfl (by decide) i_Exprs (B.2.2.2.1 _ k_193) rfl (hb.1.1 22 0 _ rfl) d_Exprs_widen_1 ?_
  refine mv_bipush (pc := 4) (v := nI 44) B d_Exprs_widen_4 (by decide) ?_
  obtain ⟨v6, h5, eh5, hf⟩ := xeb_e hf
  refine mv_callVi (pc := 6) (n := 1) (ci := 2) (C := R_Tokens) B (mK_ok sk sv) hNs rfl rfl (cx_Tokens_take l hi _ hb _ _ eh5) rfl (ma_goodc kc_Tokens_take) (B.2.2.2.1 _ k_1424) (B.2.2.2.1 _ k_1267) (B.2.2.2.1 _ k_1268) (B.2.2.2.1 _ k_3) ⟨by decide +kernel, by decide +kernel, by decide +kernel⟩ rfl d_Exprs_widen_6 rfl (Nat.le_of_ble_eq_true rfl) ⟨by decide, by decide⟩ ⟨by decide, by decide⟩ ⟨by decide, by decide⟩ (mv_noH hno _) (fun w6 σ6 h6 => ?_)
  obtain ⟨rfl, rfl⟩ := h6
  refine mv_pop (pc := 9) B d_Exprs_widen_9 rfl ?_
  refine mv_aload_n (pc := 10) B d_Exprs_widen_10 rfl 0 rfl ?_
  refine mv_getR (pc := 11) (ci := 6) (C := R_Exprs) (T := F_Exprs) (N := 11) B 0 rfl rfl (by decide) i_Exprs (B.2.2.2.1 _ k_193) rfl (hb.1.1 22 0 _ rfl) d_Exprs_widen_11 ?_
  refine mv_iconst (pc := 14) (v := nI 4) B d_Exprs_widen_14 (by decide) ?_
  obtain ⟨v8, h7, eh7, hf⟩ := xeb_e hf
  refine mv_callVi (pc := 15) (n := 1) (ci := 2) (C := R_Tokens) B (mK_ok sk sv) hNs rfl rfl (cx_Tokens_take l hi _ hb _ _ eh7) rfl (ma_goodc kc_Tokens_take) (B.2.2.2.1 _ k_1424) (B.2.2.2.1 _ k_1267) (B.2.2.2.1 _ k_1268) (B.2.2.2.1 _ k_3) ⟨by decide +kernel, by decide +kernel, by decide +kernel⟩ rfl d_Exprs_widen_15 rfl (Nat.le_of_ble_eq_true rfl) ⟨by decide, by decide⟩ ⟨by decide, by decide⟩ ⟨by decide, by decide⟩ (mv_noH hno _) (fun w15 σ15 h15 => ?_)
  obtain ⟨rfl, rfl⟩ := h15
  refine mv_istore_n (pc := 18) B d_Exprs_widen_18 rfl (by decide) rfl ?_
  refine mv_aload_n (pc := 19) B d_Exprs_widen_19 rfl 1 rfl ?_
  refine mv_getR (pc := 20) (ci := 6) (C := R_Exprs) (T := F_Exprs) (N := 11) B 0 rfl rfl (by decide) i_Exprs (B.2.2.2.1 _ k_193) rfl (hb.1.1 22 0 _ rfl) d_Exprs_widen_20 ?_
  refine mv_bipush (pc := 23) (v := nI 41) B d_Exprs_widen_23 (by decide) ?_
  obtain ⟨v10, h9, eh9, hf⟩ := xeb_e hf
  refine mv_callVi (pc := 25) (n := 1) (ci := 2) (C := R_Tokens) B (mK_ok sk sv) hNs rfl rfl (cx_Tokens_close l hi _ hb _ _ eh9) rfl (ma_goodc kc_Tokens_close) (B.2.2.2.1 _ k_1468) (B.2.2.2.1 _ k_1397) (B.2.2.2.1 _ k_1398) (B.2.2.2.1 _ k_3) ⟨by decide +kernel, by decide +kernel, by decide +kernel⟩ rfl d_Exprs_widen_25 rfl (Nat.le_of_ble_eq_true rfl) ⟨by decide, by decide⟩ ⟨by decide, by decide⟩ ⟨by decide, by decide⟩ (mv_noH hno _) (fun w25 σ25 h25 => ?_)
  obtain ⟨rfl, rfl⟩ := h25
  refine mv_pop (pc := 28) B d_Exprs_widen_28 rfl ?_
  refine mv_aload_n (pc := 29) B d_Exprs_widen_29 rfl 1 rfl ?_
  refine mv_dup (pc := 30) B d_Exprs_widen_30 rfl ?_
  refine mv_getI (pc := 31) (ci := 6) (C := R_Exprs) (T := F_Exprs) (N := 11) B 8 rfl rfl (by decide) i_Exprs (B.2.2.2.1 _ k_202) rfl d_Exprs_widen_31 ?_
  obtain ⟨v11, ev11, hf⟩ := xer_e hf
  refine mvn_top (xfi_22_8 ev11) ?_
  refine mv_iconst (pc := 34) (v := nI 1) B d_Exprs_widen_34 (by decide) ?_
  refine mvn_isub (pc := 35) B d_Exprs_widen_35 ?_
  refine mv_putI (pc := 36) (ci := 6) (C := R_Exprs) (T := F_Exprs) (N := 11) B 8 rfl rfl (by decide) i_Exprs t_Exprs_ok n_Exprs (B.2.2.2.1 _ k_202) rfl rfl rfl rfl d_Exprs_widen_36 ?_
  refine mvn_hp (xwi_22_8 _ _ _) (xwi_f hf) (fun h12 hf => ?_)
  refine mv_aload_n (pc := 39) B d_Exprs_widen_39 rfl 1 rfl ?_
  obtain ⟨v14, h13, eh13, hf⟩ := xeb_e hf
  refine mv_callVi (pc := 40) (n := 0) (ci := 6) (C := R_Exprs) B (mK_ok sk sv) hNs rfl rfl (cx_Exprs_release l hi _ hb _ eh13) rfl (ma_goodc kc_Exprs_release) (B.2.2.2.1 _ k_1469) (B.2.2.2.1 _ k_1470) (B.2.2.2.1 _ k_1471) (B.2.2.2.1 _ k_7) ⟨by decide +kernel, by decide +kernel, by decide +kernel⟩ rfl d_Exprs_widen_40 rfl (Nat.le_of_ble_eq_true rfl) ⟨by decide, by decide⟩ ⟨by decide, by decide⟩ ⟨by decide, by decide⟩ (mv_noH hno _) (fun w40 σ40 h40 => ?_)
  obtain ⟨rfl, rfl⟩ := h40
  refine mv_istore_n (pc := 43) B d_Exprs_widen_43 rfl (by decide) rfl ?_
  refine mv_aload_n (pc := 44) B d_Exprs_widen_44 rfl 2 rfl ?_
  refine mv_getR (pc := 45) (ci := 6) (C := R_Exprs) (T := F_Exprs) (N := 11) B 0 rfl rfl (by decide) i_Exprs (B.2.2.2.1 _ k_193) rfl (hb.1.1 22 0 _ rfl) d_Exprs_widen_45 ?_
  refine mv_getR (pc := 48) (ci := 2) (C := R_Tokens) (T := F_Tokens) (N := 10) B 2 rfl rfl (by decide) i_Tokens (B.2.2.2.1 _ k_95) rfl (hb.1.1 3 2 _ rfl) d_Exprs_widen_48 ?_
  refine mv_iload_n (pc := 51) B d_Exprs_widen_51 rfl 1 rfl ?_
  obtain ⟨q15, hf⟩ := xix_e hf
  refine mv_lald (pc := 52) B rfl (xin q15 (by decide)) d_Exprs_widen_52 ?_
  obtain ⟨v16, ev16, hf⟩ := xer_e hf
  refine mvn_topl (xfb_6 q15 ev16) ?_
  refine mv_lstore (pc := 53) B d_Exprs_widen_53 (by decide) rfl ?_
  refine mv_lload (pc := 55) B d_Exprs_widen_55 0 rfl ?_
  refine mv_lconst (pc := 57) (v := nJ 1) B d_Exprs_widen_57 (by decide) ?_
  refine mvn_lcmp (pc := 58) B d_Exprs_widen_58 ?_
  refine mv_if_lt (pc := 59) (tgt := 79) B d_Exprs_widen_59 rfl (fun h59 => ?_) (fun h59 => ?_)
  · skip
    have hf := x_lt_t (y := 0) h59 hf
    refine mv_lpick [3, 4, 2, 1, 0] rfl ?_
    exact jn79 _ _ _ _ _ hf
  · skip
    have hf := x_lt_f (y := 0) h59 hf
    refine mv_lload (pc := 62) B d_Exprs_widen_62 0 rfl ?_
    refine mv_iload_n (pc := 64) B d_Exprs_widen_64 rfl 1 rfl ?_
    refine mvn_i2l (pc := 65) B d_Exprs_widen_65 ?_
    refine mvn_lcmp (pc := 66) B d_Exprs_widen_66 ?_
    refine mv_if_lt (pc := 67) (tgt := 79) B d_Exprs_widen_67 rfl (fun h67 => ?_) (fun h67 => ?_)
    · skip
      have hf := x_lt_t (y := 0) h67 hf
      refine mv_lpick [3, 4, 2, 1, 0] rfl ?_
      exact jn79 _ _ _ _ _ hf
    · skip
      have hf := x_lt_f (y := 0) h67 hf
      refine mv_lload (pc := 70) B d_Exprs_widen_70 0 rfl ?_
      refine mv_ldc2 (pc := 72) (v := 64) B (B.2.2.2.1 _ k_1426) d_Exprs_widen_72 ?_
      refine mvn_topl (n := 64) (by decide) ?_
      refine mvn_lcmp (pc := 75) B d_Exprs_widen_75 ?_
      refine mv_if_le (pc := 76) (tgt := 83) B d_Exprs_widen_76 rfl (fun h76 => ?_) (fun h76 => ?_)
      · skip
        have hf := x_le_t (y := 0) h76 hf
        refine mv_iconst (pc := 83) (v := nI 0) B d_Exprs_widen_83 (by decide) ?_
        refine mv_lpick [3, 4, 2, 1, 0] rfl ?_
        exact jn84 _ _ _ _ _ _ hf
      · skip
        have hf := x_le_f (y := 0) h76 hf
        refine mv_lpick [3, 4, 2, 1, 0] rfl ?_
        exact jn79 _ _ _ _ _ hf
def g_Exprs_goOn_272 (h : xE) : Option (Nat × xE) := some (1, h)
def g_Exprs_goOn_265 (h : xE) : Option (Nat × xE) := xev (g_Tokens_wrong h) fun h1 => g_Exprs_goOn_272  h1
def g_Exprs_goOn_204 (x1 : Nat) (x2 : Nat) (x3 : Nat) (h : xE) : Option (Nat × xE) := bif xlt x2 213 then (g_Exprs_goOn_265  h) else (bif xlt 216 x2 then (g_Exprs_goOn_265  h) else (bif xeq x1 41 then (bif xeq x3 0 then (xeb (g_Tokens_close h 41) fun v3 h2 => xer (ep_g h2.1 17) fun v4 => xwi h2 17 (xsub v4 1) fun h5 => xer (ep_g h5.1 17) fun v6 => bif Nat.blt v6 1024 then xer (ep_g (xL_24 h5.2) v6) fun v8 => xev (g_Exprs_ofTwo h5 x2 v8) fun h9 => g_Exprs_goOn_272  h9 else none) else (g_Exprs_goOn_265  h)) else (g_Exprs_goOn_265  h)))
def g_Exprs_goOn_156 (x1 : Nat) (x2 : Nat) (x3 : Nat) (h : xE) : Option (Nat × xE) := bif xlt x2 213 then (g_Exprs_goOn_204 x1 x2 x3 h) else (bif xlt 216 x2 then (g_Exprs_goOn_204 x1 x2 x3 h) else (bif xeq x1 44 then (bif xeq x3 0 then (g_Exprs_goOn_204 x1 x2 x3 h) else (xeb (g_Tokens_take h 44) fun v11 h10 => xer (ep_g h10.1 17) fun v12 => bif Nat.blt (xsub v12 1) 1024 then xw xL_25 xS_25 h10 (xsub v12 1) 1 fun h14 => some (0, h14) else none)) else (g_Exprs_goOn_204 x1 x2 x3 h)))
def g_Exprs_goOn_142 (x1 : Nat) (x2 : Nat) (x3 : Nat) (h : xE) : Option (Nat × xE) := bif xeq x1 44 then (xev (g_Exprs_widen h x2) fun h15 => g_Exprs_goOn_272  h15) else (g_Exprs_goOn_156 x1 x2 x3 h)
def g_Exprs_goOn_128 (x1 : Nat) (x2 : Nat) (x3 : Nat) (h : xE) : Option (Nat × xE) := bif xeq x2 211 then (g_Exprs_goOn_142 x1 x2 x3 h) else (bif xeq x2 212 then (g_Exprs_goOn_142 x1 x2 x3 h) else (g_Exprs_goOn_156 x1 x2 x3 h))
def g_Exprs_goOn_93 (x1 : Nat) (x2 : Nat) (x3 : Nat) (h : xE) : Option (Nat × xE) := bif xeq x2 40 then (bif xeq x1 41 then (xeb (g_Tokens_close h 41) fun v17 h16 => xer (ep_g h16.1 17) fun v18 => xwi h16 17 (xsub v18 1) fun h19 => g_Exprs_goOn_272  h19) else (g_Exprs_goOn_128 x1 x2 x3 h)) else (g_Exprs_goOn_128 x1 x2 x3 h)
def g_Exprs_goOn_74 (x1 : Nat) (x2 : Nat) (x3 : Nat) (h : xE) : Option (Nat × xE) := bif xeq x2 91 then (bif xeq x1 93 then (xev (g_Exprs_cell h) fun h20 => g_Exprs_goOn_272  h20) else (g_Exprs_goOn_93 x1 x2 x3 h)) else (g_Exprs_goOn_93 x1 x2 x3 h)
def g_Exprs_goOn_68 (x1 : Nat) (h : xE) : Option (Nat × xE) := xeb (g_Exprs_join h x1) fun v22 h21 => some (v22, h21)
def g_Exprs_goOn_50 (x1 : Nat) (x2 : Nat) (x3 : Nat) (h : xE) : Option (Nat × xE) := bif xeq x2 123 then (bif xeq x1 44 then (g_Exprs_goOn_68 x1 h) else (bif xeq x1 125 then (g_Exprs_goOn_68 x1 h) else (g_Exprs_goOn_74 x1 x2 x3 h))) else (g_Exprs_goOn_74 x1 x2 x3 h)
def g_Exprs_goOn_31 (x1 : Nat) (x2 : Nat) (y0 : Nat) (h : xE) : Option (Nat × xE) := bif xeq x2 63 then (bif xeq x1 58 then (xev (g_Exprs_otherwise h) fun h23 => some (0, h23)) else (g_Exprs_goOn_50 x1 x2 y0 h)) else (g_Exprs_goOn_50 x1 x2 y0 h)
def g_Exprs_goOn (h : xE) (a0 : Nat) : Option (Nat × xE) := xer (ep_g h.1 17) fun v24 => bif Nat.blt (xsub v24 1) 1024 then xer (ep_g (xL_23 h.2) (xsub v24 1)) fun v26 => xer (ep_g h.1 17) fun v27 => bif Nat.blt (xsub v27 1) 1024 then xer (ep_g (xL_25 h.2) (xsub v27 1)) fun v29 => bif xeq v29 0 then (g_Exprs_goOn_31 a0 v26 1 h) else (g_Exprs_goOn_31 a0 v26 0 h) else none else none
set_option maxHeartbeats 4000000 in
set_option maxRecDepth 100000 in
theorem cx_Exprs_goOn (l : Launch) {dA : FieldType → ClassId} {D : va_G} {al : Nat → Nat} {sk sv : Nat → Nat} (hi : mv_inj (mg dA D al me)) (b : mv_H) (hb : xR (mv_r b)) (h : xE) (a0 : Nat) {rv : Nat} {rg : xE} (hf : g_Exprs_goOn h a0 = some (rv, rg)) : mv_C l y_Exprs_goOn (Cond.code y_Exprs_goOn b_Exprs_goOn 4 (Option.some Jvm.ClassFile.FieldType.int) :: ma) ({ frames := 4, cells := 0, slots := 0, locals := 89 }) (mg dA D al me) (mK sk sv) [.ref (al 22), .int (nI a0)] (ab b h) (mv_Ri (fun v σ1 => v = nI rv ∧ σ1 = ab b rg)) := by
  refine mv_C.ofV (cc := b_Exprs_goOn) (nL := 4) (ret := (Option.some Jvm.ClassFile.FieldType.int)) (by decide +kernel) rfl hi (Nat.le_of_ble_eq_true rfl) ?_
  intro p e s m below meth c B hNs hr hnm hno
  have jn272 : ∀ (h : xE), g_Exprs_goOn_272  h = some (rv, rg) → mv_V p l e ({ frames := 4, cells := 0, slots := 0, locals := 89 }) s m ([.ref (al 22), .int (nI a0)] : List Value).toArray below meth c (mg dA D al me) 4 0 0 (mv_Q (mg dA D al me) below s 0 0 (mv_Ri (fun v σ1 => v = nI rv ∧ σ1 = ab b rg))) (ab b h) 272 [] [] := by
    intro  h hf
    unfold g_Exprs_goOn_272 at hf
    refine mv_iconst (pc := 272) (v := nI 1) B d_Exprs_goOn_272 (by decide) ?_
    exact mv_iret (pc := 273) B hr rfl d_Exprs_goOn_273 (Nat.le_refl _) (Nat.le_refl _) ⟨_, rfl, xret_i hf⟩
  have jn265 : ∀ (h : xE), g_Exprs_goOn_265  h = some (rv, rg) → mv_V p l e ({ frames := 4, cells := 0, slots := 0, locals := 89 }) s m ([.ref (al 22), .int (nI a0)] : List Value).toArray below meth c (mg dA D al me) 4 0 0 (mv_Q (mg dA D al me) below s 0 0 (mv_Ri (fun v σ1 => v = nI rv ∧ σ1 = ab b rg))) (ab b h) 265 [(0, .ref (al 22))] [] := by
    intro  h hf
    unfold g_Exprs_goOn_265 at hf
    refine mv_aload_n (pc := 265) B d_Exprs_goOn_265 rfl 0 rfl ?_
    refine mv_getR (pc := 266) (ci := 6) (C := R_Exprs) (T := F_Exprs) (N := 11) B 0 rfl rfl (by decide) i_Exprs (B.2.2.2.1 _ k_193) rfl (hb.1.1 22 0 _ rfl) d_Exprs_goOn_266 ?_
    obtain ⟨h1, eh1, hf⟩ := xev_e hf
    refine mv_callVv (pc := 269) (n := 0) (ci := 2) (C := R_Tokens) B (mK_ok sk sv) hNs rfl rfl (cx_Tokens_wrong l hi _ hb _ eh1) rfl (ma_goodc kc_Tokens_wrong) (B.2.2.2.1 _ k_1459) (B.2.2.2.1 _ k_1275) (B.2.2.2.1 _ k_1276) (B.2.2.2.1 _ k_3) ⟨by decide +kernel, by decide +kernel, by decide +kernel⟩ rfl d_Exprs_goOn_269 rfl (Nat.le_of_ble_eq_true rfl) ⟨by decide, by decide⟩ ⟨by decide, by decide⟩ ⟨by decide, by decide⟩ (mv_noH hno _) (fun σ269 h269 => ?_)
    subst h269
    refine mv_lpick [] rfl ?_
    exact jn272  _ hf
  have jn204 : ∀ (x1 : Nat) (x2 : Nat) (x3 : Nat) (h : xE), g_Exprs_goOn_204 x1 x2 x3 h = some (rv, rg) → mv_V p l e ({ frames := 4, cells := 0, slots := 0, locals := 89 }) s m ([.ref (al 22), .int (nI a0)] : List Value).toArray below meth c (mg dA D al me) 4 0 0 (mv_Q (mg dA D al me) below s 0 0 (mv_Ri (fun v σ1 => v = nI rv ∧ σ1 = ab b rg))) (ab b h) 204 [(0, .ref (al 22)), (1, .int (nI x1)), (2, .int (nI x2)), (3, .int (nI x3))] [] := by
    intro x1 x2 x3 h hf
    unfold g_Exprs_goOn_204 at hf
    refine mv_iload_n (pc := 204) B d_Exprs_goOn_204 rfl 2 rfl ?_
    refine mv_sipush (pc := 205) (v := nI 213) B d_Exprs_goOn_205 (by decide) ?_
    refine mv_icmp_lt (pc := 208) (tgt := 265) B d_Exprs_goOn_208 rfl (fun h208 => ?_) (fun h208 => ?_)
    · skip
      have hf := x_lt_t h208 hf
      refine mv_lpick [0] rfl ?_
      exact jn265  _ hf
    · skip
      have hf := x_lt_f h208 hf
      refine mv_iload_n (pc := 211) B d_Exprs_goOn_211 rfl 2 rfl ?_
      refine mv_sipush (pc := 212) (v := nI 216) B d_Exprs_goOn_212 (by decide) ?_
      refine mv_icmp_gt (pc := 215) (tgt := 265) B d_Exprs_goOn_215 rfl (fun h215 => ?_) (fun h215 => ?_)
      · skip
        have hf := x_lt_t h215 hf
        refine mv_lpick [0] rfl ?_
        exact jn265  _ hf
      · skip
        have hf := x_lt_f h215 hf
        refine mv_iload_n (pc := 218) B d_Exprs_goOn_218 rfl 1 rfl ?_
        refine mv_bipush (pc := 219) (v := nI 41) B d_Exprs_goOn_219 (by decide) ?_
        refine mv_icmp_ne (pc := 221) (tgt := 265) B d_Exprs_goOn_221 rfl (fun h221 => ?_) (fun h221 => ?_)
        · skip
          have hf := x_eq_f h221 hf
          refine mv_lpick [0] rfl ?_
          exact jn265  _ hf
        · skip
          have hf := x_eq_t h221 hf
          refine mv_iload_n (pc := 224) B d_Exprs_goOn_224 rfl 3 rfl ?_
          refine mv_if_ne (pc := 225) (tgt := 265) B d_Exprs_goOn_225 rfl (fun h225 => ?_) (fun h225 => ?_)
          · skip
            have hf := x_eq_f (y := 0) h225 hf
            refine mv_lpick [0] rfl ?_
            exact jn265  _ hf
          · skip
            have hf := x_eq_t (y := 0) h225 hf
            refine mv_aload_n (pc := 228) B d_Exprs_goOn_228 rfl 0 rfl ?_
            refine mv_getR (pc := 229) (ci := 6) (C := R_Exprs) (T := F_Exprs) (N := 11) B 0 rfl rfl (by decide) i_Exprs (B.2.2.2.1 _ k_193) rfl (hb.1.1 22 0 _ rfl) d_Exprs_goOn_229 ?_
            refine mv_bipush (pc := 232) (v := nI 41) B d_Exprs_goOn_232 (by decide) ?_
            obtain ⟨v3, h2, eh2, hf⟩ := xeb_e hf
            refine mv_callVi (pc := 234) (n := 1) (ci := 2) (C := R_Tokens) B (mK_ok sk sv) hNs rfl rfl (cx_Tokens_close l hi _ hb _ _ eh2) rfl (ma_goodc kc_Tokens_close) (B.2.2.2.1 _ k_1468) (B.2.2.2.1 _ k_1397) (B.2.2.2.1 _ k_1398) (B.2.2.2.1 _ k_3) ⟨by decide +kernel, by decide +kernel, by decide +kernel⟩ rfl d_Exprs_goOn_234 rfl (Nat.le_of_ble_eq_true rfl) ⟨by decide, by decide⟩ ⟨by decide, by decide⟩ ⟨by decide, by decide⟩ (mv_noH hno _) (fun w234 σ234 h234 => ?_)
            obtain ⟨rfl, rfl⟩ := h234
            refine mv_pop (pc := 237) B d_Exprs_goOn_237 rfl ?_
            refine mv_aload_n (pc := 238) B d_Exprs_goOn_238 rfl 0 rfl ?_
            refine mv_dup (pc := 239) B d_Exprs_goOn_239 rfl ?_
            refine mv_getI (pc := 240) (ci := 6) (C := R_Exprs) (T := F_Exprs) (N := 11) B 8 rfl rfl (by decide) i_Exprs (B.2.2.2.1 _ k_202) rfl d_Exprs_goOn_240 ?_
            obtain ⟨v4, ev4, hf⟩ := xer_e hf
            refine mvn_top (xfi_22_8 ev4) ?_
            refine mv_iconst (pc := 243) (v := nI 1) B d_Exprs_goOn_243 (by decide) ?_
            refine mvn_isub (pc := 244) B d_Exprs_goOn_244 ?_
            refine mv_putI (pc := 245) (ci := 6) (C := R_Exprs) (T := F_Exprs) (N := 11) B 8 rfl rfl (by decide) i_Exprs t_Exprs_ok n_Exprs (B.2.2.2.1 _ k_202) rfl rfl rfl rfl d_Exprs_goOn_245 ?_
            refine mvn_hp (xwi_22_8 _ _ _) (xwi_f hf) (fun h5 hf => ?_)
            refine mv_aload_n (pc := 248) B d_Exprs_goOn_248 rfl 0 rfl ?_
            refine mv_iload_n (pc := 249) B d_Exprs_goOn_249 rfl 2 rfl ?_
            refine mv_aload_n (pc := 250) B d_Exprs_goOn_250 rfl 0 rfl ?_
            refine mv_getR (pc := 251) (ci := 6) (C := R_Exprs) (T := F_Exprs) (N := 11) B 5 rfl rfl (by decide) i_Exprs (B.2.2.2.1 _ k_199) rfl (hb.1.1 22 5 _ rfl) d_Exprs_goOn_251 ?_
            refine mv_aload_n (pc := 254) B d_Exprs_goOn_254 rfl 0 rfl ?_
            refine mv_getI (pc := 255) (ci := 6) (C := R_Exprs) (T := F_Exprs) (N := 11) B 8 rfl rfl (by decide) i_Exprs (B.2.2.2.1 _ k_202) rfl d_Exprs_goOn_255 ?_
            obtain ⟨v6, ev6, hf⟩ := xer_e hf
            refine mvn_top (xfi_22_8 ev6) ?_
            obtain ⟨q7, hf⟩ := xix_e hf
            refine mv_iald (pc := 258) B rfl (xin q7 (by decide)) d_Exprs_goOn_258 ?_
            obtain ⟨v8, ev8, hf⟩ := xer_e hf
            refine mvn_top (xfa_24 q7 ev8) ?_
            obtain ⟨h9, eh9, hf⟩ := xev_e hf
            refine mv_callVv (pc := 259) (n := 2) (ci := 6) (C := R_Exprs) B (mK_ok sk sv) hNs rfl rfl (cx_Exprs_ofTwo l hi _ hb _ _ _ eh9) rfl (ma_goodc kc_Exprs_ofTwo) (B.2.2.2.1 _ k_1489) (B.2.2.2.1 _ k_1491) (B.2.2.2.1 _ ks_57) (B.2.2.2.1 _ k_7) ⟨by decide +kernel, by decide +kernel, by decide +kernel⟩ rfl d_Exprs_goOn_259 rfl (Nat.le_of_ble_eq_true rfl) ⟨by decide, by decide⟩ ⟨by decide, by decide⟩ ⟨by decide, by decide⟩ (mv_noH hno _) (fun σ259 h259 => ?_)
            subst h259
            refine mv_goto (pc := 262) (tgt := 272) B d_Exprs_goOn_262 rfl ?_
            refine mv_lpick [] rfl ?_
            exact jn272  _ hf
  have jn156 : ∀ (x1 : Nat) (x2 : Nat) (x3 : Nat) (h : xE), g_Exprs_goOn_156 x1 x2 x3 h = some (rv, rg) → mv_V p l e ({ frames := 4, cells := 0, slots := 0, locals := 89 }) s m ([.ref (al 22), .int (nI a0)] : List Value).toArray below meth c (mg dA D al me) 4 0 0 (mv_Q (mg dA D al me) below s 0 0 (mv_Ri (fun v σ1 => v = nI rv ∧ σ1 = ab b rg))) (ab b h) 156 [(0, .ref (al 22)), (1, .int (nI x1)), (2, .int (nI x2)), (3, .int (nI x3))] [] := by
    intro x1 x2 x3 h hf
    unfold g_Exprs_goOn_156 at hf
    refine mv_iload_n (pc := 156) B d_Exprs_goOn_156 rfl 2 rfl ?_
    refine mv_sipush (pc := 157) (v := nI 213) B d_Exprs_goOn_157 (by decide) ?_
    refine mv_icmp_lt (pc := 160) (tgt := 204) B d_Exprs_goOn_160 rfl (fun h160 => ?_) (fun h160 => ?_)
    · skip
      have hf := x_lt_t h160 hf
      refine mv_lpick [0, 1, 2, 3] rfl ?_
      exact jn204 _ _ _ _ hf
    · skip
      have hf := x_lt_f h160 hf
      refine mv_iload_n (pc := 163) B d_Exprs_goOn_163 rfl 2 rfl ?_
      refine mv_sipush (pc := 164) (v := nI 216) B d_Exprs_goOn_164 (by decide) ?_
      refine mv_icmp_gt (pc := 167) (tgt := 204) B d_Exprs_goOn_167 rfl (fun h167 => ?_) (fun h167 => ?_)
      · skip
        have hf := x_lt_t h167 hf
        refine mv_lpick [0, 1, 2, 3] rfl ?_
        exact jn204 _ _ _ _ hf
      · skip
        have hf := x_lt_f h167 hf
        refine mv_iload_n (pc := 170) B d_Exprs_goOn_170 rfl 1 rfl ?_
        refine mv_bipush (pc := 171) (v := nI 44) B d_Exprs_goOn_171 (by decide) ?_
        refine mv_icmp_ne (pc := 173) (tgt := 204) B d_Exprs_goOn_173 rfl (fun h173 => ?_) (fun h173 => ?_)
        · skip
          have hf := x_eq_f h173 hf
          refine mv_lpick [0, 1, 2, 3] rfl ?_
          exact jn204 _ _ _ _ hf
        · skip
          have hf := x_eq_t h173 hf
          refine mv_iload_n (pc := 176) B d_Exprs_goOn_176 rfl 3 rfl ?_
          refine mv_if_eq (pc := 177) (tgt := 204) B d_Exprs_goOn_177 rfl (fun h177 => ?_) (fun h177 => ?_)
          · skip
            have hf := x_eq_t (y := 0) h177 hf
            refine mv_lpick [0, 1, 2, 3] rfl ?_
            exact jn204 _ _ _ _ hf
          · skip
            have hf := x_eq_f (y := 0) h177 hf
            refine mv_aload_n (pc := 180) B d_Exprs_goOn_180 rfl 0 rfl ?_
            refine mv_getR (pc := 181) (ci := 6) (C := R_Exprs) (T := F_Exprs) (N := 11) B 0 rfl rfl (by decide) i_Exprs (B.2.2.2.1 _ k_193) rfl (hb.1.1 22 0 _ rfl) d_Exprs_goOn_181 ?_
            refine mv_bipush (pc := 184) (v := nI 44) B d_Exprs_goOn_184 (by decide) ?_
            obtain ⟨v11, h10, eh10, hf⟩ := xeb_e hf
            refine mv_callVi (pc := 186) (n := 1) (ci := 2) (C := R_Tokens) B (mK_ok sk sv) hNs rfl rfl (cx_Tokens_take l hi _ hb _ _ eh10) rfl (ma_goodc kc_Tokens_take) (B.2.2.2.1 _ k_1424) (B.2.2.2.1 _ k_1267) (B.2.2.2.1 _ k_1268) (B.2.2.2.1 _ k_3) ⟨by decide +kernel, by decide +kernel, by decide +kernel⟩ rfl d_Exprs_goOn_186 rfl (Nat.le_of_ble_eq_true rfl) ⟨by decide, by decide⟩ ⟨by decide, by decide⟩ ⟨by decide, by decide⟩ (mv_noH hno _) (fun w186 σ186 h186 => ?_)
            obtain ⟨rfl, rfl⟩ := h186
            refine mv_pop (pc := 189) B d_Exprs_goOn_189 rfl ?_
            refine mv_aload_n (pc := 190) B d_Exprs_goOn_190 rfl 0 rfl ?_
            refine mv_getR (pc := 191) (ci := 6) (C := R_Exprs) (T := F_Exprs) (N := 11) B 6 rfl rfl (by decide) i_Exprs (B.2.2.2.1 _ k_200) rfl (hb.1.1 22 6 _ rfl) d_Exprs_goOn_191 ?_
            refine mv_aload_n (pc := 194) B d_Exprs_goOn_194 rfl 0 rfl ?_
            refine mv_getI (pc := 195) (ci := 6) (C := R_Exprs) (T := F_Exprs) (N := 11) B 8 rfl rfl (by decide) i_Exprs (B.2.2.2.1 _ k_202) rfl d_Exprs_goOn_195 ?_
            obtain ⟨v12, ev12, hf⟩ := xer_e hf
            refine mvn_top (xfi_22_8 ev12) ?_
            refine mv_iconst (pc := 198) (v := nI 1) B d_Exprs_goOn_198 (by decide) ?_
            refine mvn_isub (pc := 199) B d_Exprs_goOn_199 ?_
            refine mv_iconst (pc := 200) (v := nI 1) B d_Exprs_goOn_200 (by decide) ?_
            obtain ⟨q13, hf⟩ := xix_e hf
            refine mv_iast (pc := 201) B rfl (xin q13 (by decide)) d_Exprs_goOn_201 ?_
            refine mvn_hp (xwa_25 _ _ _ q13) (xw_f xLe_25 xSe_25 hf) (fun h14 hf => ?_)
            refine mv_iconst (pc := 202) (v := nI 0) B d_Exprs_goOn_202 (by decide) ?_
            exact mv_iret (pc := 203) B hr rfl d_Exprs_goOn_203 (Nat.le_refl _) (Nat.le_refl _) ⟨_, rfl, xret_i hf⟩
  have jn142 : ∀ (x1 : Nat) (x2 : Nat) (x3 : Nat) (h : xE), g_Exprs_goOn_142 x1 x2 x3 h = some (rv, rg) → mv_V p l e ({ frames := 4, cells := 0, slots := 0, locals := 89 }) s m ([.ref (al 22), .int (nI a0)] : List Value).toArray below meth c (mg dA D al me) 4 0 0 (mv_Q (mg dA D al me) below s 0 0 (mv_Ri (fun v σ1 => v = nI rv ∧ σ1 = ab b rg))) (ab b h) 142 [(0, .ref (al 22)), (1, .int (nI x1)), (2, .int (nI x2)), (3, .int (nI x3))] [] := by
    intro x1 x2 x3 h hf
    unfold g_Exprs_goOn_142 at hf
    refine mv_iload_n (pc := 142) B d_Exprs_goOn_142 rfl 1 rfl ?_
    refine mv_bipush (pc := 143) (v := nI 44) B d_Exprs_goOn_143 (by decide) ?_
    refine mv_icmp_ne (pc := 145) (tgt := 156) B d_Exprs_goOn_145 rfl (fun h145 => ?_) (fun h145 => ?_)
    · skip
      have hf := x_eq_f h145 hf
      refine mv_lpick [0, 1, 2, 3] rfl ?_
      exact jn156 _ _ _ _ hf
    · skip
      have hf := x_eq_t h145 hf
      refine mv_aload_n (pc := 148) B d_Exprs_goOn_148 rfl 0 rfl ?_
      refine mv_iload_n (pc := 149) B d_Exprs_goOn_149 rfl 2 rfl ?_
      obtain ⟨h15, eh15, hf⟩ := xev_e hf
      refine mv_callVv (pc := 150) (n := 1) (ci := 6) (C := R_Exprs) B (mK_ok sk sv) hNs rfl rfl (cx_Exprs_widen l hi _ hb _ _ eh15) rfl (ma_goodc kc_Exprs_widen) (B.2.2.2.1 _ k_1518) (B.2.2.2.1 _ k_1520) (B.2.2.2.1 _ ks_64) (B.2.2.2.1 _ k_7) ⟨by decide +kernel, by decide +kernel, by decide +kernel⟩ rfl d_Exprs_goOn_150 rfl (Nat.le_of_ble_eq_true rfl) ⟨by decide, by decide⟩ ⟨by decide, by decide⟩ ⟨by decide, by decide⟩ (mv_noH hno _) (fun σ150 h150 => ?_)
      subst h150
      refine mv_goto (pc := 153) (tgt := 272) B d_Exprs_goOn_153 rfl ?_
      refine mv_lpick [] rfl ?_
      exact jn272  _ hf
  have jn128 : ∀ (x1 : Nat) (x2 : Nat) (x3 : Nat) (h : xE), g_Exprs_goOn_128 x1 x2 x3 h = some (rv, rg) → mv_V p l e ({ frames := 4, cells := 0, slots := 0, locals := 89 }) s m ([.ref (al 22), .int (nI a0)] : List Value).toArray below meth c (mg dA D al me) 4 0 0 (mv_Q (mg dA D al me) below s 0 0 (mv_Ri (fun v σ1 => v = nI rv ∧ σ1 = ab b rg))) (ab b h) 128 [(0, .ref (al 22)), (1, .int (nI x1)), (2, .int (nI x2)), (3, .int (nI x3))] [] := by
    intro x1 x2 x3 h hf
    unfold g_Exprs_goOn_128 at hf
    refine mv_iload_n (pc := 128) B d_Exprs_goOn_128 rfl 2 rfl ?_
    refine mv_sipush (pc := 129) (v := nI 211) B d_Exprs_goOn_129 (by decide) ?_
    refine mv_icmp_eq (pc := 132) (tgt := 142) B d_Exprs_goOn_132 rfl (fun h132 => ?_) (fun h132 => ?_)
    · skip
      have hf := x_eq_t h132 hf
      refine mv_lpick [0, 1, 2, 3] rfl ?_
      exact jn142 _ _ _ _ hf
    · skip
      have hf := x_eq_f h132 hf
      refine mv_iload_n (pc := 135) B d_Exprs_goOn_135 rfl 2 rfl ?_
      refine mv_sipush (pc := 136) (v := nI 212) B d_Exprs_goOn_136 (by decide) ?_
      refine mv_icmp_ne (pc := 139) (tgt := 156) B d_Exprs_goOn_139 rfl (fun h139 => ?_) (fun h139 => ?_)
      · skip
        have hf := x_eq_f h139 hf
        refine mv_lpick [0, 1, 2, 3] rfl ?_
        exact jn156 _ _ _ _ hf
      · skip
        have hf := x_eq_t h139 hf
        refine mv_lpick [0, 1, 2, 3] rfl ?_
        exact jn142 _ _ _ _ hf
  have jn93 : ∀ (x1 : Nat) (x2 : Nat) (x3 : Nat) (h : xE), g_Exprs_goOn_93 x1 x2 x3 h = some (rv, rg) → mv_V p l e ({ frames := 4, cells := 0, slots := 0, locals := 89 }) s m ([.ref (al 22), .int (nI a0)] : List Value).toArray below meth c (mg dA D al me) 4 0 0 (mv_Q (mg dA D al me) below s 0 0 (mv_Ri (fun v σ1 => v = nI rv ∧ σ1 = ab b rg))) (ab b h) 93 [(0, .ref (al 22)), (1, .int (nI x1)), (2, .int (nI x2)), (3, .int (nI x3))] [] := by
    intro x1 x2 x3 h hf
    unfold g_Exprs_goOn_93 at hf
    refine mv_iload_n (pc := 93) B d_Exprs_goOn_93 rfl 2 rfl ?_
    refine mv_bipush (pc := 94) (v := nI 40) B d_Exprs_goOn_94 (by decide) ?_
    refine mv_icmp_ne (pc := 96) (tgt := 128) B d_Exprs_goOn_96 rfl (fun h96 => ?_) (fun h96 => ?_)
    · skip
      have hf := x_eq_f h96 hf
      refine mv_lpick [0, 1, 2, 3] rfl ?_
      exact jn128 _ _ _ _ hf
    · skip
      have hf := x_eq_t h96 hf
      refine mv_iload_n (pc := 99) B d_Exprs_goOn_99 rfl 1 rfl ?_
      refine mv_bipush (pc := 100) (v := nI 41) B d_Exprs_goOn_100 (by decide) ?_
      refine mv_icmp_ne (pc := 102) (tgt := 128) B d_Exprs_goOn_102 rfl (fun h102 => ?_) (fun h102 => ?_)
      · skip
        have hf := x_eq_f h102 hf
        refine mv_lpick [0, 1, 2, 3] rfl ?_
        exact jn128 _ _ _ _ hf
      · skip
        have hf := x_eq_t h102 hf
        refine mv_aload_n (pc := 105) B d_Exprs_goOn_105 rfl 0 rfl ?_
        refine mv_getR (pc := 106) (ci := 6) (C := R_Exprs) (T := F_Exprs) (N := 11) B 0 rfl rfl (by decide) i_Exprs (B.2.2.2.1 _ k_193) rfl (hb.1.1 22 0 _ rfl) d_Exprs_goOn_106 ?_
        refine mv_bipush (pc := 109) (v := nI 41) B d_Exprs_goOn_109 (by decide) ?_
        obtain ⟨v17, h16, eh16, hf⟩ := xeb_e hf
        refine mv_callVi (pc := 111) (n := 1) (ci := 2) (C := R_Tokens) B (mK_ok sk sv) hNs rfl rfl (cx_Tokens_close l hi _ hb _ _ eh16) rfl (ma_goodc kc_Tokens_close) (B.2.2.2.1 _ k_1468) (B.2.2.2.1 _ k_1397) (B.2.2.2.1 _ k_1398) (B.2.2.2.1 _ k_3) ⟨by decide +kernel, by decide +kernel, by decide +kernel⟩ rfl d_Exprs_goOn_111 rfl (Nat.le_of_ble_eq_true rfl) ⟨by decide, by decide⟩ ⟨by decide, by decide⟩ ⟨by decide, by decide⟩ (mv_noH hno _) (fun w111 σ111 h111 => ?_)
        obtain ⟨rfl, rfl⟩ := h111
        refine mv_pop (pc := 114) B d_Exprs_goOn_114 rfl ?_
        refine mv_aload_n (pc := 115) B d_Exprs_goOn_115 rfl 0 rfl ?_
        refine mv_dup (pc := 116) B d_Exprs_goOn_116 rfl ?_
        refine mv_getI (pc := 117) (ci := 6) (C := R_Exprs) (T := F_Exprs) (N := 11) B 8 rfl rfl (by decide) i_Exprs (B.2.2.2.1 _ k_202) rfl d_Exprs_goOn_117 ?_
        obtain ⟨v18, ev18, hf⟩ := xer_e hf
        refine mvn_top (xfi_22_8 ev18) ?_
        refine mv_iconst (pc := 120) (v := nI 1) B d_Exprs_goOn_120 (by decide) ?_
        refine mvn_isub (pc := 121) B d_Exprs_goOn_121 ?_
        refine mv_putI (pc := 122) (ci := 6) (C := R_Exprs) (T := F_Exprs) (N := 11) B 8 rfl rfl (by decide) i_Exprs t_Exprs_ok n_Exprs (B.2.2.2.1 _ k_202) rfl rfl rfl rfl d_Exprs_goOn_122 ?_
        refine mvn_hp (xwi_22_8 _ _ _) (xwi_f hf) (fun h19 hf => ?_)
        refine mv_goto (pc := 125) (tgt := 272) B d_Exprs_goOn_125 rfl ?_
        refine mv_lpick [] rfl ?_
        exact jn272  _ hf
  have jn74 : ∀ (x1 : Nat) (x2 : Nat) (x3 : Nat) (h : xE), g_Exprs_goOn_74 x1 x2 x3 h = some (rv, rg) → mv_V p l e ({ frames := 4, cells := 0, slots := 0, locals := 89 }) s m ([.ref (al 22), .int (nI a0)] : List Value).toArray below meth c (mg dA D al me) 4 0 0 (mv_Q (mg dA D al me) below s 0 0 (mv_Ri (fun v σ1 => v = nI rv ∧ σ1 = ab b rg))) (ab b h) 74 [(0, .ref (al 22)), (1, .int (nI x1)), (2, .int (nI x2)), (3, .int (nI x3))] [] := by
    intro x1 x2 x3 h hf
    unfold g_Exprs_goOn_74 at hf
    refine mv_iload_n (pc := 74) B d_Exprs_goOn_74 rfl 2 rfl ?_
    refine mv_bipush (pc := 75) (v := nI 91) B d_Exprs_goOn_75 (by decide) ?_
    refine mv_icmp_ne (pc := 77) (tgt := 93) B d_Exprs_goOn_77 rfl (fun h77 => ?_) (fun h77 => ?_)
    · skip
      have hf := x_eq_f h77 hf
      refine mv_lpick [0, 1, 2, 3] rfl ?_
      exact jn93 _ _ _ _ hf
    · skip
      have hf := x_eq_t h77 hf
      refine mv_iload_n (pc := 80) B d_Exprs_goOn_80 rfl 1 rfl ?_
      refine mv_bipush (pc := 81) (v := nI 93) B d_Exprs_goOn_81 (by decide) ?_
      refine mv_icmp_ne (pc := 83) (tgt := 93) B d_Exprs_goOn_83 rfl (fun h83 => ?_) (fun h83 => ?_)
      · skip
        have hf := x_eq_f h83 hf
        refine mv_lpick [0, 1, 2, 3] rfl ?_
        exact jn93 _ _ _ _ hf
      · skip
        have hf := x_eq_t h83 hf
        refine mv_aload_n (pc := 86) B d_Exprs_goOn_86 rfl 0 rfl ?_
        obtain ⟨h20, eh20, hf⟩ := xev_e hf
        refine mv_callVv (pc := 87) (n := 0) (ci := 6) (C := R_Exprs) B (mK_ok sk sv) hNs rfl rfl (cx_Exprs_cell l hi _ hb _ eh20) rfl (ma_goodc kc_Exprs_cell) (B.2.2.2.1 _ k_1514) (B.2.2.2.1 _ k_1516) (B.2.2.2.1 _ ks_63) (B.2.2.2.1 _ k_7) ⟨by decide +kernel, by decide +kernel, by decide +kernel⟩ rfl d_Exprs_goOn_87 rfl (Nat.le_of_ble_eq_true rfl) ⟨by decide, by decide⟩ ⟨by decide, by decide⟩ ⟨by decide, by decide⟩ (mv_noH hno _) (fun σ87 h87 => ?_)
        subst h87
        refine mv_goto (pc := 90) (tgt := 272) B d_Exprs_goOn_90 rfl ?_
        refine mv_lpick [] rfl ?_
        exact jn272  _ hf
  have jn68 : ∀ (x1 : Nat) (h : xE), g_Exprs_goOn_68 x1 h = some (rv, rg) → mv_V p l e ({ frames := 4, cells := 0, slots := 0, locals := 89 }) s m ([.ref (al 22), .int (nI a0)] : List Value).toArray below meth c (mg dA D al me) 4 0 0 (mv_Q (mg dA D al me) below s 0 0 (mv_Ri (fun v σ1 => v = nI rv ∧ σ1 = ab b rg))) (ab b h) 68 [(0, .ref (al 22)), (1, .int (nI x1))] [] := by
    intro x1 h hf
    unfold g_Exprs_goOn_68 at hf
    refine mv_aload_n (pc := 68) B d_Exprs_goOn_68 rfl 0 rfl ?_
    refine mv_iload_n (pc := 69) B d_Exprs_goOn_69 rfl 1 rfl ?_
    obtain ⟨v22, h21, eh21, hf⟩ := xeb_e hf
    refine mv_callVi (pc := 70) (n := 1) (ci := 6) (C := R_Exprs) B (mK_ok sk sv) hNs rfl rfl (cx_Exprs_join l hi _ hb _ _ eh21) rfl (ma_goodc kc_Exprs_join) (B.2.2.2.1 _ k_1510) (B.2.2.2.1 _ k_1512) (B.2.2.2.1 _ ks_62) (B.2.2.2.1 _ k_7) ⟨by decide +kernel, by decide +kernel, by decide +kernel⟩ rfl d_Exprs_goOn_70 rfl (Nat.le_of_ble_eq_true rfl) ⟨by decide, by decide⟩ ⟨by decide, by decide⟩ ⟨by decide, by decide⟩ (mv_noH hno _) (fun w70 σ70 h70 => ?_)
    obtain ⟨rfl, rfl⟩ := h70
    exact mv_iret (pc := 73) B hr rfl d_Exprs_goOn_73 (Nat.le_refl _) (Nat.le_refl _) ⟨_, rfl, xret_i hf⟩
  have jn50 : ∀ (x1 : Nat) (x2 : Nat) (x3 : Nat) (h : xE), g_Exprs_goOn_50 x1 x2 x3 h = some (rv, rg) → mv_V p l e ({ frames := 4, cells := 0, slots := 0, locals := 89 }) s m ([.ref (al 22), .int (nI a0)] : List Value).toArray below meth c (mg dA D al me) 4 0 0 (mv_Q (mg dA D al me) below s 0 0 (mv_Ri (fun v σ1 => v = nI rv ∧ σ1 = ab b rg))) (ab b h) 50 [(0, .ref (al 22)), (1, .int (nI x1)), (2, .int (nI x2)), (3, .int (nI x3))] [] := by
    intro x1 x2 x3 h hf
    unfold g_Exprs_goOn_50 at hf
    refine mv_iload_n (pc := 50) B d_Exprs_goOn_50 rfl 2 rfl ?_
    refine mv_bipush (pc := 51) (v := nI 123) B d_Exprs_goOn_51 (by decide) ?_
    refine mv_icmp_ne (pc := 53) (tgt := 74) B d_Exprs_goOn_53 rfl (fun h53 => ?_) (fun h53 => ?_)
    · skip
      have hf := x_eq_f h53 hf
      refine mv_lpick [0, 1, 2, 3] rfl ?_
      exact jn74 _ _ _ _ hf
    · skip
      have hf := x_eq_t h53 hf
      refine mv_iload_n (pc := 56) B d_Exprs_goOn_56 rfl 1 rfl ?_
      refine mv_bipush (pc := 57) (v := nI 44) B d_Exprs_goOn_57 (by decide) ?_
      refine mv_icmp_eq (pc := 59) (tgt := 68) B d_Exprs_goOn_59 rfl (fun h59 => ?_) (fun h59 => ?_)
      · skip
        have hf := x_eq_t h59 hf
        refine mv_lpick [0, 1] rfl ?_
        exact jn68 _ _ hf
      · skip
        have hf := x_eq_f h59 hf
        refine mv_iload_n (pc := 62) B d_Exprs_goOn_62 rfl 1 rfl ?_
        refine mv_bipush (pc := 63) (v := nI 125) B d_Exprs_goOn_63 (by decide) ?_
        refine mv_icmp_ne (pc := 65) (tgt := 74) B d_Exprs_goOn_65 rfl (fun h65 => ?_) (fun h65 => ?_)
        · skip
          have hf := x_eq_f h65 hf
          refine mv_lpick [0, 1, 2, 3] rfl ?_
          exact jn74 _ _ _ _ hf
        · skip
          have hf := x_eq_t h65 hf
          refine mv_lpick [0, 1] rfl ?_
          exact jn68 _ _ hf
  have jn31 : ∀ (x1 : Nat) (x2 : Nat) (y0 : Nat) (h : xE), g_Exprs_goOn_31 x1 x2 y0 h = some (rv, rg) → mv_V p l e ({ frames := 4, cells := 0, slots := 0, locals := 89 }) s m ([.ref (al 22), .int (nI a0)] : List Value).toArray below meth c (mg dA D al me) 4 0 0 (mv_Q (mg dA D al me) below s 0 0 (mv_Ri (fun v σ1 => v = nI rv ∧ σ1 = ab b rg))) (ab b h) 31 [(0, .ref (al 22)), (1, .int (nI x1)), (2, .int (nI x2))] [.int (nI y0)] := by
    intro x1 x2 y0 h hf
    unfold g_Exprs_goOn_31 at hf
    refine mv_istore_n (pc := 31) B d_Exprs_goOn_31 rfl (by decide) rfl ?_
    refine mv_iload_n (pc := 32) B d_Exprs_goOn_32 rfl 3 rfl ?_
    refine mv_bipush (pc := 33) (v := nI 63) B d_Exprs_goOn_33 (by decide) ?_
    refine mv_icmp_ne (pc := 35) (tgt := 50) B d_Exprs_goOn_35 rfl (fun h35 => ?_) (fun h35 => ?_)
    · skip
      have hf := x_eq_f h35 hf
      refine mv_lpick [1, 2, 3, 0] rfl ?_
      exact jn50 _ _ _ _ hf
    · skip
      have hf := x_eq_t h35 hf
      refine mv_iload_n (pc := 38) B d_Exprs_goOn_38 rfl 2 rfl ?_
      refine mv_bipush (pc := 39) (v := nI 58) B d_Exprs_goOn_39 (by decide) ?_
      refine mv_icmp_ne (pc := 41) (tgt := 50) B d_Exprs_goOn_41 rfl (fun h41 => ?_) (fun h41 => ?_)
      · skip
        have hf := x_eq_f h41 hf
        refine mv_lpick [1, 2, 3, 0] rfl ?_
        exact jn50 _ _ _ _ hf
      · skip
        have hf := x_eq_t h41 hf
        refine mv_aload_n (pc := 44) B d_Exprs_goOn_44 rfl 1 rfl ?_
        obtain ⟨h23, eh23, hf⟩ := xev_e hf
        refine mv_callVv (pc := 45) (n := 0) (ci := 6) (C := R_Exprs) B (mK_ok sk sv) hNs rfl rfl (cx_Exprs_otherwise l hi _ hb _ eh23) rfl (ma_goodc kc_Exprs_otherwise) (B.2.2.2.1 _ k_1506) (B.2.2.2.1 _ k_1508) (B.2.2.2.1 _ ks_61) (B.2.2.2.1 _ k_7) ⟨by decide +kernel, by decide +kernel, by decide +kernel⟩ rfl d_Exprs_goOn_45 rfl (Nat.le_of_ble_eq_true rfl) ⟨by decide, by decide⟩ ⟨by decide, by decide⟩ ⟨by decide, by decide⟩ (mv_noH hno _) (fun σ45 h45 => ?_)
        subst h45
        refine mv_iconst (pc := 48) (v := nI 0) B d_Exprs_goOn_48 (by decide) ?_
        exact mv_iret (pc := 49) B hr rfl d_Exprs_goOn_49 (Nat.le_refl _) (Nat.le_refl _) ⟨_, rfl, xret_i hf⟩
  unfold g_Exprs_goOn at hf
  refine mv_aload_n (pc := 0) B d_Exprs_goOn_0 rfl 0 rfl ?_
  refine mv_getR (pc := 1) (ci := 6) (C := R_Exprs) (T := F_Exprs) (N := 11) B 4 rfl rfl (by decide) i_Exprs (B.2.2.2.1 _ k_198) rfl (hb.1.1 22 4 _ rfl) d_Exprs_goOn_1 ?_
  refine mv_aload_n (pc := 4) B d_Exprs_goOn_4 rfl 0 rfl ?_
  refine mv_getI (pc := 5) (ci := 6) (C := R_Exprs) (T := F_Exprs) (N := 11) B 8 rfl rfl (by decide) i_Exprs (B.2.2.2.1 _ k_202) rfl d_Exprs_goOn_5 ?_
  obtain ⟨v24, ev24, hf⟩ := xer_e hf
  refine mvn_top (xfi_22_8 ev24) ?_
  refine mv_iconst (pc := 8) (v := nI 1) B d_Exprs_goOn_8 (by decide) ?_
  refine mvn_isub (pc := 9) B d_Exprs_goOn_9 ?_
  obtain ⟨q25, hf⟩ := xix_e hf
  refine mv_iald (pc := 10) B rfl (xin q25 (by decide)) d_Exprs_goOn_10 ?_
  obtain ⟨v26, ev26, hf⟩ := xer_e hf
  refine mvn_top (xfa_23 q25 ev26) ?_
  refine mv_istore_n (pc := 11) B d_Exprs_goOn_11 rfl (by decide) rfl ?_
  refine mv_aload_n (pc := 12) B d_Exprs_goOn_12 rfl 1 rfl ?_
  refine mv_getR (pc := 13) (ci := 6) (C := R_Exprs) (T := F_Exprs) (N := 11) B 6 rfl rfl (by decide) i_Exprs (B.2.2.2.1 _ k_200) rfl (hb.1.1 22 6 _ rfl) d_Exprs_goOn_13 ?_
  refine mv_aload_n (pc := 16) B d_Exprs_goOn_16 rfl 1 rfl ?_
  refine mv_getI (pc := 17) (ci := 6) (C := R_Exprs) (T := F_Exprs) (N := 11) B 8 rfl rfl (by decide) i_Exprs (B.2.2.2.1 _ k_202) rfl d_Exprs_goOn_17 ?_
  obtain ⟨v27, ev27, hf⟩ := xer_e hf
  refine mvn_top (xfi_22_8 ev27) ?_
  refine mv_iconst (pc := 20) (v := nI 1) B d_Exprs_goOn_20 (by decide) ?_
  refine mvn_isub (pc := 21) B d_Exprs_goOn_21 ?_
  obtain ⟨q28, hf⟩ := xix_e hf
  refine mv_iald (pc := 22) B rfl (xin q28 (by decide)) d_Exprs_goOn_22 ?_
  obtain ⟨v29, ev29, hf⟩ := xer_e hf
  refine mvn_top (xfa_25 q28 ev29) ?_
  refine mv_if_ne (pc := 23) (tgt := 30) B d_Exprs_goOn_23 rfl (fun h23 => ?_) (fun h23 => ?_)
  · skip
    have hf := x_eq_f (y := 0) h23 hf
    refine mv_iconst (pc := 30) (v := nI 0) B d_Exprs_goOn_30 (by decide) ?_
    refine mv_lpick [1, 2, 0] rfl ?_
    exact jn31 _ _ _ _ hf
  · skip
    have hf := x_eq_t (y := 0) h23 hf
    refine mv_iconst (pc := 26) (v := nI 1) B d_Exprs_goOn_26 (by decide) ?_
    refine mv_goto (pc := 27) (tgt := 31) B d_Exprs_goOn_27 rfl ?_
    refine mv_lpick [1, 2, 0] rfl ?_
    exact jn31 _ _ _ _ hf
def g_Exprs_after (h : xE) : Option (Nat × xE) := xeb (g_Tokens_kind h) fun v2 h1 => bif xeq v2 91 then (xev (g_Exprs_part h1) fun h16 => some (1, h16)) else (xev (g_Exprs_endSigns h1) fun h3 => xeb (g_Exprs_levelOf h3 v2) fun v5 h4 => bif xlt 0 v5 then (xev (g_Exprs_endBinaries h4 v5) fun h12 => xeb (g_Tokens_take h12 v2) fun v14 h13 => xev (g_Exprs_mark h13 v2 v14) fun h15 => some (0, h15)) else (xev (g_Exprs_endBinaries h4 1) fun h6 => bif xeq v2 63 then (xev (g_Exprs_choose h6) fun h11 => some (0, h11)) else (xev (g_Exprs_endChoices h6) fun h7 => xer (ep_g h7.1 17) fun v8 => bif xeq v8 0 then (some (2, h7)) else (xeb (g_Exprs_goOn h7 v2) fun v10 h9 => some (v10, h9)))))
set_option maxHeartbeats 4000000 in
set_option maxRecDepth 100000 in
theorem cx_Exprs_after (l : Launch) {dA : FieldType → ClassId} {D : va_G} {al : Nat → Nat} {sk sv : Nat → Nat} (hi : mv_inj (mg dA D al me)) (b : mv_H) (hb : xR (mv_r b)) (h : xE) {rv : Nat} {rg : xE} (hf : g_Exprs_after h = some (rv, rg)) : mv_C l y_Exprs_after (Cond.code y_Exprs_after b_Exprs_after 3 (Option.some Jvm.ClassFile.FieldType.int) :: ma) ({ frames := 5, cells := 0, slots := 0, locals := 112 }) (mg dA D al me) (mK sk sv) [.ref (al 22)] (ab b h) (mv_Ri (fun v σ1 => v = nI rv ∧ σ1 = ab b rg)) := by
  refine mv_C.ofV (cc := b_Exprs_after) (nL := 3) (ret := (Option.some Jvm.ClassFile.FieldType.int)) (by decide +kernel) rfl hi (Nat.le_of_ble_eq_true rfl) ?_
  intro p e s m below meth c B hNs hr hnm hno
  unfold g_Exprs_after at hf
  refine mv_aload_n (pc := 0) B d_Exprs_after_0 rfl 0 rfl ?_
  refine mv_getR (pc := 1) (ci := 6) (C := R_Exprs) (T := F_Exprs) (N := 11) B 0 rfl rfl (by decide) i_Exprs (B.2.2.2.1 _ k_193) rfl (hb.1.1 22 0 _ rfl) d_Exprs_after_1 ?_
  obtain ⟨v2, h1, eh1, hf⟩ := xeb_e hf
  refine mv_callVi (pc := 4) (n := 0) (ci := 2) (C := R_Tokens) B (mK_ok sk sv) hNs rfl rfl (cx_Tokens_kind l hi _ hb _ eh1) rfl (ma_goodc kc_Tokens_kind) (B.2.2.2.1 _ k_1414) (B.2.2.2.1 _ k_1271) (B.2.2.2.1 _ k_1272) (B.2.2.2.1 _ k_3) ⟨by decide +kernel, by decide +kernel, by decide +kernel⟩ rfl d_Exprs_after_4 rfl (Nat.le_of_ble_eq_true rfl) ⟨by decide, by decide⟩ ⟨by decide, by decide⟩ ⟨by decide, by decide⟩ (mv_noH hno _) (fun w4 σ4 h4 => ?_)
  obtain ⟨rfl, rfl⟩ := h4
  refine mv_istore_n (pc := 7) B d_Exprs_after_7 rfl (by decide) rfl ?_
  refine mv_iload_n (pc := 8) B d_Exprs_after_8 rfl 0 rfl ?_
  refine mv_bipush (pc := 9) (v := nI 91) B d_Exprs_after_9 (by decide) ?_
  refine mv_icmp_ne (pc := 11) (tgt := 20) B d_Exprs_after_11 rfl (fun h11 => ?_) (fun h11 => ?_)
  · skip
    have hf := x_eq_f h11 hf
    refine mv_aload_n (pc := 20) B d_Exprs_after_20 rfl 1 rfl ?_
    obtain ⟨h3, eh3, hf⟩ := xev_e hf
    refine mv_callVv (pc := 21) (n := 0) (ci := 6) (C := R_Exprs) B (mK_ok sk sv) hNs rfl rfl (cx_Exprs_endSigns l hi _ hb _ eh3) rfl (ma_goodc kc_Exprs_endSigns) (B.2.2.2.1 _ k_1478) (B.2.2.2.1 _ k_1480) (B.2.2.2.1 _ ks_55) (B.2.2.2.1 _ k_7) ⟨by decide +kernel, by decide +kernel, by decide +kernel⟩ rfl d_Exprs_after_21 rfl (Nat.le_of_ble_eq_true rfl) ⟨by decide, by decide⟩ ⟨by decide, by decide⟩ ⟨by decide, by decide⟩ (mv_noH hno _) (fun σ21 h21 => ?_)
    subst h21
    refine mv_iload_n (pc := 24) B d_Exprs_after_24 rfl 0 rfl ?_
    obtain ⟨v5, h4, eh4, hf⟩ := xeb_e hf
    refine mv_callSi (pc := 25) (n := 1) B (mK_ok sk sv) hNs (cx_Exprs_levelOf l hi _ _ _ eh4) rfl (ma_goodc kc_Exprs_levelOf) (B.2.2.2.1 _ k_1482) (B.2.2.2.1 _ k_1483) (B.2.2.2.1 _ k_7) ⟨by decide +kernel, by decide +kernel, by decide +kernel⟩ rfl d_Exprs_after_25 rfl (Nat.le_of_ble_eq_true rfl) ⟨by decide, by decide⟩ ⟨by decide, by decide⟩ ⟨by decide, by decide⟩ (mv_noH hno _) (fun w25 σ25 h25 => ?_)
    obtain ⟨rfl, rfl⟩ := h25
    refine mv_istore_n (pc := 28) B d_Exprs_after_28 rfl (by decide) rfl ?_
    refine mv_iload_n (pc := 29) B d_Exprs_after_29 rfl 0 rfl ?_
    refine mv_if_le (pc := 30) (tgt := 53) B d_Exprs_after_30 rfl (fun h30 => ?_) (fun h30 => ?_)
    · skip
      have hf := x_le_t (y := 0) h30 hf
      refine mv_aload_n (pc := 53) B d_Exprs_after_53 rfl 2 rfl ?_
      refine mv_iconst (pc := 54) (v := nI 1) B d_Exprs_after_54 (by decide) ?_
      obtain ⟨h6, eh6, hf⟩ := xev_e hf
      refine mv_callVv (pc := 55) (n := 1) (ci := 6) (C := R_Exprs) B (mK_ok sk sv) hNs rfl rfl (cx_Exprs_endBinaries l hi _ hb _ _ eh6) rfl (ma_goodc kc_Exprs_endBinaries) (B.2.2.2.1 _ k_1485) (B.2.2.2.1 _ k_1487) (B.2.2.2.1 _ ks_56) (B.2.2.2.1 _ k_7) ⟨by decide +kernel, by decide +kernel, by decide +kernel⟩ rfl d_Exprs_after_55 rfl (Nat.le_of_ble_eq_true rfl) ⟨by decide, by decide⟩ ⟨by decide, by decide⟩ ⟨by decide, by decide⟩ (mv_noH hno _) (fun σ55 h55 => ?_)
      subst h55
      refine mv_iload_n (pc := 58) B d_Exprs_after_58 rfl 1 rfl ?_
      refine mv_bipush (pc := 59) (v := nI 63) B d_Exprs_after_59 (by decide) ?_
      refine mv_icmp_ne (pc := 61) (tgt := 70) B d_Exprs_after_61 rfl (fun h61 => ?_) (fun h61 => ?_)
      · skip
        have hf := x_eq_f h61 hf
        refine mv_aload_n (pc := 70) B d_Exprs_after_70 rfl 2 rfl ?_
        obtain ⟨h7, eh7, hf⟩ := xev_e hf
        refine mv_callVv (pc := 71) (n := 0) (ci := 6) (C := R_Exprs) B (mK_ok sk sv) hNs rfl rfl (cx_Exprs_endChoices l hi _ hb _ eh7) rfl (ma_goodc kc_Exprs_endChoices) (B.2.2.2.1 _ k_1497) (B.2.2.2.1 _ k_1499) (B.2.2.2.1 _ ks_59) (B.2.2.2.1 _ k_7) ⟨by decide +kernel, by decide +kernel, by decide +kernel⟩ rfl d_Exprs_after_71 rfl (Nat.le_of_ble_eq_true rfl) ⟨by decide, by decide⟩ ⟨by decide, by decide⟩ ⟨by decide, by decide⟩ (mv_noH hno _) (fun σ71 h71 => ?_)
        subst h71
        refine mv_aload_n (pc := 74) B d_Exprs_after_74 rfl 2 rfl ?_
        refine mv_getI (pc := 75) (ci := 6) (C := R_Exprs) (T := F_Exprs) (N := 11) B 8 rfl rfl (by decide) i_Exprs (B.2.2.2.1 _ k_202) rfl d_Exprs_after_75 ?_
        obtain ⟨v8, ev8, hf⟩ := xer_e hf
        refine mvn_top (xfi_22_8 ev8) ?_
        refine mv_if_ne (pc := 78) (tgt := 83) B d_Exprs_after_78 rfl (fun h78 => ?_) (fun h78 => ?_)
        · skip
          have hf := x_eq_f (y := 0) h78 hf
          refine mv_aload_n (pc := 83) B d_Exprs_after_83 rfl 2 rfl ?_
          refine mv_iload_n (pc := 84) B d_Exprs_after_84 rfl 1 rfl ?_
          obtain ⟨v10, h9, eh9, hf⟩ := xeb_e hf
          refine mv_callVi (pc := 85) (n := 1) (ci := 6) (C := R_Exprs) B (mK_ok sk sv) hNs rfl rfl (cx_Exprs_goOn l hi _ hb _ _ eh9) rfl (ma_goodc kc_Exprs_goOn) (B.2.2.2.1 _ k_1502) (B.2.2.2.1 _ k_1504) (B.2.2.2.1 _ ks_60) (B.2.2.2.1 _ k_7) ⟨by decide +kernel, by decide +kernel, by decide +kernel⟩ rfl d_Exprs_after_85 rfl (Nat.le_of_ble_eq_true rfl) ⟨by decide, by decide⟩ ⟨by decide, by decide⟩ ⟨by decide, by decide⟩ (mv_noH hno _) (fun w85 σ85 h85 => ?_)
          obtain ⟨rfl, rfl⟩ := h85
          exact mv_iret (pc := 88) B hr rfl d_Exprs_after_88 (Nat.le_refl _) (Nat.le_refl _) ⟨_, rfl, xret_i hf⟩
        · skip
          have hf := x_eq_t (y := 0) h78 hf
          refine mv_iconst (pc := 81) (v := nI 2) B d_Exprs_after_81 (by decide) ?_
          exact mv_iret (pc := 82) B hr rfl d_Exprs_after_82 (Nat.le_refl _) (Nat.le_refl _) ⟨_, rfl, xret_i hf⟩
      · skip
        have hf := x_eq_t h61 hf
        refine mv_aload_n (pc := 64) B d_Exprs_after_64 rfl 2 rfl ?_
        obtain ⟨h11, eh11, hf⟩ := xev_e hf
        refine mv_callVv (pc := 65) (n := 0) (ci := 6) (C := R_Exprs) B (mK_ok sk sv) hNs rfl rfl (cx_Exprs_choose l hi _ hb _ eh11) rfl (ma_goodc kc_Exprs_choose) (B.2.2.2.1 _ k_1493) (B.2.2.2.1 _ k_1495) (B.2.2.2.1 _ ks_58) (B.2.2.2.1 _ k_7) ⟨by decide +kernel, by decide +kernel, by decide +kernel⟩ rfl d_Exprs_after_65 rfl (Nat.le_of_ble_eq_true rfl) ⟨by decide, by decide⟩ ⟨by decide, by decide⟩ ⟨by decide, by decide⟩ (mv_noH hno _) (fun σ65 h65 => ?_)
        subst h65
        refine mv_iconst (pc := 68) (v := nI 0) B d_Exprs_after_68 (by decide) ?_
        exact mv_iret (pc := 69) B hr rfl d_Exprs_after_69 (Nat.le_refl _) (Nat.le_refl _) ⟨_, rfl, xret_i hf⟩
    · skip
      have hf := x_le_f (y := 0) h30 hf
      refine mv_aload_n (pc := 33) B d_Exprs_after_33 rfl 2 rfl ?_
      refine mv_iload_n (pc := 34) B d_Exprs_after_34 rfl 0 rfl ?_
      obtain ⟨h12, eh12, hf⟩ := xev_e hf
      refine mv_callVv (pc := 35) (n := 1) (ci := 6) (C := R_Exprs) B (mK_ok sk sv) hNs rfl rfl (cx_Exprs_endBinaries l hi _ hb _ _ eh12) rfl (ma_goodc kc_Exprs_endBinaries) (B.2.2.2.1 _ k_1485) (B.2.2.2.1 _ k_1487) (B.2.2.2.1 _ ks_56) (B.2.2.2.1 _ k_7) ⟨by decide +kernel, by decide +kernel, by decide +kernel⟩ rfl d_Exprs_after_35 rfl (Nat.le_of_ble_eq_true rfl) ⟨by decide, by decide⟩ ⟨by decide, by decide⟩ ⟨by decide, by decide⟩ (mv_noH hno _) (fun σ35 h35 => ?_)
      subst h35
      refine mv_aload_n (pc := 38) B d_Exprs_after_38 rfl 2 rfl ?_
      refine mv_iload_n (pc := 39) B d_Exprs_after_39 rfl 1 rfl ?_
      refine mv_aload_n (pc := 40) B d_Exprs_after_40 rfl 2 rfl ?_
      refine mv_getR (pc := 41) (ci := 6) (C := R_Exprs) (T := F_Exprs) (N := 11) B 0 rfl rfl (by decide) i_Exprs (B.2.2.2.1 _ k_193) rfl (hb.1.1 22 0 _ rfl) d_Exprs_after_41 ?_
      refine mv_iload_n (pc := 44) B d_Exprs_after_44 rfl 1 rfl ?_
      obtain ⟨v14, h13, eh13, hf⟩ := xeb_e hf
      refine mv_callVi (pc := 45) (n := 1) (ci := 2) (C := R_Tokens) B (mK_ok sk sv) hNs rfl rfl (cx_Tokens_take l hi _ hb _ _ eh13) rfl (ma_goodc kc_Tokens_take) (B.2.2.2.1 _ k_1424) (B.2.2.2.1 _ k_1267) (B.2.2.2.1 _ k_1268) (B.2.2.2.1 _ k_3) ⟨by decide +kernel, by decide +kernel, by decide +kernel⟩ rfl d_Exprs_after_45 rfl (Nat.le_of_ble_eq_true rfl) ⟨by decide, by decide⟩ ⟨by decide, by decide⟩ ⟨by decide, by decide⟩ (mv_noH hno _) (fun w45 σ45 h45 => ?_)
      obtain ⟨rfl, rfl⟩ := h45
      obtain ⟨h15, eh15, hf⟩ := xev_e hf
      refine mv_callVv (pc := 48) (n := 2) (ci := 6) (C := R_Exprs) B (mK_ok sk sv) hNs rfl rfl (cx_Exprs_mark l hi _ hb _ _ _ eh15) rfl (ma_goodc kc_Exprs_mark) (B.2.2.2.1 _ k_1416) (B.2.2.2.1 _ k_1418) (B.2.2.2.1 _ ks_48) (B.2.2.2.1 _ k_7) ⟨by decide +kernel, by decide +kernel, by decide +kernel⟩ rfl d_Exprs_after_48 rfl (Nat.le_of_ble_eq_true rfl) ⟨by decide, by decide⟩ ⟨by decide, by decide⟩ ⟨by decide, by decide⟩ (mv_noH hno _) (fun σ48 h48 => ?_)
      subst h48
      refine mv_iconst (pc := 51) (v := nI 0) B d_Exprs_after_51 (by decide) ?_
      exact mv_iret (pc := 52) B hr rfl d_Exprs_after_52 (Nat.le_refl _) (Nat.le_refl _) ⟨_, rfl, xret_i hf⟩
  · skip
    have hf := x_eq_t h11 hf
    refine mv_aload_n (pc := 14) B d_Exprs_after_14 rfl 1 rfl ?_
    obtain ⟨h16, eh16, hf⟩ := xev_e hf
    refine mv_callVv (pc := 15) (n := 0) (ci := 6) (C := R_Exprs) B (mK_ok sk sv) hNs rfl rfl (cx_Exprs_part l hi _ hb _ eh16) rfl (ma_goodc kc_Exprs_part) (B.2.2.2.1 _ k_1464) (B.2.2.2.1 _ k_1466) (B.2.2.2.1 _ ks_54) (B.2.2.2.1 _ k_7) ⟨by decide +kernel, by decide +kernel, by decide +kernel⟩ rfl d_Exprs_after_15 rfl (Nat.le_of_ble_eq_true rfl) ⟨by decide, by decide⟩ ⟨by decide, by decide⟩ ⟨by decide, by decide⟩ (mv_noH hno _) (fun σ15 h15 => ?_)
    subst h15
    refine mv_iconst (pc := 18) (v := nI 1) B d_Exprs_after_18 (by decide) ?_
    exact mv_iret (pc := 19) B hr rfl d_Exprs_after_19 (Nat.le_refl _) (Nat.le_refl _) ⟨_, rfl, xret_i hf⟩
