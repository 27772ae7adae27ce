/-! exact runs over abstract heaps: Exprs -/
def f_Exprs_levelOf_140 (hz : mv_H) : Option (Int32 × mv_H) := some ((8 : Int32), hz)
def f_Exprs_levelOf_137 (hz : mv_H) : Option (Int32 × mv_H) := some ((7 : Int32), hz)
def f_Exprs_levelOf_134 (hz : mv_H) : Option (Int32 × mv_H) := some ((6 : Int32), hz)
def f_Exprs_levelOf_132 (hz : mv_H) : Option (Int32 × mv_H) := some ((5 : Int32), hz)
def f_Exprs_levelOf_130 (hz : mv_H) : Option (Int32 × mv_H) := some ((4 : Int32), hz)
def f_Exprs_levelOf (h : mv_H) (a0 : Int32) : Option (Int32 × mv_H) := if (a0).toInt = 37 then (f_Exprs_levelOf_140  h) else (if (a0).toInt = 38 then (some ((3 : Int32), h)) else (if (a0).toInt = 42 then (f_Exprs_levelOf_140  h) else (if (a0).toInt = 43 then (f_Exprs_levelOf_137  h) else (if (a0).toInt = 45 then (f_Exprs_levelOf_137  h) else (if (a0).toInt = 47 then (f_Exprs_levelOf_140  h) else (if (a0).toInt = 60 then (f_Exprs_levelOf_132  h) else (if (a0).toInt = 94 then (some ((2 : Int32), h)) else (if (a0).toInt = 124 then (some ((1 : Int32), h)) else (if (a0).toInt = 128 then (f_Exprs_levelOf_130  h) else (if (a0).toInt = 129 then (f_Exprs_levelOf_130  h) else (if (a0).toInt = 130 then (f_Exprs_levelOf_132  h) else (if (a0).toInt = 131 then (f_Exprs_levelOf_134  h) else (if (a0).toInt = 132 then (f_Exprs_levelOf_134  h) else (some ((0 : Int32), h)))))))))))))))
set_option maxHeartbeats 4000000 in
set_option maxRecDepth 100000 in
theorem ch_Exprs_levelOf (l : Launch) {dA : FieldType → ClassId} {D : va_G} {al : Nat → Nat} {ext : mv_Sh} {sk sv : Nat → Nat} (hi : mv_inj (mg dA D al ext)) (h : mv_H)  (a0 : Int32) {rv : Int32} {rg : mv_H} (hf : f_Exprs_levelOf h a0 = some (rv, rg)) : mv_C l y_Exprs_levelOf (Cond.code y_Exprs_levelOf b_Exprs_levelOf 1 (Option.some Jvm.ClassFile.FieldType.int) :: ma) ({ frames := 0, cells := 0, slots := 0, locals := 0 }) (mg dA D al ext) (mK sk sv) [.int a0] h (mv_Ri (fun v σ1 => rv = v ∧ rg = σ1 ∧ mv_r σ1 = mv_r h)) := by
  refine mv_C.ofV (cc := b_Exprs_levelOf) (nL := 1) (ret := (Option.some Jvm.ClassFile.FieldType.int)) (by decide +kernel) rfl hi (Nat.le_of_ble_eq_true rfl) ?_
  intro p e s m below meth c B hNs hr hnm hno
  have jn140 : ∀ (hz : mv_H), mv_r hz = mv_r h → f_Exprs_levelOf_140  hz = some (rv, rg) → mv_V p l e ({ frames := 0, cells := 0, slots := 0, locals := 0 }) s m ([.int a0] : List Value).toArray below meth c (mg dA D al ext) 1 0 0 (mv_Q (mg dA D al ext) below s 0 0 (mv_Ri (fun v σ1 => rv = v ∧ rg = σ1 ∧ mv_r σ1 = mv_r h))) hz 140 [] [] := by
    intro  hz r_hz hf
    unfold f_Exprs_levelOf_140 at hf
    refine mv_bipush (pc := 140) (v := 8) B d_Exprs_levelOf_140 (by decide) ?_
    exact mv_iret (pc := 142) B hr rfl d_Exprs_levelOf_142 (Nat.le_refl _) (Nat.le_refl _) ⟨_, rfl, xrh_i hf r_hz⟩
  have jn137 : ∀ (hz : mv_H), mv_r hz = mv_r h → f_Exprs_levelOf_137  hz = some (rv, rg) → mv_V p l e ({ frames := 0, cells := 0, slots := 0, locals := 0 }) s m ([.int a0] : List Value).toArray below meth c (mg dA D al ext) 1 0 0 (mv_Q (mg dA D al ext) below s 0 0 (mv_Ri (fun v σ1 => rv = v ∧ rg = σ1 ∧ mv_r σ1 = mv_r h))) hz 137 [] [] := by
    intro  hz r_hz hf
    unfold f_Exprs_levelOf_137 at hf
    refine mv_bipush (pc := 137) (v := 7) B d_Exprs_levelOf_137 (by decide) ?_
    exact mv_iret (pc := 139) B hr rfl d_Exprs_levelOf_139 (Nat.le_refl _) (Nat.le_refl _) ⟨_, rfl, xrh_i hf r_hz⟩
  have jn134 : ∀ (hz : mv_H), mv_r hz = mv_r h → f_Exprs_levelOf_134  hz = some (rv, rg) → mv_V p l e ({ frames := 0, cells := 0, slots := 0, locals := 0 }) s m ([.int a0] : List Value).toArray below meth c (mg dA D al ext) 1 0 0 (mv_Q (mg dA D al ext) below s 0 0 (mv_Ri (fun v σ1 => rv = v ∧ rg = σ1 ∧ mv_r σ1 = mv_r h))) hz 134 [] [] := by
    intro  hz r_hz hf
    unfold f_Exprs_levelOf_134 at hf
    refine mv_bipush (pc := 134) (v := 6) B d_Exprs_levelOf_134 (by decide) ?_
    exact mv_iret (pc := 136) B hr rfl d_Exprs_levelOf_136 (Nat.le_refl _) (Nat.le_refl _) ⟨_, rfl, xrh_i hf r_hz⟩
  have jn132 : ∀ (hz : mv_H), mv_r hz = mv_r h → f_Exprs_levelOf_132  hz = some (rv, rg) → mv_V p l e ({ frames := 0, cells := 0, slots := 0, locals := 0 }) s m ([.int a0] : List Value).toArray below meth c (mg dA D al ext) 1 0 0 (mv_Q (mg dA D al ext) below s 0 0 (mv_Ri (fun v σ1 => rv = v ∧ rg = σ1 ∧ mv_r σ1 = mv_r h))) hz 132 [] [] := by
    intro  hz r_hz hf
    unfold f_Exprs_levelOf_132 at hf
    refine mv_iconst (pc := 132) (v := 5) B d_Exprs_levelOf_132 (by decide) ?_
    exact mv_iret (pc := 133) B hr rfl d_Exprs_levelOf_133 (Nat.le_refl _) (Nat.le_refl _) ⟨_, rfl, xrh_i hf r_hz⟩
  have jn130 : ∀ (hz : mv_H), mv_r hz = mv_r h → f_Exprs_levelOf_130  hz = some (rv, rg) → mv_V p l e ({ frames := 0, cells := 0, slots := 0, locals := 0 }) s m ([.int a0] : List Value).toArray below meth c (mg dA D al ext) 1 0 0 (mv_Q (mg dA D al ext) below s 0 0 (mv_Ri (fun v σ1 => rv = v ∧ rg = σ1 ∧ mv_r σ1 = mv_r h))) hz 130 [] [] := by
    intro  hz r_hz hf
    unfold f_Exprs_levelOf_130 at hf
    refine mv_iconst (pc := 130) (v := 4) B d_Exprs_levelOf_130 (by decide) ?_
    exact mv_iret (pc := 131) B hr rfl d_Exprs_levelOf_131 (Nat.le_refl _) (Nat.le_refl _) ⟨_, rfl, xrh_i hf r_hz⟩
  unfold f_Exprs_levelOf at hf
  refine mv_iload_n (pc := 0) B d_Exprs_levelOf_0 rfl 0 rfl ?_
  refine mv_lsw (pc := 1) B d_Exprs_levelOf_1 (by decide) (by decide) ?_
  refine ⟨fun h1 => ?_, fun h1n37 => ?_⟩
  · skip
    have hf := xif_t h1 hf
    show mv_V _ _ _ _ _ _ _ _ _ _ _ _ _ _ _ _ 140 _ _
    refine mv_lpick [] rfl ?_
    exact jn140  _ rfl hf
  have hf := xif_f h1n37 hf
  refine ⟨fun h1 => ?_, fun h1n38 => ?_⟩
  · skip
    have hf := xif_t h1 hf
    show mv_V _ _ _ _ _ _ _ _ _ _ _ _ _ _ _ _ 128 _ _
    refine mv_iconst (pc := 128) (v := 3) B d_Exprs_levelOf_128 (by decide) ?_
    exact mv_iret (pc := 129) B hr rfl d_Exprs_levelOf_129 (Nat.le_refl _) (Nat.le_refl _) ⟨_, rfl, xrh_i hf rfl⟩
  have hf := xif_f h1n38 hf
  refine ⟨fun h1 => ?_, fun h1n42 => ?_⟩
  · skip
    have hf := xif_t h1 hf
    show mv_V _ _ _ _ _ _ _ _ _ _ _ _ _ _ _ _ 140 _ _
    refine mv_lpick [] rfl ?_
    exact jn140  _ rfl hf
  have hf := xif_f h1n42 hf
  refine ⟨fun h1 => ?_, fun h1n43 => ?_⟩
  · skip
    have hf := xif_t h1 hf
    show mv_V _ _ _ _ _ _ _ _ _ _ _ _ _ _ _ _ 137 _ _
    refine mv_lpick [] rfl ?_
    exact jn137  _ rfl hf
  have hf := xif_f h1n43 hf
  refine ⟨fun h1 => ?_, fun h1n45 => ?_⟩
  · skip
    have hf := xif_t h1 hf
    show mv_V _ _ _ _ _ _ _ _ _ _ _ _ _ _ _ _ 137 _ _
    refine mv_lpick [] rfl ?_
    exact jn137  _ rfl hf
  have hf := xif_f h1n45 hf
  refine ⟨fun h1 => ?_, fun h1n47 => ?_⟩
  · skip
    have hf := xif_t h1 hf
    show mv_V _ _ _ _ _ _ _ _ _ _ _ _ _ _ _ _ 140 _ _
    refine mv_lpick [] rfl ?_
    exact jn140  _ rfl hf
  have hf := xif_f h1n47 hf
  refine ⟨fun h1 => ?_, fun h1n60 => ?_⟩
  · skip
    have hf := xif_t h1 hf
    show mv_V _ _ _ _ _ _ _ _ _ _ _ _ _ _ _ _ 132 _ _
    refine mv_lpick [] rfl ?_
    exact jn132  _ rfl hf
  have hf := xif_f h1n60 hf
  refine ⟨fun h1 => ?_, fun h1n94 => ?_⟩
  · skip
    have hf := xif_t h1 hf
    show mv_V _ _ _ _ _ _ _ _ _ _ _ _ _ _ _ _ 126 _ _
    refine mv_iconst (pc := 126) (v := 2) B d_Exprs_levelOf_126 (by decide) ?_
    exact mv_iret (pc := 127) B hr rfl d_Exprs_levelOf_127 (Nat.le_refl _) (Nat.le_refl _) ⟨_, rfl, xrh_i hf rfl⟩
  have hf := xif_f h1n94 hf
  refine ⟨fun h1 => ?_, fun h1n124 => ?_⟩
  · skip
    have hf := xif_t h1 hf
    show mv_V _ _ _ _ _ _ _ _ _ _ _ _ _ _ _ _ 124 _ _
    refine mv_iconst (pc := 124) (v := 1) B d_Exprs_levelOf_124 (by decide) ?_
    exact mv_iret (pc := 125) B hr rfl d_Exprs_levelOf_125 (Nat.le_refl _) (Nat.le_refl _) ⟨_, rfl, xrh_i hf rfl⟩
  have hf := xif_f h1n124 hf
  refine ⟨fun h1 => ?_, fun h1n128 => ?_⟩
  · skip
    have hf := xif_t h1 hf
    show mv_V _ _ _ _ _ _ _ _ _ _ _ _ _ _ _ _ 130 _ _
    refine mv_lpick [] rfl ?_
    exact jn130  _ rfl hf
  have hf := xif_f h1n128 hf
  refine ⟨fun h1 => ?_, fun h1n129 => ?_⟩
  · skip
    have hf := xif_t h1 hf
    show mv_V _ _ _ _ _ _ _ _ _ _ _ _ _ _ _ _ 130 _ _
    refine mv_lpick [] rfl ?_
    exact jn130  _ rfl hf
  have hf := xif_f h1n129 hf
  refine ⟨fun h1 => ?_, fun h1n130 => ?_⟩
  · skip
    have hf := xif_t h1 hf
    show mv_V _ _ _ _ _ _ _ _ _ _ _ _ _ _ _ _ 132 _ _
    refine mv_lpick [] rfl ?_
    exact jn132  _ rfl hf
  have hf := xif_f h1n130 hf
  refine ⟨fun h1 => ?_, fun h1n131 => ?_⟩
  · skip
    have hf := xif_t h1 hf
    show mv_V _ _ _ _ _ _ _ _ _ _ _ _ _ _ _ _ 134 _ _
    refine mv_lpick [] rfl ?_
    exact jn134  _ rfl hf
  have hf := xif_f h1n131 hf
  refine ⟨fun h1 => ?_, fun h1n132 => ?_⟩
  · skip
    have hf := xif_t h1 hf
    show mv_V _ _ _ _ _ _ _ _ _ _ _ _ _ _ _ _ 134 _ _
    refine mv_lpick [] rfl ?_
    exact jn134  _ rfl hf
  have hf := xif_f h1n132 hf
  show mv_V _ _ _ _ _ _ _ _ _ _ _ _ _ _ _ _ 143 _ _
  refine mv_iconst (pc := 143) (v := 0) B d_Exprs_levelOf_143 (by decide) ?_
  exact mv_iret (pc := 144) B hr rfl d_Exprs_levelOf_144 (Nat.le_refl _) (Nat.le_refl _) ⟨_, rfl, xrh_i hf rfl⟩
def f_Exprs_begin (h : mv_H) : Option mv_H := xk (mv_si h 22 8 (0 : Int32)) fun g1 => xk (mv_si g1 22 10 (0 : Int32)) fun g2 => some g2
set_option maxHeartbeats 4000000 in
set_option maxRecDepth 100000 in
theorem ch_Exprs_begin (l : Launch) {dA : FieldType → ClassId} {D : va_G} {al : Nat → Nat} {ext : mv_Sh} {sk sv : Nat → Nat} (hi : mv_inj (mg dA D al ext)) (h : mv_H)  {rg : mv_H} (hf : f_Exprs_begin h = some rg) : mv_C l y_Exprs_begin (Cond.code y_Exprs_begin b_Exprs_begin 1 (Option.none : Option Jvm.ClassFile.FieldType) :: ma) ({ frames := 0, cells := 0, slots := 0, locals := 0 }) (mg dA D al ext) (mK sk sv) [.ref (al 22)] h (mv_Rv (fun σ1 => rg = σ1 ∧ mv_r σ1 = mv_r h)) := by
  refine mv_C.ofV (cc := b_Exprs_begin) (nL := 1) (ret := (Option.none : Option Jvm.ClassFile.FieldType)) (by decide +kernel) rfl hi (Nat.le_of_ble_eq_true rfl) ?_
  intro p e s m below meth c B hNs hr hnm hno
  unfold f_Exprs_begin at hf
  refine mv_aload_n (pc := 0) B d_Exprs_begin_0 rfl 0 rfl ?_
  refine mv_iconst (pc := 1) (v := 0) B d_Exprs_begin_1 (by decide) ?_
  refine mv_putI (pc := 2) (ci := 6) (C := R_Exprs) (T := F_Exprs) (N := 11) B 8 rfl rfl (by decide) i_Exprs t_Exprs_ok n_Exprs (B.2.2.2.1 _ k_202) rfl rfl rfl rfl d_Exprs_begin_2 ?_
  refine mvh_hp (R9 := mv_r h) hf rfl (fun g1 hf r_g1 => ?_)
  refine mv_aload_n (pc := 5) B d_Exprs_begin_5 rfl 0 rfl ?_
  refine mv_iconst (pc := 6) (v := 0) B d_Exprs_begin_6 (by decide) ?_
  refine mv_putI (pc := 7) (ci := 6) (C := R_Exprs) (T := F_Exprs) (N := 11) B 10 rfl rfl (by decide) i_Exprs t_Exprs_ok n_Exprs (B.2.2.2.1 _ k_204) rfl rfl rfl rfl d_Exprs_begin_7 ?_
  refine mvh_hp (R9 := mv_r h) hf r_g1 (fun g2 hf r_g2 => ?_)
  exact mv_vret (pc := 10) B hr d_Exprs_begin_10 (Nat.le_refl _) (Nat.le_refl _) ⟨rfl, xrh_v hf r_g2⟩
def f_Exprs_mark (h : mv_H) (a0 : Int32) (a1 : Int32) : Option mv_H := bif xvi (mv_i h 22 8) 1024 then xk (mv_sa h 23 ((mv_i h 22 8)).toNatClampNeg a0) fun g2 => bif xvi (mv_i g2 22 8) 1024 then xk (mv_sa g2 24 ((mv_i g2 22 8)).toNatClampNeg a1) fun g4 => bif xvi (mv_i g4 22 8) 1024 then xk (mv_sa g4 25 ((mv_i g4 22 8)).toNatClampNeg (0 : Int32)) fun g6 => xk (mv_si g6 22 8 ((mv_i g6 22 8) + (1 : Int32))) fun g7 => some g7 else none else none else none
set_option maxHeartbeats 4000000 in
set_option maxRecDepth 100000 in
theorem ch_Exprs_mark (l : Launch) {dA : FieldType → ClassId} {D : va_G} {al : Nat → Nat} {ext : mv_Sh} {sk sv : Nat → Nat} (hi : mv_inj (mg dA D al ext)) (h : mv_H) (hb : xRT (mv_r h))  (a0 : Int32) (a1 : Int32) {rg : mv_H} (hf : f_Exprs_mark h a0 a1 = some rg) : mv_C l y_Exprs_mark (Cond.code y_Exprs_mark b_Exprs_mark 3 (Option.none : Option Jvm.ClassFile.FieldType) :: ma) ({ frames := 0, cells := 0, slots := 0, locals := 0 }) (mg dA D al ext) (mK sk sv) [.ref (al 22), .int a0, .int a1] h (mv_Rv (fun σ1 => rg = σ1 ∧ mv_r σ1 = mv_r h)) := by
  refine mv_C.ofV (cc := b_Exprs_mark) (nL := 3) (ret := (Option.none : Option Jvm.ClassFile.FieldType)) (by decide +kernel) rfl hi (Nat.le_of_ble_eq_true rfl) ?_
  intro p e s m below meth c B hNs hr hnm hno
  unfold f_Exprs_mark at hf
  refine mv_aload_n (pc := 0) B d_Exprs_mark_0 rfl 0 rfl ?_
  refine mv_getR (pc := 1) (ci := 6) (C := R_Exprs) (T := F_Exprs) (N := 11) B 4 rfl rfl (by decide) i_Exprs (B.2.2.2.1 _ k_198) rfl (hb.1 22 4 _ rfl) d_Exprs_mark_1 ?_
  refine mv_aload_n (pc := 4) B d_Exprs_mark_4 rfl 0 rfl ?_
  refine mv_getI (pc := 5) (ci := 6) (C := R_Exprs) (T := F_Exprs) (N := 11) B 8 rfl rfl (by decide) i_Exprs (B.2.2.2.1 _ k_202) rfl d_Exprs_mark_5 ?_
  refine mv_iload_n (pc := 8) B d_Exprs_mark_8 rfl 1 rfl ?_
  obtain ⟨q1, hf⟩ := xvi_e hf
  refine mv_iast (pc := 9) B rfl q1 d_Exprs_mark_9 ?_
  refine mvh_hp (R9 := mv_r h) hf rfl (fun g2 hf r_g2 => ?_)
  refine mv_aload_n (pc := 10) B d_Exprs_mark_10 rfl 0 rfl ?_
  refine mv_getR (pc := 11) (ci := 6) (C := R_Exprs) (T := F_Exprs) (N := 11) B 5 rfl rfl (by decide) i_Exprs (B.2.2.2.1 _ k_199) rfl ((congrFun (congrFun r_g2 22) 5).trans (hb.1 22 5 _ rfl)) d_Exprs_mark_11 ?_
  refine mv_aload_n (pc := 14) B d_Exprs_mark_14 rfl 0 rfl ?_
  refine mv_getI (pc := 15) (ci := 6) (C := R_Exprs) (T := F_Exprs) (N := 11) B 8 rfl rfl (by decide) i_Exprs (B.2.2.2.1 _ k_202) rfl d_Exprs_mark_15 ?_
  refine mv_iload_n (pc := 18) B d_Exprs_mark_18 rfl 2 rfl ?_
  obtain ⟨q3, hf⟩ := xvi_e hf
  refine mv_iast (pc := 19) B rfl q3 d_Exprs_mark_19 ?_
  refine mvh_hp (R9 := mv_r h) hf r_g2 (fun g4 hf r_g4 => ?_)
  refine mv_aload_n (pc := 20) B d_Exprs_mark_20 rfl 0 rfl ?_
  refine mv_getR (pc := 21) (ci := 6) (C := R_Exprs) (T := F_Exprs) (N := 11) B 6 rfl rfl (by decide) i_Exprs (B.2.2.2.1 _ k_200) rfl ((congrFun (congrFun r_g4 22) 6).trans (hb.1 22 6 _ rfl)) d_Exprs_mark_21 ?_
  refine mv_aload_n (pc := 24) B d_Exprs_mark_24 rfl 0 rfl ?_
  refine mv_getI (pc := 25) (ci := 6) (C := R_Exprs) (T := F_Exprs) (N := 11) B 8 rfl rfl (by decide) i_Exprs (B.2.2.2.1 _ k_202) rfl d_Exprs_mark_25 ?_
  refine mv_iconst (pc := 28) (v := 0) B d_Exprs_mark_28 (by decide) ?_
  obtain ⟨q5, hf⟩ := xvi_e hf
  refine mv_iast (pc := 29) B rfl q5 d_Exprs_mark_29 ?_
  refine mvh_hp (R9 := mv_r h) hf r_g4 (fun g6 hf r_g6 => ?_)
  refine mv_aload_n (pc := 30) B d_Exprs_mark_30 rfl 0 rfl ?_
  refine mv_dup (pc := 31) B d_Exprs_mark_31 rfl ?_
  refine mv_getI (pc := 32) (ci := 6) (C := R_Exprs) (T := F_Exprs) (N := 11) B 8 rfl rfl (by decide) i_Exprs (B.2.2.2.1 _ k_202) rfl d_Exprs_mark_32 ?_
  refine mv_iconst (pc := 35) (v := 1) B d_Exprs_mark_35 (by decide) ?_
  refine mv_iadd (pc := 36) B d_Exprs_mark_36 ?_
  refine mv_putI (pc := 37) (ci := 6) (C := R_Exprs) (T := F_Exprs) (N := 11) B 8 rfl rfl (by decide) i_Exprs t_Exprs_ok n_Exprs (B.2.2.2.1 _ k_202) rfl rfl rfl rfl d_Exprs_mark_37 ?_
  refine mvh_hp (R9 := mv_r h) hf r_g6 (fun g7 hf r_g7 => ?_)
  exact mv_vret (pc := 40) B hr d_Exprs_mark_40 (Nat.le_refl _) (Nat.le_refl _) ⟨rfl, xrh_v hf r_g7⟩
def f_Exprs_hold (h : mv_H) (a0 : Int32) : Option mv_H := bif xvi (mv_i h 22 10) 1024 then xk (mv_sa h 27 ((mv_i h 22 10)).toNatClampNeg a0) fun g2 => xk (mv_si g2 22 10 ((mv_i g2 22 10) + (1 : Int32))) fun g3 => some g3 else none
set_option maxHeartbeats 4000000 in
set_option maxRecDepth 100000 in
theorem ch_Exprs_hold (l : Launch) {dA : FieldType → ClassId} {D : va_G} {al : Nat → Nat} {ext : mv_Sh} {sk sv : Nat → Nat} (hi : mv_inj (mg dA D al ext)) (h : mv_H) (hb : xRT (mv_r h))  (a0 : Int32) {rg : mv_H} (hf : f_Exprs_hold h a0 = some rg) : mv_C l y_Exprs_hold (Cond.code y_Exprs_hold b_Exprs_hold 2 (Option.none : Option Jvm.ClassFile.FieldType) :: ma) ({ frames := 0, cells := 0, slots := 0, locals := 0 }) (mg dA D al ext) (mK sk sv) [.ref (al 22), .int a0] h (mv_Rv (fun σ1 => rg = σ1 ∧ mv_r σ1 = mv_r h)) := by
  refine mv_C.ofV (cc := b_Exprs_hold) (nL := 2) (ret := (Option.none : Option Jvm.ClassFile.FieldType)) (by decide +kernel) rfl hi (Nat.le_of_ble_eq_true rfl) ?_
  intro p e s m below meth c B hNs hr hnm hno
  unfold f_Exprs_hold at hf
  refine mv_aload_n (pc := 0) B d_Exprs_hold_0 rfl 0 rfl ?_
  refine mv_getR (pc := 1) (ci := 6) (C := R_Exprs) (T := F_Exprs) (N := 11) B 9 rfl rfl (by decide) i_Exprs (B.2.2.2.1 _ k_203) rfl (hb.1 22 9 _ rfl) d_Exprs_hold_1 ?_
  refine mv_aload_n (pc := 4) B d_Exprs_hold_4 rfl 0 rfl ?_
  refine mv_getI (pc := 5) (ci := 6) (C := R_Exprs) (T := F_Exprs) (N := 11) B 10 rfl rfl (by decide) i_Exprs (B.2.2.2.1 _ k_204) rfl d_Exprs_hold_5 ?_
  refine mv_iload_n (pc := 8) B d_Exprs_hold_8 rfl 1 rfl ?_
  obtain ⟨q1, hf⟩ := xvi_e hf
  refine mv_iast (pc := 9) B rfl q1 d_Exprs_hold_9 ?_
  refine mvh_hp (R9 := mv_r h) hf rfl (fun g2 hf r_g2 => ?_)
  refine mv_aload_n (pc := 10) B d_Exprs_hold_10 rfl 0 rfl ?_
  refine mv_dup (pc := 11) B d_Exprs_hold_11 rfl ?_
  refine mv_getI (pc := 12) (ci := 6) (C := R_Exprs) (T := F_Exprs) (N := 11) B 10 rfl rfl (by decide) i_Exprs (B.2.2.2.1 _ k_204) rfl d_Exprs_hold_12 ?_
  refine mv_iconst (pc := 15) (v := 1) B d_Exprs_hold_15 (by decide) ?_
  refine mv_iadd (pc := 16) B d_Exprs_hold_16 ?_
  refine mv_putI (pc := 17) (ci := 6) (C := R_Exprs) (T := F_Exprs) (N := 11) B 10 rfl rfl (by decide) i_Exprs t_Exprs_ok n_Exprs (B.2.2.2.1 _ k_204) rfl rfl rfl rfl d_Exprs_hold_17 ?_
  refine mvh_hp (R9 := mv_r h) hf r_g2 (fun g3 hf r_g3 => ?_)
  exact mv_vret (pc := 20) B hr d_Exprs_hold_20 (Nat.le_refl _) (Nat.le_refl _) ⟨rfl, xrh_v hf r_g3⟩
def f_Exprs_release (h : mv_H) : Option (Int32 × mv_H) := xk (mv_si h 22 10 ((mv_i h 22 10) - (1 : Int32))) fun g1 => bif xvi (mv_i g1 22 10) 1024 then some ((mv_a g1 27 ((mv_i g1 22 10)).toNatClampNeg), g1) else none
set_option maxHeartbeats 4000000 in
set_option maxRecDepth 100000 in
theorem ch_Exprs_release (l : Launch) {dA : FieldType → ClassId} {D : va_G} {al : Nat → Nat} {ext : mv_Sh} {sk sv : Nat → Nat} (hi : mv_inj (mg dA D al ext)) (h : mv_H) (hb : xRT (mv_r h))  {rv : Int32} {rg : mv_H} (hf : f_Exprs_release h = some (rv, rg)) : mv_C l y_Exprs_release (Cond.code y_Exprs_release b_Exprs_release 1 (Option.some Jvm.ClassFile.FieldType.int) :: ma) ({ frames := 0, cells := 0, slots := 0, locals := 0 }) (mg dA D al ext) (mK sk sv) [.ref (al 22)] h (mv_Ri (fun v σ1 => rv = v ∧ rg = σ1 ∧ mv_r σ1 = mv_r h)) := by
  refine mv_C.ofV (cc := b_Exprs_release) (nL := 1) (ret := (Option.some Jvm.ClassFile.FieldType.int)) (by decide +kernel) rfl hi (Nat.le_of_ble_eq_true rfl) ?_
  intro p e s m below meth c B hNs hr hnm hno
  unfold f_Exprs_release at hf
  refine mv_aload_n (pc := 0) B d_Exprs_release_0 rfl 0 rfl ?_
  refine mv_dup (pc := 1) B d_Exprs_release_1 rfl ?_
  refine mv_getI (pc := 2) (ci := 6) (C := R_Exprs) (T := F_Exprs) (N := 11) B 10 rfl rfl (by decide) i_Exprs (B.2.2.2.1 _ k_204) rfl d_Exprs_release_2 ?_
  refine mv_iconst (pc := 5) (v := 1) B d_Exprs_release_5 (by decide) ?_
  refine mv_isub (pc := 6) B d_Exprs_release_6 ?_
  refine mv_putI (pc := 7) (ci := 6) (C := R_Exprs) (T := F_Exprs) (N := 11) B 10 rfl rfl (by decide) i_Exprs t_Exprs_ok n_Exprs (B.2.2.2.1 _ k_204) rfl rfl rfl rfl d_Exprs_release_7 ?_
  refine mvh_hp (R9 := mv_r h) hf rfl (fun g1 hf r_g1 => ?_)
  refine mv_aload_n (pc := 10) B d_Exprs_release_10 rfl 0 rfl ?_
  refine mv_getR (pc := 11) (ci := 6) (C := R_Exprs) (T := F_Exprs) (N := 11) B 9 rfl rfl (by decide) i_Exprs (B.2.2.2.1 _ k_203) rfl ((congrFun (congrFun r_g1 22) 9).trans (hb.1 22 9 _ rfl)) d_Exprs_release_11 ?_
  refine mv_aload_n (pc := 14) B d_Exprs_release_14 rfl 0 rfl ?_
  refine mv_getI (pc := 15) (ci := 6) (C := R_Exprs) (T := F_Exprs) (N := 11) B 10 rfl rfl (by decide) i_Exprs (B.2.2.2.1 _ k_204) rfl d_Exprs_release_15 ?_
  obtain ⟨q2, hf⟩ := xvi_e hf
  refine mv_iald (pc := 18) B rfl q2 d_Exprs_release_18 ?_
  exact mv_iret (pc := 19) B hr rfl d_Exprs_release_19 (Nat.le_refl _) (Nat.le_refl _) ⟨_, rfl, xrh_i hf r_g1⟩
def f_Exprs_tell (h : mv_H) (a0 : Int32) (a1 : Int32) : Option mv_H := bif xvi a0 32770 then xhv (f_Faults_tell h (mv_a h 5 (a0).toNatClampNeg) a1) fun g2 => some g2 else none
set_option maxHeartbeats 4000000 in
set_option maxRecDepth 100000 in
theorem ch_Exprs_tell (l : Launch) {dA : FieldType → ClassId} {D : va_G} {al : Nat → Nat} {ext : mv_Sh} {sk sv : Nat → Nat} (hi : mv_inj (mg dA D al ext)) (h : mv_H) (hb : xRT (mv_r h))  (a0 : Int32) (a1 : Int32) {rg : mv_H} (hf : f_Exprs_tell h a0 a1 = some rg) : mv_C l y_Exprs_tell (Cond.code y_Exprs_tell b_Exprs_tell 3 (Option.none : Option Jvm.ClassFile.FieldType) :: ma) ({ frames := 1, cells := 0, slots := 0, locals := 22 }) (mg dA D al ext) (mK sk sv) [.ref (al 22), .int a0, .int a1] h (mv_Rv (fun σ1 => rg = σ1 ∧ mv_r σ1 = mv_r h)) := by
  refine mv_C.ofV (cc := b_Exprs_tell) (nL := 3) (ret := (Option.none : Option Jvm.ClassFile.FieldType)) (by decide +kernel) rfl hi (Nat.le_of_ble_eq_true rfl) ?_
  intro p e s m below meth c B hNs hr hnm hno
  unfold f_Exprs_tell at hf
  refine mv_aload_n (pc := 0) B d_Exprs_tell_0 rfl 0 rfl ?_
  refine mv_getR (pc := 1) (ci := 6) (C := R_Exprs) (T := F_Exprs) (N := 11) B 2 rfl rfl (by decide) i_Exprs (B.2.2.2.1 _ k_195) rfl (hb.1 22 2 _ rfl) d_Exprs_tell_1 ?_
  refine mv_aload_n (pc := 4) B d_Exprs_tell_4 rfl 0 rfl ?_
  refine mv_getR (pc := 5) (ci := 6) (C := R_Exprs) (T := F_Exprs) (N := 11) B 0 rfl rfl (by decide) i_Exprs (B.2.2.2.1 _ k_193) rfl (hb.1 22 0 _ rfl) d_Exprs_tell_5 ?_
  refine mv_getR (pc := 8) (ci := 2) (C := R_Tokens) (T := F_Tokens) (N := 10) B 1 rfl rfl (by decide) i_Tokens (B.2.2.2.1 _ k_92) rfl (hb.1 3 1 _ rfl) d_Exprs_tell_8 ?_
  refine mv_iload_n (pc := 11) B d_Exprs_tell_11 rfl 1 rfl ?_
  obtain ⟨q1, hf⟩ := xvi_e hf
  refine mv_iald (pc := 12) B rfl q1 d_Exprs_tell_12 ?_
  refine mv_iload_n (pc := 13) B d_Exprs_tell_13 rfl 2 rfl ?_
  obtain ⟨g2, eg2, hf⟩ := xhv_e hf
  refine mv_callVv (pc := 14) (n := 2) (ci := 5) (C := R_Faults) B (mK_ok sk sv) hNs rfl rfl (ch_Faults_tell l hi _ _ _ eg2) rfl (ma_goodc kc_Faults_tell) (B.2.2.2.1 _ k_1431) (B.2.2.2.1 _ k_1287) (B.2.2.2.1 _ k_1288) (B.2.2.2.1 _ k_6) ⟨by decide +kernel, by decide +kernel, by decide +kernel⟩ rfl d_Exprs_tell_14 rfl (Nat.le_of_ble_eq_true rfl) ⟨by decide, by decide⟩ ⟨by decide, by decide⟩ ⟨by decide, by decide⟩ (mv_noH hno _) (fun σ14 h14 => ?_)
  obtain ⟨rfl, s_g2⟩ := h14
  have r_g2 : mv_r g2 = mv_r h := s_g2.trans rfl
  exact mv_vret (pc := 17) B hr d_Exprs_tell_17 (Nat.le_refl _) (Nat.le_refl _) ⟨rfl, xrh_v hf r_g2⟩
def f_Exprs_call_14 (hz : mv_H) : Option mv_H := xhv (f_Tokens_wrong hz) fun g1 => some g1
def f_Exprs_call (h : mv_H) (a0 : Int32) : Option mv_H := if a0 < (211 : Int32) then (f_Exprs_call_14  h) else (if a0 ≤ (216 : Int32) then (xhb (f_Tokens_take h a0) fun v3 g2 => xhv (f_Exprs_mark g2 a0 v3) fun g4 => xhb (f_Tokens_open g4 (40 : Int32)) fun v6 g5 => some g5) else (f_Exprs_call_14  h))
set_option maxHeartbeats 4000000 in
set_option maxRecDepth 100000 in
theorem ch_Exprs_call (l : Launch) {dA : FieldType → ClassId} {D : va_G} {al : Nat → Nat} {ext : mv_Sh} {sk sv : Nat → Nat} (hi : mv_inj (mg dA D al ext)) (h : mv_H) (hb : xRT (mv_r h))  (a0 : Int32) {rg : mv_H} (hf : f_Exprs_call h a0 = some rg) : mv_C l y_Exprs_call (Cond.code y_Exprs_call b_Exprs_call 2 (Option.none : Option Jvm.ClassFile.FieldType) :: ma) ({ frames := 3, cells := 0, slots := 0, locals := 63 }) (mg dA D al ext) (mK sk sv) [.ref (al 22), .int a0] h (mv_Rv (fun σ1 => rg = σ1 ∧ mv_r σ1 = mv_r h)) := by
  refine mv_C.ofV (cc := b_Exprs_call) (nL := 2) (ret := (Option.none : Option Jvm.ClassFile.FieldType)) (by decide +kernel) rfl hi (Nat.le_of_ble_eq_true rfl) ?_
  intro p e s m below meth c B hNs hr hnm hno
  have jn14 : ∀ (hz : mv_H), mv_r hz = mv_r h → f_Exprs_call_14  hz = some rg → mv_V p l e ({ frames := 3, cells := 0, slots := 0, locals := 63 }) s m ([.ref (al 22), .int a0] : List Value).toArray below meth c (mg dA D al ext) 2 0 0 (mv_Q (mg dA D al ext) below s 0 0 (mv_Rv (fun σ1 => rg = σ1 ∧ mv_r σ1 = mv_r h))) hz 14 [(0, .ref (al 22))] [] := by
    intro  hz r_hz hf
    unfold f_Exprs_call_14 at hf
    refine mv_aload_n (pc := 14) B d_Exprs_call_14 rfl 0 rfl ?_
    refine mv_getR (pc := 15) (ci := 6) (C := R_Exprs) (T := F_Exprs) (N := 11) B 0 rfl rfl (by decide) i_Exprs (B.2.2.2.1 _ k_193) rfl ((congrFun (congrFun r_hz 22) 0).trans (hb.1 22 0 _ rfl)) d_Exprs_call_15 ?_
    obtain ⟨g1, eg1, hf⟩ := xhv_e hf
    refine mv_callVv (pc := 18) (n := 0) (ci := 2) (C := R_Tokens) B (mK_ok sk sv) hNs rfl rfl (ch_Tokens_wrong l hi _ (xrw r_hz hb) eg1) rfl (ma_goodc kc_Tokens_wrong) (B.2.2.2.1 _ k_1459) (B.2.2.2.1 _ k_1275) (B.2.2.2.1 _ k_1276) (B.2.2.2.1 _ k_3) ⟨by decide +kernel, by decide +kernel, by decide +kernel⟩ rfl d_Exprs_call_18 rfl (Nat.le_of_ble_eq_true rfl) ⟨by decide, by decide⟩ ⟨by decide, by decide⟩ ⟨by decide, by decide⟩ (mv_noH hno _) (fun σ18 h18 => ?_)
    obtain ⟨rfl, s_g1⟩ := h18
    have r_g1 : mv_r g1 = mv_r h := s_g1.trans r_hz
    exact mv_vret (pc := 21) B hr d_Exprs_call_21 (Nat.le_refl _) (Nat.le_refl _) ⟨rfl, xrh_v hf r_g1⟩
  unfold f_Exprs_call at hf
  refine mv_iload_n (pc := 0) B d_Exprs_call_0 rfl 1 rfl ?_
  refine mv_sipush (pc := 1) (v := 211) B d_Exprs_call_1 (by decide) ?_
  refine mv_icmp_lt (pc := 4) (tgt := 14) B d_Exprs_call_4 rfl (fun h4 => ?_) (fun h4 => ?_)
  · skip
    have hf := xif_t h4 hf
    refine mv_lpick [0] rfl ?_
    exact jn14  _ rfl hf
  · skip
    have hf := xif_f h4 hf
    refine mv_iload_n (pc := 7) B d_Exprs_call_7 rfl 1 rfl ?_
    refine mv_sipush (pc := 8) (v := 216) B d_Exprs_call_8 (by decide) ?_
    refine mv_icmp_le (pc := 11) (tgt := 22) B d_Exprs_call_11 rfl (fun h11 => ?_) (fun h11 => ?_)
    · skip
      have hf := xif_t h11 hf
      refine mv_aload_n (pc := 22) B d_Exprs_call_22 rfl 0 rfl ?_
      refine mv_iload_n (pc := 23) B d_Exprs_call_23 rfl 1 rfl ?_
      refine mv_aload_n (pc := 24) B d_Exprs_call_24 rfl 0 rfl ?_
      refine mv_getR (pc := 25) (ci := 6) (C := R_Exprs) (T := F_Exprs) (N := 11) B 0 rfl rfl (by decide) i_Exprs (B.2.2.2.1 _ k_193) rfl (hb.1 22 0 _ rfl) d_Exprs_call_25 ?_
      refine mv_iload_n (pc := 28) B d_Exprs_call_28 rfl 1 rfl ?_
      obtain ⟨v3, g2, eg2, hf⟩ := xhb_e hf
      refine mv_callVi (pc := 29) (n := 1) (ci := 2) (C := R_Tokens) B (mK_ok sk sv) hNs rfl rfl (ch_Tokens_take l hi _ (hb) _ eg2) rfl (ma_goodc kc_Tokens_take) (B.2.2.2.1 _ k_1424) (B.2.2.2.1 _ k_1267) (B.2.2.2.1 _ k_1268) (B.2.2.2.1 _ k_3) ⟨by decide +kernel, by decide +kernel, by decide +kernel⟩ rfl d_Exprs_call_29 rfl (Nat.le_of_ble_eq_true rfl) ⟨by decide, by decide⟩ ⟨by decide, by decide⟩ ⟨by decide, by decide⟩ (mv_noH hno _) (fun w29 σ29 h29 => ?_)
      obtain ⟨rfl, rfl, s_g2⟩ := h29
      have r_g2 : mv_r g2 = mv_r h := s_g2.trans rfl
      obtain ⟨g4, eg4, hf⟩ := xhv_e hf
      refine mv_callVv (pc := 32) (n := 2) (ci := 6) (C := R_Exprs) B (mK_ok sk sv) hNs rfl rfl (ch_Exprs_mark l hi _ (xrw r_g2 hb) _ _ eg4) rfl (ma_goodc kc_Exprs_mark) (B.2.2.2.1 _ k_1416) (B.2.2.2.1 _ k_1418) (B.2.2.2.1 _ ks_48) (B.2.2.2.1 _ k_7) ⟨by decide +kernel, by decide +kernel, by decide +kernel⟩ rfl d_Exprs_call_32 rfl (Nat.le_of_ble_eq_true rfl) ⟨by decide, by decide⟩ ⟨by decide, by decide⟩ ⟨by decide, by decide⟩ (mv_noH hno _) (fun σ32 h32 => ?_)
      obtain ⟨rfl, s_g4⟩ := h32
      have r_g4 : mv_r g4 = mv_r h := s_g4.trans r_g2
      refine mv_aload_n (pc := 35) B d_Exprs_call_35 rfl 0 rfl ?_
      refine mv_getR (pc := 36) (ci := 6) (C := R_Exprs) (T := F_Exprs) (N := 11) B 0 rfl rfl (by decide) i_Exprs (B.2.2.2.1 _ k_193) rfl ((congrFun (congrFun r_g4 22) 0).trans (hb.1 22 0 _ rfl)) d_Exprs_call_36 ?_
      refine mv_bipush (pc := 39) (v := 40) B d_Exprs_call_39 (by decide) ?_
      obtain ⟨v6, g5, eg5, hf⟩ := xhb_e hf
      refine mv_callVi (pc := 41) (n := 1) (ci := 2) (C := R_Tokens) B (mK_ok sk sv) hNs rfl rfl (ch_Tokens_open l hi _ (xrw r_g4 hb) _ eg5) rfl (ma_goodc kc_Tokens_open) (B.2.2.2.1 _ k_1415) (B.2.2.2.1 _ k_1350) (B.2.2.2.1 _ k_1351) (B.2.2.2.1 _ k_3) ⟨by decide +kernel, by decide +kernel, by decide +kernel⟩ rfl d_Exprs_call_41 rfl (Nat.le_of_ble_eq_true rfl) ⟨by decide, by decide⟩ ⟨by decide, by decide⟩ ⟨by decide, by decide⟩ (mv_noH hno _) (fun w41 σ41 h41 => ?_)
      obtain ⟨rfl, rfl, s_g5⟩ := h41
      have r_g5 : mv_r g5 = mv_r h := s_g5.trans r_g4
      refine mv_pop (pc := 44) B d_Exprs_call_44 rfl ?_
      exact mv_vret (pc := 45) B hr d_Exprs_call_45 (Nat.le_refl _) (Nat.le_refl _) ⟨rfl, xrh_v hf r_g5⟩
    · skip
      have hf := xif_f h11 hf
      refine mv_lpick [0] rfl ?_
      exact jn14  _ rfl hf
def f_Exprs_literal_76 (P : Nat) (x1 : Int32) (hz : mv_H) : Option mv_H := xhv (f_Exprs_tell hz x1 (3 : Int32)) fun g1 => xhv (f_Exprs_hold g1 (0 : Int32)) fun g2 => some g2
def f_Exprs_literal (P : Nat) (h : mv_H) : Option mv_H := xhb (f_Tokens_take h (4 : Int32)) fun v4 g3 => xhb (f_Tokens_take g3 (39 : Int32)) fun v6 g5 => xhb (f_Tokens_take g5 (4 : Int32)) fun v8 g7 => bif xvi v4 32770 then bif xvi v8 32770 then xhb (f_Program_emit P g7 (300 : Int32) (mv_b g7 6 (v8).toNatClampNeg)) fun v12 g11 => if (lg_cmp (mv_b g7 6 (v4).toNatClampNeg) (1 : Int64)) < (0 : Int32) then (f_Exprs_literal_76 P v4 g11) else (if (lg_cmp (mv_b g7 6 (v4).toNatClampNeg) (64 : Int64)) ≤ (0 : Int32) then (xhb (f_Bits_mask g11 (((mv_b g7 6 (v4).toNatClampNeg)).toInt32)) fun v14 g13 => if (lg_cmp ((mv_b g7 6 (v8).toNatClampNeg) &&& (v14 ^^^ (-1 : Int64))) (0 : Int64)) = (0 : Int32) then (xhv (f_Exprs_hold g13 (((mv_b g7 6 (v4).toNatClampNeg)).toInt32)) fun g15 => some g15) else (xhv (f_Exprs_tell g13 v8 (3 : Int32)) fun g16 => xhv (f_Exprs_hold g16 (0 : Int32)) fun g17 => some g17)) else (f_Exprs_literal_76 P v4 g11)) else none else none
set_option maxHeartbeats 4000000 in
set_option maxRecDepth 100000 in
theorem ch_Exprs_literal_a (l : Launch) {dA : FieldType → ClassId} {D : va_G} {al : Nat → Nat} {ext : mv_Sh} {sk sv : Nat → Nat} (hi : mv_inj (mg dA D al ext)) (h : mv_H) (hb : xRP 32 (mv_r h))  {rg : mv_H} (hf : f_Exprs_literal 32 h = some rg) : mv_C l y_Exprs_literal (Cond.code y_Exprs_literal b_Exprs_literal 7 (Option.none : Option Jvm.ClassFile.FieldType) :: ma) ({ frames := 2, cells := 0, slots := 0, locals := 44 }) (mg dA D al ext) (mK sk sv) [.ref (al 22)] h (mv_Rv (fun σ1 => rg = σ1 ∧ mv_r σ1 = mv_r h)) := by
  refine mv_C.ofV (cc := b_Exprs_literal) (nL := 7) (ret := (Option.none : Option Jvm.ClassFile.FieldType)) (by decide +kernel) rfl hi (Nat.le_of_ble_eq_true rfl) ?_
  intro p e s m below meth c B hNs hr hnm hno
  have jn76 : ∀ (x1 : Int32) (hz : mv_H), mv_r hz = mv_r h → f_Exprs_literal_76 32 x1 hz = some rg → mv_V p l e ({ frames := 2, cells := 0, slots := 0, locals := 44 }) s m ([.ref (al 22)] : List Value).toArray below meth c (mg dA D al ext) 7 0 0 (mv_Q (mg dA D al ext) below s 0 0 (mv_Rv (fun σ1 => rg = σ1 ∧ mv_r σ1 = mv_r h))) hz 76 [(0, .ref (al 22)), (1, .int x1)] [] := by
    intro x1 hz r_hz hf
    unfold f_Exprs_literal_76 at hf
    refine mv_aload_n (pc := 76) B d_Exprs_literal_76 rfl 0 rfl ?_
    refine mv_iload_n (pc := 77) B d_Exprs_literal_77 rfl 1 rfl ?_
    refine mv_iconst (pc := 78) (v := 3) B d_Exprs_literal_78 (by decide) ?_
    obtain ⟨g1, eg1, hf⟩ := xhv_e hf
    refine mv_callVv (pc := 79) (n := 2) (ci := 6) (C := R_Exprs) B (mK_ok sk sv) hNs rfl rfl (ch_Exprs_tell l hi _ (xrw r_hz hb.t) _ _ eg1) rfl (ma_goodc kc_Exprs_tell) (B.2.2.2.1 _ k_1427) (B.2.2.2.1 _ k_1429) (B.2.2.2.1 _ ks_50) (B.2.2.2.1 _ k_7) ⟨by decide +kernel, by decide +kernel, by decide +kernel⟩ rfl d_Exprs_literal_79 rfl (Nat.le_of_ble_eq_true rfl) ⟨by decide, by decide⟩ ⟨by decide, by decide⟩ ⟨by decide, by decide⟩ (mv_noH hno _) (fun σ79 h79 => ?_)
    obtain ⟨rfl, s_g1⟩ := h79
    have r_g1 : mv_r g1 = mv_r h := s_g1.trans r_hz
    refine mv_aload_n (pc := 82) B d_Exprs_literal_82 rfl 0 rfl ?_
    refine mv_iconst (pc := 83) (v := 0) B d_Exprs_literal_83 (by decide) ?_
    obtain ⟨g2, eg2, hf⟩ := xhv_e hf
    refine mv_callVv (pc := 84) (n := 1) (ci := 6) (C := R_Exprs) B (mK_ok sk sv) hNs rfl rfl (ch_Exprs_hold l hi _ (xrw r_g1 hb.t) _ eg2) rfl (ma_goodc kc_Exprs_hold) (B.2.2.2.1 _ k_1432) (B.2.2.2.1 _ k_1434) (B.2.2.2.1 _ ks_51) (B.2.2.2.1 _ k_7) ⟨by decide +kernel, by decide +kernel, by decide +kernel⟩ rfl d_Exprs_literal_84 rfl (Nat.le_of_ble_eq_true rfl) ⟨by decide, by decide⟩ ⟨by decide, by decide⟩ ⟨by decide, by decide⟩ (mv_noH hno _) (fun σ84 h84 => ?_)
    obtain ⟨rfl, s_g2⟩ := h84
    have r_g2 : mv_r g2 = mv_r h := s_g2.trans r_g1
    refine mv_goto (pc := 87) (tgt := 127) B d_Exprs_literal_87 rfl ?_
    exact mv_vret (pc := 127) B hr d_Exprs_literal_127 (Nat.le_refl _) (Nat.le_refl _) ⟨rfl, xrh_v hf r_g2⟩
  unfold f_Exprs_literal at hf
  refine mv_aload_n (pc := 0) B d_Exprs_literal_0 rfl 0 rfl ?_
  refine mv_getR (pc := 1) (ci := 6) (C := R_Exprs) (T := F_Exprs) (N := 11) B 0 rfl rfl (by decide) i_Exprs (B.2.2.2.1 _ k_193) rfl (hb.1.1 22 0 _ rfl) d_Exprs_literal_1 ?_
  refine mv_iconst (pc := 4) (v := 4) B d_Exprs_literal_4 (by decide) ?_
  obtain ⟨v4, g3, eg3, hf⟩ := xhb_e hf
  refine mv_callVi (pc := 5) (n := 1) (ci := 2) (C := R_Tokens) B (mK_ok sk sv) hNs rfl rfl (ch_Tokens_take l hi _ (hb.t) _ eg3) rfl (ma_goodc kc_Tokens_take) (B.2.2.2.1 _ k_1424) (B.2.2.2.1 _ k_1267) (B.2.2.2.1 _ k_1268) (B.2.2.2.1 _ k_3) ⟨by decide +kernel, by decide +kernel, by decide +kernel⟩ rfl d_Exprs_literal_5 rfl (Nat.le_of_ble_eq_true rfl) ⟨by decide, by decide⟩ ⟨by decide, by decide⟩ ⟨by decide, by decide⟩ (mv_noH hno _) (fun w5 σ5 h5 => ?_)
  obtain ⟨rfl, rfl, s_g3⟩ := h5
  have r_g3 : mv_r g3 = mv_r h := s_g3.trans rfl
  refine mv_istore_n (pc := 8) B d_Exprs_literal_8 rfl (by decide) rfl ?_
  refine mv_aload_n (pc := 9) B d_Exprs_literal_9 rfl 1 rfl ?_
  refine mv_getR (pc := 10) (ci := 6) (C := R_Exprs) (T := F_Exprs) (N := 11) B 0 rfl rfl (by decide) i_Exprs (B.2.2.2.1 _ k_193) rfl ((congrFun (congrFun r_g3 22) 0).trans (hb.1.1 22 0 _ rfl)) d_Exprs_literal_10 ?_
  refine mv_bipush (pc := 13) (v := 39) B d_Exprs_literal_13 (by decide) ?_
  obtain ⟨v6, g5, eg5, hf⟩ := xhb_e hf
  refine mv_callVi (pc := 15) (n := 1) (ci := 2) (C := R_Tokens) B (mK_ok sk sv) hNs rfl rfl (ch_Tokens_take l hi _ (xrw r_g3 hb.t) _ eg5) rfl (ma_goodc kc_Tokens_take) (B.2.2.2.1 _ k_1424) (B.2.2.2.1 _ k_1267) (B.2.2.2.1 _ k_1268) (B.2.2.2.1 _ k_3) ⟨by decide +kernel, by decide +kernel, by decide +kernel⟩ rfl d_Exprs_literal_15 rfl (Nat.le_of_ble_eq_true rfl) ⟨by decide, by decide⟩ ⟨by decide, by decide⟩ ⟨by decide, by decide⟩ (mv_noH hno _) (fun w15 σ15 h15 => ?_)
  obtain ⟨rfl, rfl, s_g5⟩ := h15
  have r_g5 : mv_r g5 = mv_r h := s_g5.trans r_g3
  refine mv_pop (pc := 18) B d_Exprs_literal_18 rfl ?_
  refine mv_aload_n (pc := 19) B d_Exprs_literal_19 rfl 1 rfl ?_
  refine mv_getR (pc := 20) (ci := 6) (C := R_Exprs) (T := F_Exprs) (N := 11) B 0 rfl rfl (by decide) i_Exprs (B.2.2.2.1 _ k_193) rfl ((congrFun (congrFun r_g5 22) 0).trans (hb.1.1 22 0 _ rfl)) d_Exprs_literal_20 ?_
  refine mv_iconst (pc := 23) (v := 4) B d_Exprs_literal_23 (by decide) ?_
  obtain ⟨v8, g7, eg7, hf⟩ := xhb_e hf
  refine mv_callVi (pc := 24) (n := 1) (ci := 2) (C := R_Tokens) B (mK_ok sk sv) hNs rfl rfl (ch_Tokens_take l hi _ (xrw r_g5 hb.t) _ eg7) rfl (ma_goodc kc_Tokens_take) (B.2.2.2.1 _ k_1424) (B.2.2.2.1 _ k_1267) (B.2.2.2.1 _ k_1268) (B.2.2.2.1 _ k_3) ⟨by decide +kernel, by decide +kernel, by decide +kernel⟩ rfl d_Exprs_literal_24 rfl (Nat.le_of_ble_eq_true rfl) ⟨by decide, by decide⟩ ⟨by decide, by decide⟩ ⟨by decide, by decide⟩ (mv_noH hno _) (fun w24 σ24 h24 => ?_)
  obtain ⟨rfl, rfl, s_g7⟩ := h24
  have r_g7 : mv_r g7 = mv_r h := s_g7.trans r_g5
  refine mv_istore_n (pc := 27) B d_Exprs_literal_27 rfl (by decide) rfl ?_
  refine mv_aload_n (pc := 28) B d_Exprs_literal_28 rfl 2 rfl ?_
  refine mv_getR (pc := 29) (ci := 6) (C := R_Exprs) (T := F_Exprs) (N := 11) B 0 rfl rfl (by decide) i_Exprs (B.2.2.2.1 _ k_193) rfl ((congrFun (congrFun r_g7 22) 0).trans (hb.1.1 22 0 _ rfl)) d_Exprs_literal_29 ?_
  refine mv_getR (pc := 32) (ci := 2) (C := R_Tokens) (T := F_Tokens) (N := 10) B 2 rfl rfl (by decide) i_Tokens (B.2.2.2.1 _ k_95) rfl ((congrFun (congrFun r_g7 3) 2).trans (hb.1.1 3 2 _ rfl)) d_Exprs_literal_32 ?_
  refine mv_iload_n (pc := 35) B d_Exprs_literal_35 rfl 1 rfl ?_
  obtain ⟨q9, hf⟩ := xvi_e hf
  refine mv_lald (pc := 36) B rfl q9 d_Exprs_literal_36 ?_
  refine mv_lstore_n (pc := 37) B d_Exprs_literal_37 rfl (by decide) rfl ?_
  refine mv_aload_n (pc := 38) B d_Exprs_literal_38 rfl 3 rfl ?_
  refine mv_getR (pc := 39) (ci := 6) (C := R_Exprs) (T := F_Exprs) (N := 11) B 0 rfl rfl (by decide) i_Exprs (B.2.2.2.1 _ k_193) rfl ((congrFun (congrFun r_g7 22) 0).trans (hb.1.1 22 0 _ rfl)) d_Exprs_literal_39 ?_
  refine mv_getR (pc := 42) (ci := 2) (C := R_Tokens) (T := F_Tokens) (N := 10) B 2 rfl rfl (by decide) i_Tokens (B.2.2.2.1 _ k_95) rfl ((congrFun (congrFun r_g7 3) 2).trans (hb.1.1 3 2 _ rfl)) d_Exprs_literal_42 ?_
  refine mv_iload_n (pc := 45) B d_Exprs_literal_45 rfl 1 rfl ?_
  obtain ⟨q10, hf⟩ := xvi_e hf
  refine mv_lald (pc := 46) B rfl q10 d_Exprs_literal_46 ?_
  refine mv_lstore (pc := 47) B d_Exprs_literal_47 (by decide) rfl ?_
  refine mv_aload_n (pc := 49) B d_Exprs_literal_49 rfl 4 rfl ?_
  refine mv_getR (pc := 50) (ci := 6) (C := R_Exprs) (T := F_Exprs) (N := 11) B 3 rfl rfl (by decide) i_Exprs (B.2.2.2.1 _ k_197) rfl ((congrFun (congrFun r_g7 22) 3).trans hb.1.2.2.2) d_Exprs_literal_50 ?_
  refine mv_sipush (pc := 53) (v := 300) B d_Exprs_literal_53 (by decide) ?_
  refine mv_lload (pc := 56) B d_Exprs_literal_56 0 rfl ?_
  obtain ⟨v12, g11, eg11, hf⟩ := xhb_e hf
  refine mv_callVi (pc := 58) (n := 2) (ci := 7) (C := R_Program) B (mK_ok sk sv) hNs rfl rfl (ch_Program_emit_a l hi _ (xrw r_g7 hb) _ _ eg11) rfl (ma_goodc kc_Program_emit) (B.2.2.2.1 _ k_1425) (B.2.2.2.1 _ k_1385) (B.2.2.2.1 _ k_1386) (B.2.2.2.1 _ k_8) ⟨by decide +kernel, by decide +kernel, by decide +kernel⟩ rfl d_Exprs_literal_58 rfl (Nat.le_of_ble_eq_true rfl) ⟨by decide, by decide⟩ ⟨by decide, by decide⟩ ⟨by decide, by decide⟩ (mv_noH hno _) (fun w58 σ58 h58 => ?_)
  obtain ⟨rfl, rfl, s_g11⟩ := h58
  have r_g11 : mv_r g11 = mv_r h := s_g11.trans r_g7
  refine mv_pop (pc := 61) B d_Exprs_literal_61 rfl ?_
  refine mv_lload_n (pc := 62) B d_Exprs_literal_62 rfl 1 rfl ?_
  refine mv_lconst (pc := 63) (v := 1) B d_Exprs_literal_63 (by decide) ?_
  refine mv_lcmp (pc := 64) B d_Exprs_literal_64 ?_
  refine mv_if_lt (pc := 65) (tgt := 76) B d_Exprs_literal_65 rfl (fun h65 => ?_) (fun h65 => ?_)
  · skip
    have hf := xif_t h65 hf
    refine mv_lpick [4, 3] rfl ?_
    exact jn76 _ _ r_g11 hf
  · skip
    have hf := xif_f h65 hf
    refine mv_lload_n (pc := 68) B d_Exprs_literal_68 rfl 1 rfl ?_
    refine mv_ldc2 (pc := 69) (v := 64) B (B.2.2.2.1 _ k_1426) d_Exprs_literal_69 ?_
    refine mv_lcmp (pc := 72) B d_Exprs_literal_72 ?_
    refine mv_if_le (pc := 73) (tgt := 90) B d_Exprs_literal_73 rfl (fun h73 => ?_) (fun h73 => ?_)
    · skip
      have hf := xif_t h73 hf
      refine mv_lload (pc := 90) B d_Exprs_literal_90 0 rfl ?_
      refine mv_lload_n (pc := 92) B d_Exprs_literal_92 rfl 1 rfl ?_
      refine mv_l2i (pc := 93) B d_Exprs_literal_93 ?_
      obtain ⟨v14, g13, eg13, hf⟩ := xhb_e hf
      refine mv_callSl (pc := 94) (n := 1) B (mK_ok sk sv) hNs (ch_Bits_mask l hi _ _ eg13) rfl (ma_goodc kc_Bits_mask) (B.2.2.2.1 _ k_1436) (B.2.2.2.1 _ k_1437) (B.2.2.2.1 _ k_33) ⟨by decide +kernel, by decide +kernel, by decide +kernel⟩ rfl d_Exprs_literal_94 rfl (Nat.le_of_ble_eq_true rfl) ⟨by decide, by decide⟩ ⟨by decide, by decide⟩ ⟨by decide, by decide⟩ (mv_noH hno _) (fun w94 σ94 h94 => ?_)
      obtain ⟨rfl, rfl, s_g13⟩ := h94
      have r_g13 : mv_r g13 = mv_r h := s_g13.trans r_g11
      refine mv_ldc2 (pc := 97) (v := -1) B (B.2.2.2.1 _ k_1440) d_Exprs_literal_97 ?_
      refine mv_lxor (pc := 100) B d_Exprs_literal_100 ?_
      refine mv_land (pc := 101) B d_Exprs_literal_101 ?_
      refine mv_lconst (pc := 102) (v := 0) B d_Exprs_literal_102 (by decide) ?_
      refine mv_lcmp (pc := 103) B d_Exprs_literal_103 ?_
      refine mv_if_eq (pc := 104) (tgt := 121) B d_Exprs_literal_104 rfl (fun h104 => ?_) (fun h104 => ?_)
      · skip
        have hf := xif_t h104 hf
        refine mv_aload_n (pc := 121) B d_Exprs_literal_121 rfl 4 rfl ?_
        refine mv_lload_n (pc := 122) B d_Exprs_literal_122 rfl 1 rfl ?_
        refine mv_l2i (pc := 123) B d_Exprs_literal_123 ?_
        obtain ⟨g15, eg15, hf⟩ := xhv_e hf
        refine mv_callVv (pc := 124) (n := 1) (ci := 6) (C := R_Exprs) B (mK_ok sk sv) hNs rfl rfl (ch_Exprs_hold l hi _ (xrw r_g13 hb.t) _ eg15) rfl (ma_goodc kc_Exprs_hold) (B.2.2.2.1 _ k_1432) (B.2.2.2.1 _ k_1434) (B.2.2.2.1 _ ks_51) (B.2.2.2.1 _ k_7) ⟨by decide +kernel, by decide +kernel, by decide +kernel⟩ rfl d_Exprs_literal_124 rfl (Nat.le_of_ble_eq_true rfl) ⟨by decide, by decide⟩ ⟨by decide, by decide⟩ ⟨by decide, by decide⟩ (mv_noH hno _) (fun σ124 h124 => ?_)
        obtain ⟨rfl, s_g15⟩ := h124
        have r_g15 : mv_r g15 = mv_r h := s_g15.trans r_g13
        exact mv_vret (pc := 127) B hr d_Exprs_literal_127 (Nat.le_refl _) (Nat.le_refl _) ⟨rfl, xrh_v hf r_g15⟩
      · skip
        have hf := xif_f h104 hf
        refine mv_aload_n (pc := 107) B d_Exprs_literal_107 rfl 4 rfl ?_
        refine mv_iload_n (pc := 108) B d_Exprs_literal_108 rfl 2 rfl ?_
        refine mv_iconst (pc := 109) (v := 3) B d_Exprs_literal_109 (by decide) ?_
        obtain ⟨g16, eg16, hf⟩ := xhv_e hf
        refine mv_callVv (pc := 110) (n := 2) (ci := 6) (C := R_Exprs) B (mK_ok sk sv) hNs rfl rfl (ch_Exprs_tell l hi _ (xrw r_g13 hb.t) _ _ eg16) rfl (ma_goodc kc_Exprs_tell) (B.2.2.2.1 _ k_1427) (B.2.2.2.1 _ k_1429) (B.2.2.2.1 _ ks_50) (B.2.2.2.1 _ k_7) ⟨by decide +kernel, by decide +kernel, by decide +kernel⟩ rfl d_Exprs_literal_110 rfl (Nat.le_of_ble_eq_true rfl) ⟨by decide, by decide⟩ ⟨by decide, by decide⟩ ⟨by decide, by decide⟩ (mv_noH hno _) (fun σ110 h110 => ?_)
        obtain ⟨rfl, s_g16⟩ := h110
        have r_g16 : mv_r g16 = mv_r h := s_g16.trans r_g13
        refine mv_aload_n (pc := 113) B d_Exprs_literal_113 rfl 4 rfl ?_
        refine mv_iconst (pc := 114) (v := 0) B d_Exprs_literal_114 (by decide) ?_
        obtain ⟨g17, eg17, hf⟩ := xhv_e hf
        refine mv_callVv (pc := 115) (n := 1) (ci := 6) (C := R_Exprs) B (mK_ok sk sv) hNs rfl rfl (ch_Exprs_hold l hi _ (xrw r_g16 hb.t) _ eg17) rfl (ma_goodc kc_Exprs_hold) (B.2.2.2.1 _ k_1432) (B.2.2.2.1 _ k_1434) (B.2.2.2.1 _ ks_51) (B.2.2.2.1 _ k_7) ⟨by decide +kernel, by decide +kernel, by decide +kernel⟩ rfl d_Exprs_literal_115 rfl (Nat.le_of_ble_eq_true rfl) ⟨by decide, by decide⟩ ⟨by decide, by decide⟩ ⟨by decide, by decide⟩ (mv_noH hno _) (fun σ115 h115 => ?_)
        obtain ⟨rfl, s_g17⟩ := h115
        have r_g17 : mv_r g17 = mv_r h := s_g17.trans r_g16
        refine mv_goto (pc := 118) (tgt := 127) B d_Exprs_literal_118 rfl ?_
        exact mv_vret (pc := 127) B hr d_Exprs_literal_127 (Nat.le_refl _) (Nat.le_refl _) ⟨rfl, xrh_v hf r_g17⟩
    · skip
      have hf := xif_f h73 hf
      refine mv_lpick [4, 3] rfl ?_
      exact jn76 _ _ r_g11 hf
set_option maxHeartbeats 4000000 in
set_option maxRecDepth 100000 in
theorem ch_Exprs_literal_b (l : Launch) {dA : FieldType → ClassId} {D : va_G} {al : Nat → Nat} {ext : mv_Sh} {sk sv : Nat → Nat} (hi : mv_inj (mg dA D al ext)) (h : mv_H) (hb : xRP 48 (mv_r h))  {rg : mv_H} (hf : f_Exprs_literal 48 h = some rg) : mv_C l y_Exprs_literal (Cond.code y_Exprs_literal b_Exprs_literal 7 (Option.none : Option Jvm.ClassFile.FieldType) :: ma) ({ frames := 2, cells := 0, slots := 0, locals := 44 }) (mg dA D al ext) (mK sk sv) [.ref (al 22)] h (mv_Rv (fun σ1 => rg = σ1 ∧ mv_r σ1 = mv_r h)) := by
  refine mv_C.ofV (cc := b_Exprs_literal) (nL := 7) (ret := (Option.none : Option Jvm.ClassFile.FieldType)) (by decide +kernel) rfl hi (Nat.le_of_ble_eq_true rfl) ?_
  intro p e s m below meth c B hNs hr hnm hno
  have jn76 : ∀ (x1 : Int32) (hz : mv_H), mv_r hz = mv_r h → f_Exprs_literal_76 48 x1 hz = some rg → mv_V p l e ({ frames := 2, cells := 0, slots := 0, locals := 44 }) s m ([.ref (al 22)] : List Value).toArray below meth c (mg dA D al ext) 7 0 0 (mv_Q (mg dA D al ext) below s 0 0 (mv_Rv (fun σ1 => rg = σ1 ∧ mv_r σ1 = mv_r h))) hz 76 [(0, .ref (al 22)), (1, .int x1)] [] := by
    intro x1 hz r_hz hf
    unfold f_Exprs_literal_76 at hf
    refine mv_aload_n (pc := 76) B d_Exprs_literal_76 rfl 0 rfl ?_
    refine mv_iload_n (pc := 77) B d_Exprs_literal_77 rfl 1 rfl ?_
    refine mv_iconst (pc := 78) (v := 3) B d_Exprs_literal_78 (by decide) ?_
    obtain ⟨g1, eg1, hf⟩ := xhv_e hf
    refine mv_callVv (pc := 79) (n := 2) (ci := 6) (C := R_Exprs) B (mK_ok sk sv) hNs rfl rfl (ch_Exprs_tell l hi _ (xrw r_hz hb.t) _ _ eg1) rfl (ma_goodc kc_Exprs_tell) (B.2.2.2.1 _ k_1427) (B.2.2.2.1 _ k_1429) (B.2.2.2.1 _ ks_50) (B.2.2.2.1 _ k_7) ⟨by decide +kernel, by decide +kernel, by decide +kernel⟩ rfl d_Exprs_literal_79 rfl (Nat.le_of_ble_eq_true rfl) ⟨by decide, by decide⟩ ⟨by decide, by decide⟩ ⟨by decide, by decide⟩ (mv_noH hno _) (fun σ79 h79 => ?_)
    obtain ⟨rfl, s_g1⟩ := h79
    have r_g1 : mv_r g1 = mv_r h := s_g1.trans r_hz
    refine mv_aload_n (pc := 82) B d_Exprs_literal_82 rfl 0 rfl ?_
    refine mv_iconst (pc := 83) (v := 0) B d_Exprs_literal_83 (by decide) ?_
    obtain ⟨g2, eg2, hf⟩ := xhv_e hf
    refine mv_callVv (pc := 84) (n := 1) (ci := 6) (C := R_Exprs) B (mK_ok sk sv) hNs rfl rfl (ch_Exprs_hold l hi _ (xrw r_g1 hb.t) _ eg2) rfl (ma_goodc kc_Exprs_hold) (B.2.2.2.1 _ k_1432) (B.2.2.2.1 _ k_1434) (B.2.2.2.1 _ ks_51) (B.2.2.2.1 _ k_7) ⟨by decide +kernel, by decide +kernel, by decide +kernel⟩ rfl d_Exprs_literal_84 rfl (Nat.le_of_ble_eq_true rfl) ⟨by decide, by decide⟩ ⟨by decide, by decide⟩ ⟨by decide, by decide⟩ (mv_noH hno _) (fun σ84 h84 => ?_)
    obtain ⟨rfl, s_g2⟩ := h84
    have r_g2 : mv_r g2 = mv_r h := s_g2.trans r_g1
    refine mv_goto (pc := 87) (tgt := 127) B d_Exprs_literal_87 rfl ?_
    exact mv_vret (pc := 127) B hr d_Exprs_literal_127 (Nat.le_refl _) (Nat.le_refl _) ⟨rfl, xrh_v hf r_g2⟩
  unfold f_Exprs_literal at hf
  refine mv_aload_n (pc := 0) B d_Exprs_literal_0 rfl 0 rfl ?_
  refine mv_getR (pc := 1) (ci := 6) (C := R_Exprs) (T := F_Exprs) (N := 11) B 0 rfl rfl (by decide) i_Exprs (B.2.2.2.1 _ k_193) rfl (hb.1.1 22 0 _ rfl) d_Exprs_literal_1 ?_
  refine mv_iconst (pc := 4) (v := 4) B d_Exprs_literal_4 (by decide) ?_
  obtain ⟨v4, g3, eg3, hf⟩ := xhb_e hf
  refine mv_callVi (pc := 5) (n := 1) (ci := 2) (C := R_Tokens) B (mK_ok sk sv) hNs rfl rfl (ch_Tokens_take l hi _ (hb.t) _ eg3) rfl (ma_goodc kc_Tokens_take) (B.2.2.2.1 _ k_1424) (B.2.2.2.1 _ k_1267) (B.2.2.2.1 _ k_1268) (B.2.2.2.1 _ k_3) ⟨by decide +kernel, by decide +kernel, by decide +kernel⟩ rfl d_Exprs_literal_5 rfl (Nat.le_of_ble_eq_true rfl) ⟨by decide, by decide⟩ ⟨by decide, by decide⟩ ⟨by decide, by decide⟩ (mv_noH hno _) (fun w5 σ5 h5 => ?_)
  obtain ⟨rfl, rfl, s_g3⟩ := h5
  have r_g3 : mv_r g3 = mv_r h := s_g3.trans rfl
  refine mv_istore_n (pc := 8) B d_Exprs_literal_8 rfl (by decide) rfl ?_
  refine mv_aload_n (pc := 9) B d_Exprs_literal_9 rfl 1 rfl ?_
  refine mv_getR (pc := 10) (ci := 6) (C := R_Exprs) (T := F_Exprs) (N := 11) B 0 rfl rfl (by decide) i_Exprs (B.2.2.2.1 _ k_193) rfl ((congrFun (congrFun r_g3 22) 0).trans (hb.1.1 22 0 _ rfl)) d_Exprs_literal_10 ?_
  refine mv_bipush (pc := 13) (v := 39) B d_Exprs_literal_13 (by decide) ?_
  obtain ⟨v6, g5, eg5, hf⟩ := xhb_e hf
  refine mv_callVi (pc := 15) (n := 1) (ci := 2) (C := R_Tokens) B (mK_ok sk sv) hNs rfl rfl (ch_Tokens_take l hi _ (xrw r_g3 hb.t) _ eg5) rfl (ma_goodc kc_Tokens_take) (B.2.2.2.1 _ k_1424) (B.2.2.2.1 _ k_1267) (B.2.2.2.1 _ k_1268) (B.2.2.2.1 _ k_3) ⟨by decide +kernel, by decide +kernel, by decide +kernel⟩ rfl d_Exprs_literal_15 rfl (Nat.le_of_ble_eq_true rfl) ⟨by decide, by decide⟩ ⟨by decide, by decide⟩ ⟨by decide, by decide⟩ (mv_noH hno _) (fun w15 σ15 h15 => ?_)
  obtain ⟨rfl, rfl, s_g5⟩ := h15
  have r_g5 : mv_r g5 = mv_r h := s_g5.trans r_g3
  refine mv_pop (pc := 18) B d_Exprs_literal_18 rfl ?_
  refine mv_aload_n (pc := 19) B d_Exprs_literal_19 rfl 1 rfl ?_
  refine mv_getR (pc := 20) (ci := 6) (C := R_Exprs) (T := F_Exprs) (N := 11) B 0 rfl rfl (by decide) i_Exprs (B.2.2.2.1 _ k_193) rfl ((congrFun (congrFun r_g5 22) 0).trans (hb.1.1 22 0 _ rfl)) d_Exprs_literal_20 ?_
  refine mv_iconst (pc := 23) (v := 4) B d_Exprs_literal_23 (by decide) ?_
  obtain ⟨v8, g7, eg7, hf⟩ := xhb_e hf
  refine mv_callVi (pc := 24) (n := 1) (ci := 2) (C := R_Tokens) B (mK_ok sk sv) hNs rfl rfl (ch_Tokens_take l hi _ (xrw r_g5 hb.t) _ eg7) rfl (ma_goodc kc_Tokens_take) (B.2.2.2.1 _ k_1424) (B.2.2.2.1 _ k_1267) (B.2.2.2.1 _ k_1268) (B.2.2.2.1 _ k_3) ⟨by decide +kernel, by decide +kernel, by decide +kernel⟩ rfl d_Exprs_literal_24 rfl (Nat.le_of_ble_eq_true rfl) ⟨by decide, by decide⟩ ⟨by decide, by decide⟩ ⟨by decide, by decide⟩ (mv_noH hno _) (fun w24 σ24 h24 => ?_)
  obtain ⟨rfl, rfl, s_g7⟩ := h24
  have r_g7 : mv_r g7 = mv_r h := s_g7.trans r_g5
  refine mv_istore_n (pc := 27) B d_Exprs_literal_27 rfl (by decide) rfl ?_
  refine mv_aload_n (pc := 28) B d_Exprs_literal_28 rfl 2 rfl ?_
  refine mv_getR (pc := 29) (ci := 6) (C := R_Exprs) (T := F_Exprs) (N := 11) B 0 rfl rfl (by decide) i_Exprs (B.2.2.2.1 _ k_193) rfl ((congrFun (congrFun r_g7 22) 0).trans (hb.1.1 22 0 _ rfl)) d_Exprs_literal_29 ?_
  refine mv_getR (pc := 32) (ci := 2) (C := R_Tokens) (T := F_Tokens) (N := 10) B 2 rfl rfl (by decide) i_Tokens (B.2.2.2.1 _ k_95) rfl ((congrFun (congrFun r_g7 3) 2).trans (hb.1.1 3 2 _ rfl)) d_Exprs_literal_32 ?_
  refine mv_iload_n (pc := 35) B d_Exprs_literal_35 rfl 1 rfl ?_
  obtain ⟨q9, hf⟩ := xvi_e hf
  refine mv_lald (pc := 36) B rfl q9 d_Exprs_literal_36 ?_
  refine mv_lstore_n (pc := 37) B d_Exprs_literal_37 rfl (by decide) rfl ?_
  refine mv_aload_n (pc := 38) B d_Exprs_literal_38 rfl 3 rfl ?_
  refine mv_getR (pc := 39) (ci := 6) (C := R_Exprs) (T := F_Exprs) (N := 11) B 0 rfl rfl (by decide) i_Exprs (B.2.2.2.1 _ k_193) rfl ((congrFun (congrFun r_g7 22) 0).trans (hb.1.1 22 0 _ rfl)) d_Exprs_literal_39 ?_
  refine mv_getR (pc := 42) (ci := 2) (C := R_Tokens) (T := F_Tokens) (N := 10) B 2 rfl rfl (by decide) i_Tokens (B.2.2.2.1 _ k_95) rfl ((congrFun (congrFun r_g7 3) 2).trans (hb.1.1 3 2 _ rfl)) d_Exprs_literal_42 ?_
  refine mv_iload_n (pc := 45) B d_Exprs_literal_45 rfl 1 rfl ?_
  obtain ⟨q10, hf⟩ := xvi_e hf
  refine mv_lald (pc := 46) B rfl q10 d_Exprs_literal_46 ?_
  refine mv_lstore (pc := 47) B d_Exprs_literal_47 (by decide) rfl ?_
  refine mv_aload_n (pc := 49) B d_Exprs_literal_49 rfl 4 rfl ?_
  refine mv_getR (pc := 50) (ci := 6) (C := R_Exprs) (T := F_Exprs) (N := 11) B 3 rfl rfl (by decide) i_Exprs (B.2.2.2.1 _ k_197) rfl ((congrFun (congrFun r_g7 22) 3).trans hb.1.2.2.2) d_Exprs_literal_50 ?_
  refine mv_sipush (pc := 53) (v := 300) B d_Exprs_literal_53 (by decide) ?_
  refine mv_lload (pc := 56) B d_Exprs_literal_56 0 rfl ?_
  obtain ⟨v12, g11, eg11, hf⟩ := xhb_e hf
  refine mv_callVi (pc := 58) (n := 2) (ci := 7) (C := R_Program) B (mK_ok sk sv) hNs rfl rfl (ch_Program_emit_b l hi _ (xrw r_g7 hb) _ _ eg11) rfl (ma_goodc kc_Program_emit) (B.2.2.2.1 _ k_1425) (B.2.2.2.1 _ k_1385) (B.2.2.2.1 _ k_1386) (B.2.2.2.1 _ k_8) ⟨by decide +kernel, by decide +kernel, by decide +kernel⟩ rfl d_Exprs_literal_58 rfl (Nat.le_of_ble_eq_true rfl) ⟨by decide, by decide⟩ ⟨by decide, by decide⟩ ⟨by decide, by decide⟩ (mv_noH hno _) (fun w58 σ58 h58 => ?_)
  obtain ⟨rfl, rfl, s_g11⟩ := h58
  have r_g11 : mv_r g11 = mv_r h := s_g11.trans r_g7
  refine mv_pop (pc := 61) B d_Exprs_literal_61 rfl ?_
  refine mv_lload_n (pc := 62) B d_Exprs_literal_62 rfl 1 rfl ?_
  refine mv_lconst (pc := 63) (v := 1) B d_Exprs_literal_63 (by decide) ?_
  refine mv_lcmp (pc := 64) B d_Exprs_literal_64 ?_
  refine mv_if_lt (pc := 65) (tgt := 76) B d_Exprs_literal_65 rfl (fun h65 => ?_) (fun h65 => ?_)
  · skip
    have hf := xif_t h65 hf
    refine mv_lpick [4, 3] rfl ?_
    exact jn76 _ _ r_g11 hf
  · skip
    have hf := xif_f h65 hf
    refine mv_lload_n (pc := 68) B d_Exprs_literal_68 rfl 1 rfl ?_
    refine mv_ldc2 (pc := 69) (v := 64) B (B.2.2.2.1 _ k_1426) d_Exprs_literal_69 ?_
    refine mv_lcmp (pc := 72) B d_Exprs_literal_72 ?_
    refine mv_if_le (pc := 73) (tgt := 90) B d_Exprs_literal_73 rfl (fun h73 => ?_) (fun h73 => ?_)
    · skip
      have hf := xif_t h73 hf
      refine mv_lload (pc := 90) B d_Exprs_literal_90 0 rfl ?_
      refine mv_lload_n (pc := 92) B d_Exprs_literal_92 rfl 1 rfl ?_
      refine mv_l2i (pc := 93) B d_Exprs_literal_93 ?_
      obtain ⟨v14, g13, eg13, hf⟩ := xhb_e hf
      refine mv_callSl (pc := 94) (n := 1) B (mK_ok sk sv) hNs (ch_Bits_mask l hi _ _ eg13) rfl (ma_goodc kc_Bits_mask) (B.2.2.2.1 _ k_1436) (B.2.2.2.1 _ k_1437) (B.2.2.2.1 _ k_33) ⟨by decide +kernel, by decide +kernel, by decide +kernel⟩ rfl d_Exprs_literal_94 rfl (Nat.le_of_ble_eq_true rfl) ⟨by decide, by decide⟩ ⟨by decide, by decide⟩ ⟨by decide, by decide⟩ (mv_noH hno _) (fun w94 σ94 h94 => ?_)
      obtain ⟨rfl, rfl, s_g13⟩ := h94
      have r_g13 : mv_r g13 = mv_r h := s_g13.trans r_g11
      refine mv_ldc2 (pc := 97) (v := -1) B (B.2.2.2.1 _ k_1440) d_Exprs_literal_97 ?_
      refine mv_lxor (pc := 100) B d_Exprs_literal_100 ?_
      refine mv_land (pc := 101) B d_Exprs_literal_101 ?_
      refine mv_lconst (pc := 102) (v := 0) B d_Exprs_literal_102 (by decide) ?_
      refine mv_lcmp (pc := 103) B d_Exprs_literal_103 ?_
      refine mv_if_eq (pc := 104) (tgt := 121) B d_Exprs_literal_104 rfl (fun h104 => ?_) (fun h104 => ?_)
      · skip
        have hf := xif_t h104 hf
        refine mv_aload_n (pc := 121) B d_Exprs_literal_121 rfl 4 rfl ?_
        refine mv_lload_n (pc := 122) B d_Exprs_literal_122 rfl 1 rfl ?_
        refine mv_l2i (pc := 123) B d_Exprs_literal_123 ?_
        obtain ⟨g15, eg15, hf⟩ := xhv_e hf
        refine mv_callVv (pc := 124) (n := 1) (ci := 6) (C := R_Exprs) B (mK_ok sk sv) hNs rfl rfl (ch_Exprs_hold l hi _ (xrw r_g13 hb.t) _ eg15) rfl (ma_goodc kc_Exprs_hold) (B.2.2.2.1 _ k_1432) (B.2.2.2.1 _ k_1434) (B.2.2.2.1 _ ks_51) (B.2.2.2.1 _ k_7) ⟨by decide +kernel, by decide +kernel, by decide +kernel⟩ rfl d_Exprs_literal_124 rfl (Nat.le_of_ble_eq_true rfl) ⟨by decide, by decide⟩ ⟨by decide, by decide⟩ ⟨by decide, by decide⟩ (mv_noH hno _) (fun σ124 h124 => ?_)
        obtain ⟨rfl, s_g15⟩ := h124
        have r_g15 : mv_r g15 = mv_r h := s_g15.trans r_g13
        exact mv_vret (pc := 127) B hr d_Exprs_literal_127 (Nat.le_refl _) (Nat.le_refl _) ⟨rfl, xrh_v hf r_g15⟩
      · skip
        have hf := xif_f h104 hf
        refine mv_aload_n (pc := 107) B d_Exprs_literal_107 rfl 4 rfl ?_
        refine mv_iload_n (pc := 108) B d_Exprs_literal_108 rfl 2 rfl ?_
        refine mv_iconst (pc := 109) (v := 3) B d_Exprs_literal_109 (by decide) ?_
        obtain ⟨g16, eg16, hf⟩ := xhv_e hf
        refine mv_callVv (pc := 110) (n := 2) (ci := 6) (C := R_Exprs) B (mK_ok sk sv) hNs rfl rfl (ch_Exprs_tell l hi _ (xrw r_g13 hb.t) _ _ eg16) rfl (ma_goodc kc_Exprs_tell) (B.2.2.2.1 _ k_1427) (B.2.2.2.1 _ k_1429) (B.2.2.2.1 _ ks_50) (B.2.2.2.1 _ k_7) ⟨by decide +kernel, by decide +kernel, by decide +kernel⟩ rfl d_Exprs_literal_110 rfl (Nat.le_of_ble_eq_true rfl) ⟨by decide, by decide⟩ ⟨by decide, by decide⟩ ⟨by decide, by decide⟩ (mv_noH hno _) (fun σ110 h110 => ?_)
        obtain ⟨rfl, s_g16⟩ := h110
        have r_g16 : mv_r g16 = mv_r h := s_g16.trans r_g13
        refine mv_aload_n (pc := 113) B d_Exprs_literal_113 rfl 4 rfl ?_
        refine mv_iconst (pc := 114) (v := 0) B d_Exprs_literal_114 (by decide) ?_
        obtain ⟨g17, eg17, hf⟩ := xhv_e hf
        refine mv_callVv (pc := 115) (n := 1) (ci := 6) (C := R_Exprs) B (mK_ok sk sv) hNs rfl rfl (ch_Exprs_hold l hi _ (xrw r_g16 hb.t) _ eg17) rfl (ma_goodc kc_Exprs_hold) (B.2.2.2.1 _ k_1432) (B.2.2.2.1 _ k_1434) (B.2.2.2.1 _ ks_51) (B.2.2.2.1 _ k_7) ⟨by decide +kernel, by decide +kernel, by decide +kernel⟩ rfl d_Exprs_literal_115 rfl (Nat.le_of_ble_eq_true rfl) ⟨by decide, by decide⟩ ⟨by decide, by decide⟩ ⟨by decide, by decide⟩ (mv_noH hno _) (fun σ115 h115 => ?_)
        obtain ⟨rfl, s_g17⟩ := h115
        have r_g17 : mv_r g17 = mv_r h := s_g17.trans r_g16
        refine mv_goto (pc := 118) (tgt := 127) B d_Exprs_literal_118 rfl ?_
        exact mv_vret (pc := 127) B hr d_Exprs_literal_127 (Nat.le_refl _) (Nat.le_refl _) ⟨rfl, xrh_v hf r_g17⟩
    · skip
      have hf := xif_f h73 hf
      refine mv_lpick [4, 3] rfl ?_
      exact jn76 _ _ r_g11 hf
def f_Exprs_name_233 (P : Nat) (hz : mv_H) : Option (Int32 × mv_H) := bif xzb (1 : Int32) then some ((1 : Int32), hz) else none
def f_Exprs_name_99 (P : Nat) (x2 : Int32) (x3 : Int32) (x4 : Int32) (x5 : Int32) (hz : mv_H) : Option (Int32 × mv_H) := if x4 = (4 : Int32) then (xhb (f_Names_maskOf hz x3) fun v14 g13 => xhb (f_Program_emit P g13 (301 : Int32) v14) fun v16 g15 => xhb (f_Long_bitCount g15 v14) fun v18 g17 => xhv (f_Exprs_hold g17 v18) fun g19 => f_Exprs_name_233 P  g19) else (if x4 = (3 : Int32) then (xhb (f_Program_emit P hz (302 : Int32) ((x5).toInt64)) fun v10 g9 => bif xvi x5 64 then xhv (f_Exprs_hold g9 (mv_a g9 20 (x5).toNatClampNeg)) fun g12 => f_Exprs_name_233 P  g12 else none) else (if x4 = (1 : Int32) then (bif xvi x5 64 then xhb (f_Program_emit P hz (303 : Int32) (((mv_a hz (P + 3) (x5).toNatClampNeg)).toInt64)) fun v6 g5 => bif xvi x5 64 then xhv (f_Exprs_hold g5 (mv_a g5 (P + 1) (x5).toNatClampNeg)) fun g8 => f_Exprs_name_233 P  g8 else none else none) else (xhv (f_Exprs_tell hz x2 (2 : Int32)) fun g2 => xhv (f_Exprs_hold g2 (0 : Int32)) fun g3 => f_Exprs_name_233 P  g3)))
def f_Exprs_name_17 (P : Nat) (y0 : Int32) (hz : mv_H) : Option (Int32 × mv_H) := xhb (f_Tokens_take hz (3 : Int32)) fun v21 g20 => bif xvi v21 32770 then xhb (f_Names_kindOf g20 (((mv_b g20 6 (v21).toNatClampNeg)).toInt32)) fun v24 g23 => bif xvi (((mv_b g20 6 (v21).toNatClampNeg)).toInt32) 16448 then if v24 = (2 : Int32) then (if y0 = (0 : Int32) then (f_Exprs_name_99 P v21 (((mv_b g20 6 (v21).toNatClampNeg)).toInt32) v24 (mv_a g23 15 ((((mv_b g20 6 (v21).toNatClampNeg)).toInt32)).toNatClampNeg) g23) else (xhb (f_Tokens_open g23 (91 : Int32)) fun v27 g26 => xhv (f_Exprs_mark g26 (91 : Int32) v27) fun g28 => bif xvi ((mv_i g28 22 8) - (1 : Int32)) 1024 then xk (mv_sa g28 25 (((mv_i g28 22 8) - (1 : Int32))).toNatClampNeg (mv_a g23 15 ((((mv_b g20 6 (v21).toNatClampNeg)).toInt32)).toNatClampNeg)) fun g30 => bif xzb (0 : Int32) then some ((0 : Int32), g30) else none else none)) else (f_Exprs_name_99 P v21 (((mv_b g20 6 (v21).toNatClampNeg)).toInt32) v24 (mv_a g23 15 ((((mv_b g20 6 (v21).toNatClampNeg)).toInt32)).toNatClampNeg) g23) else none else none
def f_Exprs_name (P : Nat) (h : mv_H) : Option (Int32 × mv_H) := xhb (f_Tokens_kindBehind h) fun v33 g32 => if v33 = (91 : Int32) then (f_Exprs_name_17 P (1 : Int32) g32) else (f_Exprs_name_17 P (0 : Int32) g32)
set_option maxHeartbeats 4000000 in
set_option maxRecDepth 100000 in
theorem ch_Exprs_name_a (l : Launch) {dA : FieldType → ClassId} {D : va_G} {al : Nat → Nat} {ext : mv_Sh} {sk sv : Nat → Nat} (hi : mv_inj (mg dA D al ext)) (h : mv_H) (hb : xRP 32 (mv_r h))  {rv : Int32} {rg : mv_H} (hf : f_Exprs_name 32 h = some (rv, rg)) : mv_C l y_Exprs_name (Cond.code y_Exprs_name b_Exprs_name 8 (Option.some Jvm.ClassFile.FieldType.boolean) :: ma) ({ frames := 3, cells := 0, slots := 0, locals := 63 }) (mg dA D al ext) (mK sk sv) [.ref (al 22)] h (mv_Ri (fun v σ1 => rv = v ∧ rg = σ1 ∧ mv_r σ1 = mv_r h)) := by
  refine mv_C.ofV (cc := b_Exprs_name) (nL := 8) (ret := (Option.some Jvm.ClassFile.FieldType.boolean)) (by decide +kernel) rfl hi (Nat.le_of_ble_eq_true rfl) ?_
  intro p e s m below meth c B hNs hr hnm hno
  have jn233 : ∀ (hz : mv_H), mv_r hz = mv_r h → f_Exprs_name_233 32  hz = some (rv, rg) → mv_V p l e ({ frames := 3, cells := 0, slots := 0, locals := 63 }) s m ([.ref (al 22)] : List Value).toArray below meth c (mg dA D al ext) 8 0 0 (mv_Q (mg dA D al ext) below s 0 0 (mv_Ri (fun v σ1 => rv = v ∧ rg = σ1 ∧ mv_r σ1 = mv_r h))) hz 233 [] [] := by
    intro  hz r_hz hf
    unfold f_Exprs_name_233 at hf
    refine mv_iconst (pc := 233) (v := 1) B d_Exprs_name_233 (by decide) ?_
    obtain ⟨q1, hf⟩ := xzb_e hf
    exact mv_iret (pc := 234) B hr (xzb_n q1) d_Exprs_name_234 (Nat.le_refl _) (Nat.le_refl _) ⟨_, rfl, xrh_i hf r_hz⟩
  have jn99 : ∀ (x2 : Int32) (x3 : Int32) (x4 : Int32) (x5 : Int32) (hz : mv_H), mv_r hz = mv_r h → f_Exprs_name_99 32 x2 x3 x4 x5 hz = some (rv, rg) → mv_V p l e ({ frames := 3, cells := 0, slots := 0, locals := 63 }) s m ([.ref (al 22)] : List Value).toArray below meth c (mg dA D al ext) 8 0 0 (mv_Q (mg dA D al ext) below s 0 0 (mv_Ri (fun v σ1 => rv = v ∧ rg = σ1 ∧ mv_r σ1 = mv_r h))) hz 99 [(0, .ref (al 22)), (2, .int x2), (3, .int x3), (4, .int x4), (5, .int x5)] [] := by
    intro x2 x3 x4 x5 hz r_hz hf
    unfold f_Exprs_name_99 at hf
    refine mv_iload (pc := 99) B d_Exprs_name_99 3 rfl ?_
    refine mv_iconst (pc := 101) (v := 4) B d_Exprs_name_101 (by decide) ?_
    refine mv_icmp_ne (pc := 102) (tgt := 140) B d_Exprs_name_102 rfl (fun h102 => ?_) (fun h102 => ?_)
    · skip
      have hf := xif_f h102 hf
      refine mv_iload (pc := 140) B d_Exprs_name_140 3 rfl ?_
      refine mv_iconst (pc := 142) (v := 3) B d_Exprs_name_142 (by decide) ?_
      refine mv_icmp_ne (pc := 143) (tgt := 177) B d_Exprs_name_143 rfl (fun h143 => ?_) (fun h143 => ?_)
      · skip
        have hf := xif_f h143 hf
        refine mv_iload (pc := 177) B d_Exprs_name_177 3 rfl ?_
        refine mv_iconst (pc := 179) (v := 1) B d_Exprs_name_179 (by decide) ?_
        refine mv_icmp_ne (pc := 180) (tgt := 222) B d_Exprs_name_180 rfl (fun h180 => ?_) (fun h180 => ?_)
        · skip
          have hf := xif_f h180 hf
          refine mv_aload_n (pc := 222) B d_Exprs_name_222 rfl 0 rfl ?_
          refine mv_iload_n (pc := 223) B d_Exprs_name_223 rfl 1 rfl ?_
          refine mv_iconst (pc := 224) (v := 2) B d_Exprs_name_224 (by decide) ?_
          obtain ⟨g2, eg2, hf⟩ := xhv_e hf
          refine mv_callVv (pc := 225) (n := 2) (ci := 6) (C := R_Exprs) B (mK_ok sk sv) hNs rfl rfl (ch_Exprs_tell l hi _ (xrw r_hz hb.t) _ _ eg2) rfl (ma_goodc kc_Exprs_tell) (B.2.2.2.1 _ k_1427) (B.2.2.2.1 _ k_1429) (B.2.2.2.1 _ ks_50) (B.2.2.2.1 _ k_7) ⟨by decide +kernel, by decide +kernel, by decide +kernel⟩ rfl d_Exprs_name_225 rfl (Nat.le_of_ble_eq_true rfl) ⟨by decide, by decide⟩ ⟨by decide, by decide⟩ ⟨by decide, by decide⟩ (mv_noH hno _) (fun σ225 h225 => ?_)
          obtain ⟨rfl, s_g2⟩ := h225
          have r_g2 : mv_r g2 = mv_r h := s_g2.trans r_hz
          refine mv_aload_n (pc := 228) B d_Exprs_name_228 rfl 0 rfl ?_
          refine mv_iconst (pc := 229) (v := 0) B d_Exprs_name_229 (by decide) ?_
          obtain ⟨g3, eg3, hf⟩ := xhv_e hf
          refine mv_callVv (pc := 230) (n := 1) (ci := 6) (C := R_Exprs) B (mK_ok sk sv) hNs rfl rfl (ch_Exprs_hold l hi _ (xrw r_g2 hb.t) _ eg3) rfl (ma_goodc kc_Exprs_hold) (B.2.2.2.1 _ k_1432) (B.2.2.2.1 _ k_1434) (B.2.2.2.1 _ ks_51) (B.2.2.2.1 _ k_7) ⟨by decide +kernel, by decide +kernel, by decide +kernel⟩ rfl d_Exprs_name_230 rfl (Nat.le_of_ble_eq_true rfl) ⟨by decide, by decide⟩ ⟨by decide, by decide⟩ ⟨by decide, by decide⟩ (mv_noH hno _) (fun σ230 h230 => ?_)
          obtain ⟨rfl, s_g3⟩ := h230
          have r_g3 : mv_r g3 = mv_r h := s_g3.trans r_g2
          refine mv_lpick [] rfl ?_
          exact jn233  _ r_g3 hf
        · skip
          have hf := xif_t h180 hf
          refine mv_aload_n (pc := 183) B d_Exprs_name_183 rfl 0 rfl ?_
          refine mv_getR (pc := 184) (ci := 6) (C := R_Exprs) (T := F_Exprs) (N := 11) B 3 rfl rfl (by decide) i_Exprs (B.2.2.2.1 _ k_197) rfl ((congrFun (congrFun r_hz 22) 3).trans hb.1.2.2.2) d_Exprs_name_184 ?_
          refine mv_sipush (pc := 187) (v := 303) B d_Exprs_name_187 (by decide) ?_
          refine mv_aload_n (pc := 190) B d_Exprs_name_190 rfl 0 rfl ?_
          refine mv_getR (pc := 191) (ci := 6) (C := R_Exprs) (T := F_Exprs) (N := 11) B 3 rfl rfl (by decide) i_Exprs (B.2.2.2.1 _ k_197) rfl ((congrFun (congrFun r_hz 22) 3).trans hb.1.2.2.2) d_Exprs_name_191 ?_
          refine mv_getR (pc := 194) (ci := 7) (C := R_Program) (T := F_Program) (N := 19) B 4 rfl rfl (by decide) i_Program (B.2.2.2.1 _ k_328) rfl ((congrFun (congrFun r_hz 32) 4).trans (hb.1.2.1 32 4 35 rfl)) d_Exprs_name_194 ?_
          refine mv_iload (pc := 197) B d_Exprs_name_197 4 rfl ?_
          obtain ⟨q4, hf⟩ := xvi_e hf
          refine mv_iald (pc := 199) B rfl q4 d_Exprs_name_199 ?_
          refine mv_i2l (pc := 200) B d_Exprs_name_200 ?_
          obtain ⟨v6, g5, eg5, hf⟩ := xhb_e hf
          refine mv_callVi (pc := 201) (n := 2) (ci := 7) (C := R_Program) B (mK_ok sk sv) hNs rfl rfl (ch_Program_emit_a l hi _ (xrw r_hz hb) _ _ eg5) rfl (ma_goodc kc_Program_emit) (B.2.2.2.1 _ k_1425) (B.2.2.2.1 _ k_1385) (B.2.2.2.1 _ k_1386) (B.2.2.2.1 _ k_8) ⟨by decide +kernel, by decide +kernel, by decide +kernel⟩ rfl d_Exprs_name_201 rfl (Nat.le_of_ble_eq_true rfl) ⟨by decide, by decide⟩ ⟨by decide, by decide⟩ ⟨by decide, by decide⟩ (mv_noH hno _) (fun w201 σ201 h201 => ?_)
          obtain ⟨rfl, rfl, s_g5⟩ := h201
          have r_g5 : mv_r g5 = mv_r h := s_g5.trans r_hz
          refine mv_pop (pc := 204) B d_Exprs_name_204 rfl ?_
          refine mv_aload_n (pc := 205) B d_Exprs_name_205 rfl 0 rfl ?_
          refine mv_aload_n (pc := 206) B d_Exprs_name_206 rfl 0 rfl ?_
          refine mv_getR (pc := 207) (ci := 6) (C := R_Exprs) (T := F_Exprs) (N := 11) B 3 rfl rfl (by decide) i_Exprs (B.2.2.2.1 _ k_197) rfl ((congrFun (congrFun r_g5 22) 3).trans hb.1.2.2.2) d_Exprs_name_207 ?_
          refine mv_getR (pc := 210) (ci := 7) (C := R_Program) (T := F_Program) (N := 19) B 2 rfl rfl (by decide) i_Program (B.2.2.2.1 _ k_320) rfl ((congrFun (congrFun r_g5 32) 2).trans (hb.1.2.1 32 2 33 rfl)) d_Exprs_name_210 ?_
          refine mv_iload (pc := 213) B d_Exprs_name_213 4 rfl ?_
          obtain ⟨q7, hf⟩ := xvi_e hf
          refine mv_iald (pc := 215) B rfl q7 d_Exprs_name_215 ?_
          obtain ⟨g8, eg8, hf⟩ := xhv_e hf
          refine mv_callVv (pc := 216) (n := 1) (ci := 6) (C := R_Exprs) B (mK_ok sk sv) hNs rfl rfl (ch_Exprs_hold l hi _ (xrw r_g5 hb.t) _ eg8) rfl (ma_goodc kc_Exprs_hold) (B.2.2.2.1 _ k_1432) (B.2.2.2.1 _ k_1434) (B.2.2.2.1 _ ks_51) (B.2.2.2.1 _ k_7) ⟨by decide +kernel, by decide +kernel, by decide +kernel⟩ rfl d_Exprs_name_216 rfl (Nat.le_of_ble_eq_true rfl) ⟨by decide, by decide⟩ ⟨by decide, by decide⟩ ⟨by decide, by decide⟩ (mv_noH hno _) (fun σ216 h216 => ?_)
          obtain ⟨rfl, s_g8⟩ := h216
          have r_g8 : mv_r g8 = mv_r h := s_g8.trans r_g5
          refine mv_goto (pc := 219) (tgt := 233) B d_Exprs_name_219 rfl ?_
          refine mv_lpick [] rfl ?_
          exact jn233  _ r_g8 hf
      · skip
        have hf := xif_t h143 hf
        refine mv_aload_n (pc := 146) B d_Exprs_name_146 rfl 0 rfl ?_
        refine mv_getR (pc := 147) (ci := 6) (C := R_Exprs) (T := F_Exprs) (N := 11) B 3 rfl rfl (by decide) i_Exprs (B.2.2.2.1 _ k_197) rfl ((congrFun (congrFun r_hz 22) 3).trans hb.1.2.2.2) d_Exprs_name_147 ?_
        refine mv_sipush (pc := 150) (v := 302) B d_Exprs_name_150 (by decide) ?_
        refine mv_iload (pc := 153) B d_Exprs_name_153 4 rfl ?_
        refine mv_i2l (pc := 155) B d_Exprs_name_155 ?_
        obtain ⟨v10, g9, eg9, hf⟩ := xhb_e hf
        refine mv_callVi (pc := 156) (n := 2) (ci := 7) (C := R_Program) B (mK_ok sk sv) hNs rfl rfl (ch_Program_emit_a l hi _ (xrw r_hz hb) _ _ eg9) rfl (ma_goodc kc_Program_emit) (B.2.2.2.1 _ k_1425) (B.2.2.2.1 _ k_1385) (B.2.2.2.1 _ k_1386) (B.2.2.2.1 _ k_8) ⟨by decide +kernel, by decide +kernel, by decide +kernel⟩ rfl d_Exprs_name_156 rfl (Nat.le_of_ble_eq_true rfl) ⟨by decide, by decide⟩ ⟨by decide, by decide⟩ ⟨by decide, by decide⟩ (mv_noH hno _) (fun w156 σ156 h156 => ?_)
        obtain ⟨rfl, rfl, s_g9⟩ := h156
        have r_g9 : mv_r g9 = mv_r h := s_g9.trans r_hz
        refine mv_pop (pc := 159) B d_Exprs_name_159 rfl ?_
        refine mv_aload_n (pc := 160) B d_Exprs_name_160 rfl 0 rfl ?_
        refine mv_aload_n (pc := 161) B d_Exprs_name_161 rfl 0 rfl ?_
        refine mv_getR (pc := 162) (ci := 6) (C := R_Exprs) (T := F_Exprs) (N := 11) B 1 rfl rfl (by decide) i_Exprs (B.2.2.2.1 _ k_194) rfl ((congrFun (congrFun r_g9 22) 1).trans (hb.1.1 22 1 _ rfl)) d_Exprs_name_162 ?_
        refine mv_getR (pc := 165) (ci := 4) (C := R_Names) (T := F_Names) (N := 10) B 8 rfl rfl (by decide) i_Names (B.2.2.2.1 _ k_147) rfl ((congrFun (congrFun r_g9 13) 8).trans (hb.1.1 13 8 _ rfl)) d_Exprs_name_165 ?_
        refine mv_iload (pc := 168) B d_Exprs_name_168 4 rfl ?_
        obtain ⟨q11, hf⟩ := xvi_e hf
        refine mv_iald (pc := 170) B rfl q11 d_Exprs_name_170 ?_
        obtain ⟨g12, eg12, hf⟩ := xhv_e hf
        refine mv_callVv (pc := 171) (n := 1) (ci := 6) (C := R_Exprs) B (mK_ok sk sv) hNs rfl rfl (ch_Exprs_hold l hi _ (xrw r_g9 hb.t) _ eg12) rfl (ma_goodc kc_Exprs_hold) (B.2.2.2.1 _ k_1432) (B.2.2.2.1 _ k_1434) (B.2.2.2.1 _ ks_51) (B.2.2.2.1 _ k_7) ⟨by decide +kernel, by decide +kernel, by decide +kernel⟩ rfl d_Exprs_name_171 rfl (Nat.le_of_ble_eq_true rfl) ⟨by decide, by decide⟩ ⟨by decide, by decide⟩ ⟨by decide, by decide⟩ (mv_noH hno _) (fun σ171 h171 => ?_)
        obtain ⟨rfl, s_g12⟩ := h171
        have r_g12 : mv_r g12 = mv_r h := s_g12.trans r_g9
        refine mv_goto (pc := 174) (tgt := 233) B d_Exprs_name_174 rfl ?_
        refine mv_lpick [] rfl ?_
        exact jn233  _ r_g12 hf
    · skip
      have hf := xif_t h102 hf
      refine mv_aload_n (pc := 105) B d_Exprs_name_105 rfl 0 rfl ?_
      refine mv_getR (pc := 106) (ci := 6) (C := R_Exprs) (T := F_Exprs) (N := 11) B 1 rfl rfl (by decide) i_Exprs (B.2.2.2.1 _ k_194) rfl ((congrFun (congrFun r_hz 22) 1).trans (hb.1.1 22 1 _ rfl)) d_Exprs_name_106 ?_
      refine mv_iload_n (pc := 109) B d_Exprs_name_109 rfl 2 rfl ?_
      obtain ⟨v14, g13, eg13, hf⟩ := xhb_e hf
      refine mv_callVl (pc := 110) (n := 1) (ci := 4) (C := R_Names) B (mK_ok sk sv) hNs rfl rfl (ch_Names_maskOf l hi _ (xrw r_hz hb.t) _ eg13) rfl (ma_goodc kc_Names_maskOf) (B.2.2.2.1 _ k_1450) (B.2.2.2.1 _ k_1451) (B.2.2.2.1 _ k_1452) (B.2.2.2.1 _ k_5) ⟨by decide +kernel, by decide +kernel, by decide +kernel⟩ rfl d_Exprs_name_110 rfl (Nat.le_of_ble_eq_true rfl) ⟨by decide, by decide⟩ ⟨by decide, by decide⟩ ⟨by decide, by decide⟩ (mv_noH hno _) (fun w110 σ110 h110 => ?_)
      obtain ⟨rfl, rfl, s_g13⟩ := h110
      have r_g13 : mv_r g13 = mv_r h := s_g13.trans r_hz
      refine mv_lstore (pc := 113) B d_Exprs_name_113 (by decide) rfl ?_
      refine mv_aload_n (pc := 115) B d_Exprs_name_115 rfl 1 rfl ?_
      refine mv_getR (pc := 116) (ci := 6) (C := R_Exprs) (T := F_Exprs) (N := 11) B 3 rfl rfl (by decide) i_Exprs (B.2.2.2.1 _ k_197) rfl ((congrFun (congrFun r_g13 22) 3).trans hb.1.2.2.2) d_Exprs_name_116 ?_
      refine mv_sipush (pc := 119) (v := 301) B d_Exprs_name_119 (by decide) ?_
      refine mv_lload (pc := 122) B d_Exprs_name_122 0 rfl ?_
      obtain ⟨v16, g15, eg15, hf⟩ := xhb_e hf
      refine mv_callVi (pc := 124) (n := 2) (ci := 7) (C := R_Program) B (mK_ok sk sv) hNs rfl rfl (ch_Program_emit_a l hi _ (xrw r_g13 hb) _ _ eg15) rfl (ma_goodc kc_Program_emit) (B.2.2.2.1 _ k_1425) (B.2.2.2.1 _ k_1385) (B.2.2.2.1 _ k_1386) (B.2.2.2.1 _ k_8) ⟨by decide +kernel, by decide +kernel, by decide +kernel⟩ rfl d_Exprs_name_124 rfl (Nat.le_of_ble_eq_true rfl) ⟨by decide, by decide⟩ ⟨by decide, by decide⟩ ⟨by decide, by decide⟩ (mv_noH hno _) (fun w124 σ124 h124 => ?_)
      obtain ⟨rfl, rfl, s_g15⟩ := h124
      have r_g15 : mv_r g15 = mv_r h := s_g15.trans r_g13
      refine mv_pop (pc := 127) B d_Exprs_name_127 rfl ?_
      refine mv_aload_n (pc := 128) B d_Exprs_name_128 rfl 1 rfl ?_
      refine mv_lload (pc := 129) B d_Exprs_name_129 0 rfl ?_
      obtain ⟨v18, g17, eg17, hf⟩ := xhb_e hf
      refine mv_callSi (pc := 131) (n := 1) B (mK_ok sk sv) hNs (ch_Long_bitCount l hi _ _ eg17) rfl (ma_goodc kc_Long_bitCount) (B.2.2.2.1 _ k_1454) (B.2.2.2.1 _ k_424) (B.2.2.2.1 _ k_10) ⟨by decide +kernel, by decide +kernel, by decide +kernel⟩ rfl d_Exprs_name_131 rfl (Nat.le_of_ble_eq_true rfl) ⟨by decide, by decide⟩ ⟨by decide, by decide⟩ ⟨by decide, by decide⟩ (mv_noH hno _) (fun w131 σ131 h131 => ?_)
      obtain ⟨rfl, rfl, s_g17⟩ := h131
      have r_g17 : mv_r g17 = mv_r h := s_g17.trans r_g15
      obtain ⟨g19, eg19, hf⟩ := xhv_e hf
      refine mv_callVv (pc := 134) (n := 1) (ci := 6) (C := R_Exprs) B (mK_ok sk sv) hNs rfl rfl (ch_Exprs_hold l hi _ (xrw r_g17 hb.t) _ eg19) rfl (ma_goodc kc_Exprs_hold) (B.2.2.2.1 _ k_1432) (B.2.2.2.1 _ k_1434) (B.2.2.2.1 _ ks_51) (B.2.2.2.1 _ k_7) ⟨by decide +kernel, by decide +kernel, by decide +kernel⟩ rfl d_Exprs_name_134 rfl (Nat.le_of_ble_eq_true rfl) ⟨by decide, by decide⟩ ⟨by decide, by decide⟩ ⟨by decide, by decide⟩ (mv_noH hno _) (fun σ134 h134 => ?_)
      obtain ⟨rfl, s_g19⟩ := h134
      have r_g19 : mv_r g19 = mv_r h := s_g19.trans r_g17
      refine mv_goto (pc := 137) (tgt := 233) B d_Exprs_name_137 rfl ?_
      refine mv_lpick [] rfl ?_
      exact jn233  _ r_g19 hf
  have jn17 : ∀ (y0 : Int32) (hz : mv_H), mv_r hz = mv_r h → f_Exprs_name_17 32 y0 hz = some (rv, rg) → mv_V p l e ({ frames := 3, cells := 0, slots := 0, locals := 63 }) s m ([.ref (al 22)] : List Value).toArray below meth c (mg dA D al ext) 8 0 0 (mv_Q (mg dA D al ext) below s 0 0 (mv_Ri (fun v σ1 => rv = v ∧ rg = σ1 ∧ mv_r σ1 = mv_r h))) hz 17 [(0, .ref (al 22))] [.int y0] := by
    intro y0 hz r_hz hf
    unfold f_Exprs_name_17 at hf
    refine mv_istore_n (pc := 17) B d_Exprs_name_17 rfl (by decide) rfl ?_
    refine mv_aload_n (pc := 18) B d_Exprs_name_18 rfl 1 rfl ?_
    refine mv_getR (pc := 19) (ci := 6) (C := R_Exprs) (T := F_Exprs) (N := 11) B 0 rfl rfl (by decide) i_Exprs (B.2.2.2.1 _ k_193) rfl ((congrFun (congrFun r_hz 22) 0).trans (hb.1.1 22 0 _ rfl)) d_Exprs_name_19 ?_
    refine mv_iconst (pc := 22) (v := 3) B d_Exprs_name_22 (by decide) ?_
    obtain ⟨v21, g20, eg20, hf⟩ := xhb_e hf
    refine mv_callVi (pc := 23) (n := 1) (ci := 2) (C := R_Tokens) B (mK_ok sk sv) hNs rfl rfl (ch_Tokens_take l hi _ (xrw r_hz hb.t) _ eg20) rfl (ma_goodc kc_Tokens_take) (B.2.2.2.1 _ k_1424) (B.2.2.2.1 _ k_1267) (B.2.2.2.1 _ k_1268) (B.2.2.2.1 _ k_3) ⟨by decide +kernel, by decide +kernel, by decide +kernel⟩ rfl d_Exprs_name_23 rfl (Nat.le_of_ble_eq_true rfl) ⟨by decide, by decide⟩ ⟨by decide, by decide⟩ ⟨by decide, by decide⟩ (mv_noH hno _) (fun w23 σ23 h23 => ?_)
    obtain ⟨rfl, rfl, s_g20⟩ := h23
    have r_g20 : mv_r g20 = mv_r h := s_g20.trans r_hz
    refine mv_istore_n (pc := 26) B d_Exprs_name_26 rfl (by decide) rfl ?_
    refine mv_aload_n (pc := 27) B d_Exprs_name_27 rfl 2 rfl ?_
    refine mv_getR (pc := 28) (ci := 6) (C := R_Exprs) (T := F_Exprs) (N := 11) B 0 rfl rfl (by decide) i_Exprs (B.2.2.2.1 _ k_193) rfl ((congrFun (congrFun r_g20 22) 0).trans (hb.1.1 22 0 _ rfl)) d_Exprs_name_28 ?_
    refine mv_getR (pc := 31) (ci := 2) (C := R_Tokens) (T := F_Tokens) (N := 10) B 2 rfl rfl (by decide) i_Tokens (B.2.2.2.1 _ k_95) rfl ((congrFun (congrFun r_g20 3) 2).trans (hb.1.1 3 2 _ rfl)) d_Exprs_name_31 ?_
    refine mv_iload_n (pc := 34) B d_Exprs_name_34 rfl 0 rfl ?_
    obtain ⟨q22, hf⟩ := xvi_e hf
    refine mv_lald (pc := 35) B rfl q22 d_Exprs_name_35 ?_
    refine mv_l2i (pc := 36) B d_Exprs_name_36 ?_
    refine mv_istore_n (pc := 37) B d_Exprs_name_37 rfl (by decide) rfl ?_
    refine mv_aload_n (pc := 38) B d_Exprs_name_38 rfl 3 rfl ?_
    refine mv_getR (pc := 39) (ci := 6) (C := R_Exprs) (T := F_Exprs) (N := 11) B 1 rfl rfl (by decide) i_Exprs (B.2.2.2.1 _ k_194) rfl ((congrFun (congrFun r_g20 22) 1).trans (hb.1.1 22 1 _ rfl)) d_Exprs_name_39 ?_
    refine mv_iload_n (pc := 42) B d_Exprs_name_42 rfl 0 rfl ?_
    obtain ⟨v24, g23, eg23, hf⟩ := xhb_e hf
    refine mv_callVi (pc := 43) (n := 1) (ci := 4) (C := R_Names) B (mK_ok sk sv) hNs rfl rfl (ch_Names_kindOf l hi _ (xrw r_g20 hb.t) _ eg23) rfl (ma_goodc kc_Names_kindOf) (B.2.2.2.1 _ k_1449) (B.2.2.2.1 _ k_1317) (B.2.2.2.1 _ k_1318) (B.2.2.2.1 _ k_5) ⟨by decide +kernel, by decide +kernel, by decide +kernel⟩ rfl d_Exprs_name_43 rfl (Nat.le_of_ble_eq_true rfl) ⟨by decide, by decide⟩ ⟨by decide, by decide⟩ ⟨by decide, by decide⟩ (mv_noH hno _) (fun w43 σ43 h43 => ?_)
    obtain ⟨rfl, rfl, s_g23⟩ := h43
    have r_g23 : mv_r g23 = mv_r h := s_g23.trans r_g20
    refine mv_istore (pc := 46) B d_Exprs_name_46 (by decide) rfl ?_
    refine mv_aload_n (pc := 48) B d_Exprs_name_48 rfl 4 rfl ?_
    refine mv_getR (pc := 49) (ci := 6) (C := R_Exprs) (T := F_Exprs) (N := 11) B 1 rfl rfl (by decide) i_Exprs (B.2.2.2.1 _ k_194) rfl ((congrFun (congrFun r_g23 22) 1).trans (hb.1.1 22 1 _ rfl)) d_Exprs_name_49 ?_
    refine mv_getR (pc := 52) (ci := 4) (C := R_Names) (T := F_Names) (N := 10) B 2 rfl rfl (by decide) i_Names (B.2.2.2.1 _ k_137) rfl ((congrFun (congrFun r_g23 13) 2).trans (hb.1.1 13 2 _ rfl)) d_Exprs_name_52 ?_
    refine mv_iload_n (pc := 55) B d_Exprs_name_55 rfl 1 rfl ?_
    obtain ⟨q25, hf⟩ := xvi_e hf
    refine mv_iald (pc := 56) B rfl q25 d_Exprs_name_56 ?_
    refine mv_istore (pc := 57) B d_Exprs_name_57 (by decide) rfl ?_
    refine mv_iload (pc := 59) B d_Exprs_name_59 1 rfl ?_
    refine mv_iconst (pc := 61) (v := 2) B d_Exprs_name_61 (by decide) ?_
    refine mv_icmp_ne (pc := 62) (tgt := 99) B d_Exprs_name_62 rfl (fun h62 => ?_) (fun h62 => ?_)
    · skip
      have hf := xif_f h62 hf
      refine mv_lpick [5, 3, 2, 1, 0] rfl ?_
      exact jn99 _ _ _ _ _ r_g23 hf
    · skip
      have hf := xif_t h62 hf
      refine mv_iload_n (pc := 65) B d_Exprs_name_65 rfl 4 rfl ?_
      refine mv_if_eq (pc := 66) (tgt := 99) B d_Exprs_name_66 rfl (fun h66 => ?_) (fun h66 => ?_)
      · skip
        have hf := xif_t h66 hf
        refine mv_lpick [5, 3, 2, 1, 0] rfl ?_
        exact jn99 _ _ _ _ _ r_g23 hf
      · skip
        have hf := xif_f h66 hf
        refine mv_aload_n (pc := 69) B d_Exprs_name_69 rfl 5 rfl ?_
        refine mv_bipush (pc := 70) (v := 91) B d_Exprs_name_70 (by decide) ?_
        refine mv_aload_n (pc := 72) B d_Exprs_name_72 rfl 5 rfl ?_
        refine mv_getR (pc := 73) (ci := 6) (C := R_Exprs) (T := F_Exprs) (N := 11) B 0 rfl rfl (by decide) i_Exprs (B.2.2.2.1 _ k_193) rfl ((congrFun (congrFun r_g23 22) 0).trans (hb.1.1 22 0 _ rfl)) d_Exprs_name_73 ?_
        refine mv_bipush (pc := 76) (v := 91) B d_Exprs_name_76 (by decide) ?_
        obtain ⟨v27, g26, eg26, hf⟩ := xhb_e hf
        refine mv_callVi (pc := 78) (n := 1) (ci := 2) (C := R_Tokens) B (mK_ok sk sv) hNs rfl rfl (ch_Tokens_open l hi _ (xrw r_g23 hb.t) _ eg26) rfl (ma_goodc kc_Tokens_open) (B.2.2.2.1 _ k_1415) (B.2.2.2.1 _ k_1350) (B.2.2.2.1 _ k_1351) (B.2.2.2.1 _ k_3) ⟨by decide +kernel, by decide +kernel, by decide +kernel⟩ rfl d_Exprs_name_78 rfl (Nat.le_of_ble_eq_true rfl) ⟨by decide, by decide⟩ ⟨by decide, by decide⟩ ⟨by decide, by decide⟩ (mv_noH hno _) (fun w78 σ78 h78 => ?_)
        obtain ⟨rfl, rfl, s_g26⟩ := h78
        have r_g26 : mv_r g26 = mv_r h := s_g26.trans r_g23
        obtain ⟨g28, eg28, hf⟩ := xhv_e hf
        refine mv_callVv (pc := 81) (n := 2) (ci := 6) (C := R_Exprs) B (mK_ok sk sv) hNs rfl rfl (ch_Exprs_mark l hi _ (xrw r_g26 hb.t) _ _ eg28) rfl (ma_goodc kc_Exprs_mark) (B.2.2.2.1 _ k_1416) (B.2.2.2.1 _ k_1418) (B.2.2.2.1 _ ks_48) (B.2.2.2.1 _ k_7) ⟨by decide +kernel, by decide +kernel, by decide +kernel⟩ rfl d_Exprs_name_81 rfl (Nat.le_of_ble_eq_true rfl) ⟨by decide, by decide⟩ ⟨by decide, by decide⟩ ⟨by decide, by decide⟩ (mv_noH hno _) (fun σ81 h81 => ?_)
        obtain ⟨rfl, s_g28⟩ := h81
        have r_g28 : mv_r g28 = mv_r h := s_g28.trans r_g26
        refine mv_aload_n (pc := 84) B d_Exprs_name_84 rfl 5 rfl ?_
        refine mv_getR (pc := 85) (ci := 6) (C := R_Exprs) (T := F_Exprs) (N := 11) B 6 rfl rfl (by decide) i_Exprs (B.2.2.2.1 _ k_200) rfl ((congrFun (congrFun r_g28 22) 6).trans (hb.1.1 22 6 _ rfl)) d_Exprs_name_85 ?_
        refine mv_aload_n (pc := 88) B d_Exprs_name_88 rfl 5 rfl ?_
        refine mv_getI (pc := 89) (ci := 6) (C := R_Exprs) (T := F_Exprs) (N := 11) B 8 rfl rfl (by decide) i_Exprs (B.2.2.2.1 _ k_202) rfl d_Exprs_name_89 ?_
        refine mv_iconst (pc := 92) (v := 1) B d_Exprs_name_92 (by decide) ?_
        refine mv_isub (pc := 93) B d_Exprs_name_93 ?_
        refine mv_iload (pc := 94) B d_Exprs_name_94 0 rfl ?_
        obtain ⟨q29, hf⟩ := xvi_e hf
        refine mv_iast (pc := 96) B rfl q29 d_Exprs_name_96 ?_
        refine mvh_hp (R9 := mv_r h) hf r_g28 (fun g30 hf r_g30 => ?_)
        refine mv_iconst (pc := 97) (v := 0) B d_Exprs_name_97 (by decide) ?_
        obtain ⟨q31, hf⟩ := xzb_e hf
        exact mv_iret (pc := 98) B hr (xzb_n q31) d_Exprs_name_98 (Nat.le_refl _) (Nat.le_refl _) ⟨_, rfl, xrh_i hf r_g30⟩
  unfold f_Exprs_name at hf
  refine mv_aload_n (pc := 0) B d_Exprs_name_0 rfl 0 rfl ?_
  refine mv_getR (pc := 1) (ci := 6) (C := R_Exprs) (T := F_Exprs) (N := 11) B 0 rfl rfl (by decide) i_Exprs (B.2.2.2.1 _ k_193) rfl (hb.1.1 22 0 _ rfl) d_Exprs_name_1 ?_
  obtain ⟨v33, g32, eg32, hf⟩ := xhb_e hf
  refine mv_callVi (pc := 4) (n := 0) (ci := 2) (C := R_Tokens) B (mK_ok sk sv) hNs rfl rfl (ch_Tokens_kindBehind l hi _ (hb.t) eg32) rfl (ma_goodc kc_Tokens_kindBehind) (B.2.2.2.1 _ k_1445) (B.2.2.2.1 _ k_1446) (B.2.2.2.1 _ k_1447) (B.2.2.2.1 _ k_3) ⟨by decide +kernel, by decide +kernel, by decide +kernel⟩ rfl d_Exprs_name_4 rfl (Nat.le_of_ble_eq_true rfl) ⟨by decide, by decide⟩ ⟨by decide, by decide⟩ ⟨by decide, by decide⟩ (mv_noH hno _) (fun w4 σ4 h4 => ?_)
  obtain ⟨rfl, rfl, s_g32⟩ := h4
  have r_g32 : mv_r g32 = mv_r h := s_g32.trans rfl
  refine mv_bipush (pc := 7) (v := 91) B d_Exprs_name_7 (by decide) ?_
  refine mv_icmp_ne (pc := 9) (tgt := 16) B d_Exprs_name_9 rfl (fun h9 => ?_) (fun h9 => ?_)
  · skip
    have hf := xif_f h9 hf
    refine mv_iconst (pc := 16) (v := 0) B d_Exprs_name_16 (by decide) ?_
    refine mv_lpick [0] rfl ?_
    exact jn17 _ _ r_g32 hf
  · skip
    have hf := xif_t h9 hf
    refine mv_iconst (pc := 12) (v := 1) B d_Exprs_name_12 (by decide) ?_
    refine mv_goto (pc := 13) (tgt := 17) B d_Exprs_name_13 rfl ?_
    refine mv_lpick [0] rfl ?_
    exact jn17 _ _ r_g32 hf
set_option maxHeartbeats 4000000 in
set_option maxRecDepth 100000 in
theorem ch_Exprs_name_b (l : Launch) {dA : FieldType → ClassId} {D : va_G} {al : Nat → Nat} {ext : mv_Sh} {sk sv : Nat → Nat} (hi : mv_inj (mg dA D al ext)) (h : mv_H) (hb : xRP 48 (mv_r h))  {rv : Int32} {rg : mv_H} (hf : f_Exprs_name 48 h = some (rv, rg)) : mv_C l y_Exprs_name (Cond.code y_Exprs_name b_Exprs_name 8 (Option.some Jvm.ClassFile.FieldType.boolean) :: ma) ({ frames := 3, cells := 0, slots := 0, locals := 63 }) (mg dA D al ext) (mK sk sv) [.ref (al 22)] h (mv_Ri (fun v σ1 => rv = v ∧ rg = σ1 ∧ mv_r σ1 = mv_r h)) := by
  refine mv_C.ofV (cc := b_Exprs_name) (nL := 8) (ret := (Option.some Jvm.ClassFile.FieldType.boolean)) (by decide +kernel) rfl hi (Nat.le_of_ble_eq_true rfl) ?_
  intro p e s m below meth c B hNs hr hnm hno
  have jn233 : ∀ (hz : mv_H), mv_r hz = mv_r h → f_Exprs_name_233 48  hz = some (rv, rg) → mv_V p l e ({ frames := 3, cells := 0, slots := 0, locals := 63 }) s m ([.ref (al 22)] : List Value).toArray below meth c (mg dA D al ext) 8 0 0 (mv_Q (mg dA D al ext) below s 0 0 (mv_Ri (fun v σ1 => rv = v ∧ rg = σ1 ∧ mv_r σ1 = mv_r h))) hz 233 [] [] := by
    intro  hz r_hz hf
    unfold f_Exprs_name_233 at hf
    refine mv_iconst (pc := 233) (v := 1) B d_Exprs_name_233 (by decide) ?_
    obtain ⟨q1, hf⟩ := xzb_e hf
    exact mv_iret (pc := 234) B hr (xzb_n q1) d_Exprs_name_234 (Nat.le_refl _) (Nat.le_refl _) ⟨_, rfl, xrh_i hf r_hz⟩
  have jn99 : ∀ (x2 : Int32) (x3 : Int32) (x4 : Int32) (x5 : Int32) (hz : mv_H), mv_r hz = mv_r h → f_Exprs_name_99 48 x2 x3 x4 x5 hz = some (rv, rg) → mv_V p l e ({ frames := 3, cells := 0, slots := 0, locals := 63 }) s m ([.ref (al 22)] : List Value).toArray below meth c (mg dA D al ext) 8 0 0 (mv_Q (mg dA D al ext) below s 0 0 (mv_Ri (fun v σ1 => rv = v ∧ rg = σ1 ∧ mv_r σ1 = mv_r h))) hz 99 [(0, .ref (al 22)), (2, .int x2), (3, .int x3), (4, .int x4), (5, .int x5)] [] := by
    intro x2 x3 x4 x5 hz r_hz hf
    unfold f_Exprs_name_99 at hf
    refine mv_iload (pc := 99) B d_Exprs_name_99 3 rfl ?_
    refine mv_iconst (pc := 101) (v := 4) B d_Exprs_name_101 (by decide) ?_
    refine mv_icmp_ne (pc := 102) (tgt := 140) B d_Exprs_name_102 rfl (fun h102 => ?_) (fun h102 => ?_)
    · skip
      have hf := xif_f h102 hf
      refine mv_iload (pc := 140) B d_Exprs_name_140 3 rfl ?_
      refine mv_iconst (pc := 142) (v := 3) B d_Exprs_name_142 (by decide) ?_
      refine mv_icmp_ne (pc := 143) (tgt := 177) B d_Exprs_name_143 rfl (fun h143 => ?_) (fun h143 => ?_)
      · skip
        have hf := xif_f h143 hf
        refine mv_iload (pc := 177) B d_Exprs_name_177 3 rfl ?_
        refine mv_iconst (pc := 179) (v := 1) B d_Exprs_name_179 (by decide) ?_
        refine mv_icmp_ne (pc := 180) (tgt := 222) B d_Exprs_name_180 rfl (fun h180 => ?_) (fun h180 => ?_)
        · skip
          have hf := xif_f h180 hf
          refine mv_aload_n (pc := 222) B d_Exprs_name_222 rfl 0 rfl ?_
          refine mv_iload_n (pc := 223) B d_Exprs_name_223 rfl 1 rfl ?_
          refine mv_iconst (pc := 224) (v := 2) B d_Exprs_name_224 (by decide) ?_
          obtain ⟨g2, eg2, hf⟩ := xhv_e hf
          refine mv_callVv (pc := 225) (n := 2) (ci := 6) (C := R_Exprs) B (mK_ok sk sv) hNs rfl rfl (ch_Exprs_tell l hi _ (xrw r_hz hb.t) _ _ eg2) rfl (ma_goodc kc_Exprs_tell) (B.2.2.2.1 _ k_1427) (B.2.2.2.1 _ k_1429) (B.2.2.2.1 _ ks_50) (B.2.2.2.1 _ k_7) ⟨by decide +kernel, by decide +kernel, by decide +kernel⟩ rfl d_Exprs_name_225 rfl (Nat.le_of_ble_eq_true rfl) ⟨by decide, by decide⟩ ⟨by decide, by decide⟩ ⟨by decide, by decide⟩ (mv_noH hno _) (fun σ225 h225 => ?_)
          obtain ⟨rfl, s_g2⟩ := h225
          have r_g2 : mv_r g2 = mv_r h := s_g2.trans r_hz
          refine mv_aload_n (pc := 228) B d_Exprs_name_228 rfl 0 rfl ?_
          refine mv_iconst (pc := 229) (v := 0) B d_Exprs_name_229 (by decide) ?_
          obtain ⟨g3, eg3, hf⟩ := xhv_e hf
          refine mv_callVv (pc := 230) (n := 1) (ci := 6) (C := R_Exprs) B (mK_ok sk sv) hNs rfl rfl (ch_Exprs_hold l hi _ (xrw r_g2 hb.t) _ eg3) rfl (ma_goodc kc_Exprs_hold) (B.2.2.2.1 _ k_1432) (B.2.2.2.1 _ k_1434) (B.2.2.2.1 _ ks_51) (B.2.2.2.1 _ k_7) ⟨by decide +kernel, by decide +kernel, by decide +kernel⟩ rfl d_Exprs_name_230 rfl (Nat.le_of_ble_eq_true rfl) ⟨by decide, by decide⟩ ⟨by decide, by decide⟩ ⟨by decide, by decide⟩ (mv_noH hno _) (fun σ230 h230 => ?_)
          obtain ⟨rfl, s_g3⟩ := h230
          have r_g3 : mv_r g3 = mv_r h := s_g3.trans r_g2
          refine mv_lpick [] rfl ?_
          exact jn233  _ r_g3 hf
        · skip
          have hf := xif_t h180 hf
          refine mv_aload_n (pc := 183) B d_Exprs_name_183 rfl 0 rfl ?_
          refine mv_getR (pc := 184) (ci := 6) (C := R_Exprs) (T := F_Exprs) (N := 11) B 3 rfl rfl (by decide) i_Exprs (B.2.2.2.1 _ k_197) rfl ((congrFun (congrFun r_hz 22) 3).trans hb.1.2.2.2) d_Exprs_name_184 ?_
          refine mv_sipush (pc := 187) (v := 303) B d_Exprs_name_187 (by decide) ?_
          refine mv_aload_n (pc := 190) B d_Exprs_name_190 rfl 0 rfl ?_
          refine mv_getR (pc := 191) (ci := 6) (C := R_Exprs) (T := F_Exprs) (N := 11) B 3 rfl rfl (by decide) i_Exprs (B.2.2.2.1 _ k_197) rfl ((congrFun (congrFun r_hz 22) 3).trans hb.1.2.2.2) d_Exprs_name_191 ?_
          refine mv_getR (pc := 194) (ci := 7) (C := R_Program) (T := F_Program) (N := 19) B 4 rfl rfl (by decide) i_Program (B.2.2.2.1 _ k_328) rfl ((congrFun (congrFun r_hz 48) 4).trans (hb.1.2.1 48 4 51 rfl)) d_Exprs_name_194 ?_
          refine mv_iload (pc := 197) B d_Exprs_name_197 4 rfl ?_
          obtain ⟨q4, hf⟩ := xvi_e hf
          refine mv_iald (pc := 199) B rfl q4 d_Exprs_name_199 ?_
          refine mv_i2l (pc := 200) B d_Exprs_name_200 ?_
          obtain ⟨v6, g5, eg5, hf⟩ := xhb_e hf
          refine mv_callVi (pc := 201) (n := 2) (ci := 7) (C := R_Program) B (mK_ok sk sv) hNs rfl rfl (ch_Program_emit_b l hi _ (xrw r_hz hb) _ _ eg5) rfl (ma_goodc kc_Program_emit) (B.2.2.2.1 _ k_1425) (B.2.2.2.1 _ k_1385) (B.2.2.2.1 _ k_1386) (B.2.2.2.1 _ k_8) ⟨by decide +kernel, by decide +kernel, by decide +kernel⟩ rfl d_Exprs_name_201 rfl (Nat.le_of_ble_eq_true rfl) ⟨by decide, by decide⟩ ⟨by decide, by decide⟩ ⟨by decide, by decide⟩ (mv_noH hno _) (fun w201 σ201 h201 => ?_)
          obtain ⟨rfl, rfl, s_g5⟩ := h201
          have r_g5 : mv_r g5 = mv_r h := s_g5.trans r_hz
          refine mv_pop (pc := 204) B d_Exprs_name_204 rfl ?_
          refine mv_aload_n (pc := 205) B d_Exprs_name_205 rfl 0 rfl ?_
          refine mv_aload_n (pc := 206) B d_Exprs_name_206 rfl 0 rfl ?_
          refine mv_getR (pc := 207) (ci := 6) (C := R_Exprs) (T := F_Exprs) (N := 11) B 3 rfl rfl (by decide) i_Exprs (B.2.2.2.1 _ k_197) rfl ((congrFun (congrFun r_g5 22) 3).trans hb.1.2.2.2) d_Exprs_name_207 ?_
          refine mv_getR (pc := 210) (ci := 7) (C := R_Program) (T := F_Program) (N := 19) B 2 rfl rfl (by decide) i_Program (B.2.2.2.1 _ k_320) rfl ((congrFun (congrFun r_g5 48) 2).trans (hb.1.2.1 48 2 49 rfl)) d_Exprs_name_210 ?_
          refine mv_iload (pc := 213) B d_Exprs_name_213 4 rfl ?_
          obtain ⟨q7, hf⟩ := xvi_e hf
          refine mv_iald (pc := 215) B rfl q7 d_Exprs_name_215 ?_
          obtain ⟨g8, eg8, hf⟩ := xhv_e hf
          refine mv_callVv (pc := 216) (n := 1) (ci := 6) (C := R_Exprs) B (mK_ok sk sv) hNs rfl rfl (ch_Exprs_hold l hi _ (xrw r_g5 hb.t) _ eg8) rfl (ma_goodc kc_Exprs_hold) (B.2.2.2.1 _ k_1432) (B.2.2.2.1 _ k_1434) (B.2.2.2.1 _ ks_51) (B.2.2.2.1 _ k_7) ⟨by decide +kernel, by decide +kernel, by decide +kernel⟩ rfl d_Exprs_name_216 rfl (Nat.le_of_ble_eq_true rfl) ⟨by decide, by decide⟩ ⟨by decide, by decide⟩ ⟨by decide, by decide⟩ (mv_noH hno _) (fun σ216 h216 => ?_)
          obtain ⟨rfl, s_g8⟩ := h216
          have r_g8 : mv_r g8 = mv_r h := s_g8.trans r_g5
          refine mv_goto (pc := 219) (tgt := 233) B d_Exprs_name_219 rfl ?_
          refine mv_lpick [] rfl ?_
          exact jn233  _ r_g8 hf
      · skip
        have hf := xif_t h143 hf
        refine mv_aload_n (pc := 146) B d_Exprs_name_146 rfl 0 rfl ?_
        refine mv_getR (pc := 147) (ci := 6) (C := R_Exprs) (T := F_Exprs) (N := 11) B 3 rfl rfl (by decide) i_Exprs (B.2.2.2.1 _ k_197) rfl ((congrFun (congrFun r_hz 22) 3).trans hb.1.2.2.2) d_Exprs_name_147 ?_
        refine mv_sipush (pc := 150) (v := 302) B d_Exprs_name_150 (by decide) ?_
        refine mv_iload (pc := 153) B d_Exprs_name_153 4 rfl ?_
        refine mv_i2l (pc := 155) B d_Exprs_name_155 ?_
        obtain ⟨v10, g9, eg9, hf⟩ := xhb_e hf
        refine mv_callVi (pc := 156) (n := 2) (ci := 7) (C := R_Program) B (mK_ok sk sv) hNs rfl rfl (ch_Program_emit_b l hi _ (xrw r_hz hb) _ _ eg9) rfl (ma_goodc kc_Program_emit) (B.2.2.2.1 _ k_1425) (B.2.2.2.1 _ k_1385) (B.2.2.2.1 _ k_1386) (B.2.2.2.1 _ k_8) ⟨by decide +kernel, by decide +kernel, by decide +kernel⟩ rfl d_Exprs_name_156 rfl (Nat.le_of_ble_eq_true rfl) ⟨by decide, by decide⟩ ⟨by decide, by decide⟩ ⟨by decide, by decide⟩ (mv_noH hno _) (fun w156 σ156 h156 => ?_)
        obtain ⟨rfl, rfl, s_g9⟩ := h156
        have r_g9 : mv_r g9 = mv_r h := s_g9.trans r_hz
        refine mv_pop (pc := 159) B d_Exprs_name_159 rfl ?_
        refine mv_aload_n (pc := 160) B d_Exprs_name_160 rfl 0 rfl ?_
        refine mv_aload_n (pc := 161) B d_Exprs_name_161 rfl 0 rfl ?_
        refine mv_getR (pc := 162) (ci := 6) (C := R_Exprs) (T := F_Exprs) (N := 11) B 1 rfl rfl (by decide) i_Exprs (B.2.2.2.1 _ k_194) rfl ((congrFun (congrFun r_g9 22) 1).trans (hb.1.1 22 1 _ rfl)) d_Exprs_name_162 ?_
        refine mv_getR (pc := 165) (ci := 4) (C := R_Names) (T := F_Names) (N := 10) B 8 rfl rfl (by decide) i_Names (B.2.2.2.1 _ k_147) rfl ((congrFun (congrFun r_g9 13) 8).trans (hb.1.1 13 8 _ rfl)) d_Exprs_name_165 ?_
        refine mv_iload (pc := 168) B d_Exprs_name_168 4 rfl ?_
        obtain ⟨q11, hf⟩ := xvi_e hf
        refine mv_iald (pc := 170) B rfl q11 d_Exprs_name_170 ?_
        obtain ⟨g12, eg12, hf⟩ := xhv_e hf
        refine mv_callVv (pc := 171) (n := 1) (ci := 6) (C := R_Exprs) B (mK_ok sk sv) hNs rfl rfl (ch_Exprs_hold l hi _ (xrw r_g9 hb.t) _ eg12) rfl (ma_goodc kc_Exprs_hold) (B.2.2.2.1 _ k_1432) (B.2.2.2.1 _ k_1434) (B.2.2.2.1 _ ks_51) (B.2.2.2.1 _ k_7) ⟨by decide +kernel, by decide +kernel, by decide +kernel⟩ rfl d_Exprs_name_171 rfl (Nat.le_of_ble_eq_true rfl) ⟨by decide, by decide⟩ ⟨by decide, by decide⟩ ⟨by decide, by decide⟩ (mv_noH hno _) (fun σ171 h171 => ?_)
        obtain ⟨rfl, s_g12⟩ := h171
        have r_g12 : mv_r g12 = mv_r h := s_g12.trans r_g9
        refine mv_goto (pc := 174) (tgt := 233) B d_Exprs_name_174 rfl ?_
        refine mv_lpick [] rfl ?_
        exact jn233  _ r_g12 hf
    · skip
      have hf := xif_t h102 hf
      refine mv_aload_n (pc := 105) B d_Exprs_name_105 rfl 0 rfl ?_
      refine mv_getR (pc := 106) (ci := 6) (C := R_Exprs) (T := F_Exprs) (N := 11) B 1 rfl rfl (by decide) i_Exprs (B.2.2.2.1 _ k_194) rfl ((congrFun (congrFun r_hz 22) 1).trans (hb.1.1 22 1 _ rfl)) d_Exprs_name_106 ?_
      refine mv_iload_n (pc := 109) B d_Exprs_name_109 rfl 2 rfl ?_
      obtain ⟨v14, g13, eg13, hf⟩ := xhb_e hf
      refine mv_callVl (pc := 110) (n := 1) (ci := 4) (C := R_Names) B (mK_ok sk sv) hNs rfl rfl (ch_Names_maskOf l hi _ (xrw r_hz hb.t) _ eg13) rfl (ma_goodc kc_Names_maskOf) (B.2.2.2.1 _ k_1450) (B.2.2.2.1 _ k_1451) (B.2.2.2.1 _ k_1452) (B.2.2.2.1 _ k_5) ⟨by decide +kernel, by decide +kernel, by decide +kernel⟩ rfl d_Exprs_name_110 rfl (Nat.le_of_ble_eq_true rfl) ⟨by decide, by decide⟩ ⟨by decide, by decide⟩ ⟨by decide, by decide⟩ (mv_noH hno _) (fun w110 σ110 h110 => ?_)
      obtain ⟨rfl, rfl, s_g13⟩ := h110
      have r_g13 : mv_r g13 = mv_r h := s_g13.trans r_hz
      refine mv_lstore (pc := 113) B d_Exprs_name_113 (by decide) rfl ?_
      refine mv_aload_n (pc := 115) B d_Exprs_name_115 rfl 1 rfl ?_
      refine mv_getR (pc := 116) (ci := 6) (C := R_Exprs) (T := F_Exprs) (N := 11) B 3 rfl rfl (by decide) i_Exprs (B.2.2.2.1 _ k_197) rfl ((congrFun (congrFun r_g13 22) 3).trans hb.1.2.2.2) d_Exprs_name_116 ?_
      refine mv_sipush (pc := 119) (v := 301) B d_Exprs_name_119 (by decide) ?_
      refine mv_lload (pc := 122) B d_Exprs_name_122 0 rfl ?_
      obtain ⟨v16, g15, eg15, hf⟩ := xhb_e hf
      refine mv_callVi (pc := 124) (n := 2) (ci := 7) (C := R_Program) B (mK_ok sk sv) hNs rfl rfl (ch_Program_emit_b l hi _ (xrw r_g13 hb) _ _ eg15) rfl (ma_goodc kc_Program_emit) (B.2.2.2.1 _ k_1425) (B.2.2.2.1 _ k_1385) (B.2.2.2.1 _ k_1386) (B.2.2.2.1 _ k_8) ⟨by decide +kernel, by decide +kernel, by decide +kernel⟩ rfl d_Exprs_name_124 rfl (Nat.le_of_ble_eq_true rfl) ⟨by decide, by decide⟩ ⟨by decide, by decide⟩ ⟨by decide, by decide⟩ (mv_noH hno _) (fun w124 σ124 h124 => ?_)
      obtain ⟨rfl, rfl, s_g15⟩ := h124
      have r_g15 : mv_r g15 = mv_r h := s_g15.trans r_g13
      refine mv_pop (pc := 127) B d_Exprs_name_127 rfl ?_
      refine mv_aload_n (pc := 128) B d_Exprs_name_128 rfl 1 rfl ?_
      refine mv_lload (pc := 129) B d_Exprs_name_129 0 rfl ?_
      obtain ⟨v18, g17, eg17, hf⟩ := xhb_e hf
      refine mv_callSi (pc := 131) (n := 1) B (mK_ok sk sv) hNs (ch_Long_bitCount l hi _ _ eg17) rfl (ma_goodc kc_Long_bitCount) (B.2.2.2.1 _ k_1454) (B.2.2.2.1 _ k_424) (B.2.2.2.1 _ k_10) ⟨by decide +kernel, by decide +kernel, by decide +kernel⟩ rfl d_Exprs_name_131 rfl (Nat.le_of_ble_eq_true rfl) ⟨by decide, by decide⟩ ⟨by decide, by decide⟩ ⟨by decide, by decide⟩ (mv_noH hno _) (fun w131 σ131 h131 => ?_)
      obtain ⟨rfl, rfl, s_g17⟩ := h131
      have r_g17 : mv_r g17 = mv_r h := s_g17.trans r_g15
      obtain ⟨g19, eg19, hf⟩ := xhv_e hf
      refine mv_callVv (pc := 134) (n := 1) (ci := 6) (C := R_Exprs) B (mK_ok sk sv) hNs rfl rfl (ch_Exprs_hold l hi _ (xrw r_g17 hb.t) _ eg19) rfl (ma_goodc kc_Exprs_hold) (B.2.2.2.1 _ k_1432) (B.2.2.2.1 _ k_1434) (B.2.2.2.1 _ ks_51) (B.2.2.2.1 _ k_7) ⟨by decide +kernel, by decide +kernel, by decide +kernel⟩ rfl d_Exprs_name_134 rfl (Nat.le_of_ble_eq_true rfl) ⟨by decide, by decide⟩ ⟨by decide, by decide⟩ ⟨by decide, by decide⟩ (mv_noH hno _) (fun σ134 h134 => ?_)
      obtain ⟨rfl, s_g19⟩ := h134
      have r_g19 : mv_r g19 = mv_r h := s_g19.trans r_g17
      refine mv_goto (pc := 137) (tgt := 233) B d_Exprs_name_137 rfl ?_
      refine mv_lpick [] rfl ?_
      exact jn233  _ r_g19 hf
  have jn17 : ∀ (y0 : Int32) (hz : mv_H), mv_r hz = mv_r h → f_Exprs_name_17 48 y0 hz = some (rv, rg) → mv_V p l e ({ frames := 3, cells := 0, slots := 0, locals := 63 }) s m ([.ref (al 22)] : List Value).toArray below meth c (mg dA D al ext) 8 0 0 (mv_Q (mg dA D al ext) below s 0 0 (mv_Ri (fun v σ1 => rv = v ∧ rg = σ1 ∧ mv_r σ1 = mv_r h))) hz 17 [(0, .ref (al 22))] [.int y0] := by
    intro y0 hz r_hz hf
    unfold f_Exprs_name_17 at hf
    refine mv_istore_n (pc := 17) B d_Exprs_name_17 rfl (by decide) rfl ?_
    refine mv_aload_n (pc := 18) B d_Exprs_name_18 rfl 1 rfl ?_
    refine mv_getR (pc := 19) (ci := 6) (C := R_Exprs) (T := F_Exprs) (N := 11) B 0 rfl rfl (by decide) i_Exprs (B.2.2.2.1 _ k_193) rfl ((congrFun (congrFun r_hz 22) 0).trans (hb.1.1 22 0 _ rfl)) d_Exprs_name_19 ?_
    refine mv_iconst (pc := 22) (v := 3) B d_Exprs_name_22 (by decide) ?_
    obtain ⟨v21, g20, eg20, hf⟩ := xhb_e hf
    refine mv_callVi (pc := 23) (n := 1) (ci := 2) (C := R_Tokens) B (mK_ok sk sv) hNs rfl rfl (ch_Tokens_take l hi _ (xrw r_hz hb.t) _ eg20) rfl (ma_goodc kc_Tokens_take) (B.2.2.2.1 _ k_1424) (B.2.2.2.1 _ k_1267) (B.2.2.2.1 _ k_1268) (B.2.2.2.1 _ k_3) ⟨by decide +kernel, by decide +kernel, by decide +kernel⟩ rfl d_Exprs_name_23 rfl (Nat.le_of_ble_eq_true rfl) ⟨by decide, by decide⟩ ⟨by decide, by decide⟩ ⟨by decide, by decide⟩ (mv_noH hno _) (fun w23 σ23 h23 => ?_)
    obtain ⟨rfl, rfl, s_g20⟩ := h23
    have r_g20 : mv_r g20 = mv_r h := s_g20.trans r_hz
    refine mv_istore_n (pc := 26) B d_Exprs_name_26 rfl (by decide) rfl ?_
    refine mv_aload_n (pc := 27) B d_Exprs_name_27 rfl 2 rfl ?_
    refine mv_getR (pc := 28) (ci := 6) (C := R_Exprs) (T := F_Exprs) (N := 11) B 0 rfl rfl (by decide) i_Exprs (B.2.2.2.1 _ k_193) rfl ((congrFun (congrFun r_g20 22) 0).trans (hb.1.1 22 0 _ rfl)) d_Exprs_name_28 ?_
    refine mv_getR (pc := 31) (ci := 2) (C := R_Tokens) (T := F_Tokens) (N := 10) B 2 rfl rfl (by decide) i_Tokens (B.2.2.2.1 _ k_95) rfl ((congrFun (congrFun r_g20 3) 2).trans (hb.1.1 3 2 _ rfl)) d_Exprs_name_31 ?_
    refine mv_iload_n (pc := 34) B d_Exprs_name_34 rfl 0 rfl ?_
    obtain ⟨q22, hf⟩ := xvi_e hf
    refine mv_lald (pc := 35) B rfl q22 d_Exprs_name_35 ?_
    refine mv_l2i (pc := 36) B d_Exprs_name_36 ?_
    refine mv_istore_n (pc := 37) B d_Exprs_name_37 rfl (by decide) rfl ?_
    refine mv_aload_n (pc := 38) B d_Exprs_name_38 rfl 3 rfl ?_
    refine mv_getR (pc := 39) (ci := 6) (C := R_Exprs) (T := F_Exprs) (N := 11) B 1 rfl rfl (by decide) i_Exprs (B.2.2.2.1 _ k_194) rfl ((congrFun (congrFun r_g20 22) 1).trans (hb.1.1 22 1 _ rfl)) d_Exprs_name_39 ?_
    refine mv_iload_n (pc := 42) B d_Exprs_name_42 rfl 0 rfl ?_
    obtain ⟨v24, g23, eg23, hf⟩ := xhb_e hf
    refine mv_callVi (pc := 43) (n := 1) (ci := 4) (C := R_Names) B (mK_ok sk sv) hNs rfl rfl (ch_Names_kindOf l hi _ (xrw r_g20 hb.t) _ eg23) rfl (ma_goodc kc_Names_kindOf) (B.2.2.2.1 _ k_1449) (B.2.2.2.1 _ k_1317) (B.2.2.2.1 _ k_1318) (B.2.2.2.1 _ k_5) ⟨by decide +kernel, by decide +kernel, by decide +kernel⟩ rfl d_Exprs_name_43 rfl (Nat.le_of_ble_eq_true rfl) ⟨by decide, by decide⟩ ⟨by decide, by decide⟩ ⟨by decide, by decide⟩ (mv_noH hno _) (fun w43 σ43 h43 => ?_)
    obtain ⟨rfl, rfl, s_g23⟩ := h43
    have r_g23 : mv_r g23 = mv_r h := s_g23.trans r_g20
    refine mv_istore (pc := 46) B d_Exprs_name_46 (by decide) rfl ?_
    refine mv_aload_n (pc := 48) B d_Exprs_name_48 rfl 4 rfl ?_
    refine mv_getR (pc := 49) (ci := 6) (C := R_Exprs) (T := F_Exprs) (N := 11) B 1 rfl rfl (by decide) i_Exprs (B.2.2.2.1 _ k_194) rfl ((congrFun (congrFun r_g23 22) 1).trans (hb.1.1 22 1 _ rfl)) d_Exprs_name_49 ?_
    refine mv_getR (pc := 52) (ci := 4) (C := R_Names) (T := F_Names) (N := 10) B 2 rfl rfl (by decide) i_Names (B.2.2.2.1 _ k_137) rfl ((congrFun (congrFun r_g23 13) 2).trans (hb.1.1 13 2 _ rfl)) d_Exprs_name_52 ?_
    refine mv_iload_n (pc := 55) B d_Exprs_name_55 rfl 1 rfl ?_
    obtain ⟨q25, hf⟩ := xvi_e hf
    refine mv_iald (pc := 56) B rfl q25 d_Exprs_name_56 ?_
    refine mv_istore (pc := 57) B d_Exprs_name_57 (by decide) rfl ?_
    refine mv_iload (pc := 59) B d_Exprs_name_59 1 rfl ?_
    refine mv_iconst (pc := 61) (v := 2) B d_Exprs_name_61 (by decide) ?_
    refine mv_icmp_ne (pc := 62) (tgt := 99) B d_Exprs_name_62 rfl (fun h62 => ?_) (fun h62 => ?_)
    · skip
      have hf := xif_f h62 hf
      refine mv_lpick [5, 3, 2, 1, 0] rfl ?_
      exact jn99 _ _ _ _ _ r_g23 hf
    · skip
      have hf := xif_t h62 hf
      refine mv_iload_n (pc := 65) B d_Exprs_name_65 rfl 4 rfl ?_
      refine mv_if_eq (pc := 66) (tgt := 99) B d_Exprs_name_66 rfl (fun h66 => ?_) (fun h66 => ?_)
      · skip
        have hf := xif_t h66 hf
        refine mv_lpick [5, 3, 2, 1, 0] rfl ?_
        exact jn99 _ _ _ _ _ r_g23 hf
      · skip
        have hf := xif_f h66 hf
        refine mv_aload_n (pc := 69) B d_Exprs_name_69 rfl 5 rfl ?_
        refine mv_bipush (pc := 70) (v := 91) B d_Exprs_name_70 (by decide) ?_
        refine mv_aload_n (pc := 72) B d_Exprs_name_72 rfl 5 rfl ?_
        refine mv_getR (pc := 73) (ci := 6) (C := R_Exprs) (T := F_Exprs) (N := 11) B 0 rfl rfl (by decide) i_Exprs (B.2.2.2.1 _ k_193) rfl ((congrFun (congrFun r_g23 22) 0).trans (hb.1.1 22 0 _ rfl)) d_Exprs_name_73 ?_
        refine mv_bipush (pc := 76) (v := 91) B d_Exprs_name_76 (by decide) ?_
        obtain ⟨v27, g26, eg26, hf⟩ := xhb_e hf
        refine mv_callVi (pc := 78) (n := 1) (ci := 2) (C := R_Tokens) B (mK_ok sk sv) hNs rfl rfl (ch_Tokens_open l hi _ (xrw r_g23 hb.t) _ eg26) rfl (ma_goodc kc_Tokens_open) (B.2.2.2.1 _ k_1415) (B.2.2.2.1 _ k_1350) (B.2.2.2.1 _ k_1351) (B.2.2.2.1 _ k_3) ⟨by decide +kernel, by decide +kernel, by decide +kernel⟩ rfl d_Exprs_name_78 rfl (Nat.le_of_ble_eq_true rfl) ⟨by decide, by decide⟩ ⟨by decide, by decide⟩ ⟨by decide, by decide⟩ (mv_noH hno _) (fun w78 σ78 h78 => ?_)
        obtain ⟨rfl, rfl, s_g26⟩ := h78
        have r_g26 : mv_r g26 = mv_r h := s_g26.trans r_g23
        obtain ⟨g28, eg28, hf⟩ := xhv_e hf
        refine mv_callVv (pc := 81) (n := 2) (ci := 6) (C := R_Exprs) B (mK_ok sk sv) hNs rfl rfl (ch_Exprs_mark l hi _ (xrw r_g26 hb.t) _ _ eg28) rfl (ma_goodc kc_Exprs_mark) (B.2.2.2.1 _ k_1416) (B.2.2.2.1 _ k_1418) (B.2.2.2.1 _ ks_48) (B.2.2.2.1 _ k_7) ⟨by decide +kernel, by decide +kernel, by decide +kernel⟩ rfl d_Exprs_name_81 rfl (Nat.le_of_ble_eq_true rfl) ⟨by decide, by decide⟩ ⟨by decide, by decide⟩ ⟨by decide, by decide⟩ (mv_noH hno _) (fun σ81 h81 => ?_)
        obtain ⟨rfl, s_g28⟩ := h81
        have r_g28 : mv_r g28 = mv_r h := s_g28.trans r_g26
        refine mv_aload_n (pc := 84) B d_Exprs_name_84 rfl 5 rfl ?_
        refine mv_getR (pc := 85) (ci := 6) (C := R_Exprs) (T := F_Exprs) (N := 11) B 6 rfl rfl (by decide) i_Exprs (B.2.2.2.1 _ k_200) rfl ((congrFun (congrFun r_g28 22) 6).trans (hb.1.1 22 6 _ rfl)) d_Exprs_name_85 ?_
        refine mv_aload_n (pc := 88) B d_Exprs_name_88 rfl 5 rfl ?_
        refine mv_getI (pc := 89) (ci := 6) (C := R_Exprs) (T := F_Exprs) (N := 11) B 8 rfl rfl (by decide) i_Exprs (B.2.2.2.1 _ k_202) rfl d_Exprs_name_89 ?_
        refine mv_iconst (pc := 92) (v := 1) B d_Exprs_name_92 (by decide) ?_
        refine mv_isub (pc := 93) B d_Exprs_name_93 ?_
        refine mv_iload (pc := 94) B d_Exprs_name_94 0 rfl ?_
        obtain ⟨q29, hf⟩ := xvi_e hf
        refine mv_iast (pc := 96) B rfl q29 d_Exprs_name_96 ?_
        refine mvh_hp (R9 := mv_r h) hf r_g28 (fun g30 hf r_g30 => ?_)
        refine mv_iconst (pc := 97) (v := 0) B d_Exprs_name_97 (by decide) ?_
        obtain ⟨q31, hf⟩ := xzb_e hf
        exact mv_iret (pc := 98) B hr (xzb_n q31) d_Exprs_name_98 (Nat.le_refl _) (Nat.le_refl _) ⟨_, rfl, xrh_i hf r_g30⟩
  unfold f_Exprs_name at hf
  refine mv_aload_n (pc := 0) B d_Exprs_name_0 rfl 0 rfl ?_
  refine mv_getR (pc := 1) (ci := 6) (C := R_Exprs) (T := F_Exprs) (N := 11) B 0 rfl rfl (by decide) i_Exprs (B.2.2.2.1 _ k_193) rfl (hb.1.1 22 0 _ rfl) d_Exprs_name_1 ?_
  obtain ⟨v33, g32, eg32, hf⟩ := xhb_e hf
  refine mv_callVi (pc := 4) (n := 0) (ci := 2) (C := R_Tokens) B (mK_ok sk sv) hNs rfl rfl (ch_Tokens_kindBehind l hi _ (hb.t) eg32) rfl (ma_goodc kc_Tokens_kindBehind) (B.2.2.2.1 _ k_1445) (B.2.2.2.1 _ k_1446) (B.2.2.2.1 _ k_1447) (B.2.2.2.1 _ k_3) ⟨by decide +kernel, by decide +kernel, by decide +kernel⟩ rfl d_Exprs_name_4 rfl (Nat.le_of_ble_eq_true rfl) ⟨by decide, by decide⟩ ⟨by decide, by decide⟩ ⟨by decide, by decide⟩ (mv_noH hno _) (fun w4 σ4 h4 => ?_)
  obtain ⟨rfl, rfl, s_g32⟩ := h4
  have r_g32 : mv_r g32 = mv_r h := s_g32.trans rfl
  refine mv_bipush (pc := 7) (v := 91) B d_Exprs_name_7 (by decide) ?_
  refine mv_icmp_ne (pc := 9) (tgt := 16) B d_Exprs_name_9 rfl (fun h9 => ?_) (fun h9 => ?_)
  · skip
    have hf := xif_f h9 hf
    refine mv_iconst (pc := 16) (v := 0) B d_Exprs_name_16 (by decide) ?_
    refine mv_lpick [0] rfl ?_
    exact jn17 _ _ r_g32 hf
  · skip
    have hf := xif_t h9 hf
    refine mv_iconst (pc := 12) (v := 1) B d_Exprs_name_12 (by decide) ?_
    refine mv_goto (pc := 13) (tgt := 17) B d_Exprs_name_13 rfl ?_
    refine mv_lpick [0] rfl ?_
    exact jn17 _ _ r_g32 hf
def f_Exprs_operand_127 (P : Nat) (x1 : Int32) (hz : mv_H) : Option (Int32 × mv_H) := xhb (f_Tokens_open hz x1) fun v2 g1 => xhv (f_Exprs_mark g1 x1 v2) fun g3 => bif xzb (0 : Int32) then some ((0 : Int32), g3) else none
def f_Exprs_operand (P : Nat) (h : mv_H) : Option (Int32 × mv_H) := xhb (f_Tokens_kind h) fun v6 g5 => if (v6).toInt = 3 then (xhb (f_Exprs_name P g5) fun v8 g7 => bif xzb v8 then some (v8, g7) else none) else (if (v6).toInt = 4 then (xhv (f_Exprs_literal P g5) fun g10 => bif xzb (1 : Int32) then some ((1 : Int32), g10) else none) else (if (v6).toInt = 33 then (xhb (f_Tokens_open g5 v6) fun v13 g12 => xhv (f_Exprs_mark g12 (307 : Int32) v13) fun g14 => bif xzb (0 : Int32) then some ((0 : Int32), g14) else none) else (if (v6).toInt = 40 then (f_Exprs_operand_127 P v6 g5) else (if (v6).toInt = 45 then (xhb (f_Tokens_open g5 v6) fun v17 g16 => xhv (f_Exprs_mark g16 (305 : Int32) v17) fun g18 => bif xzb (0 : Int32) then some ((0 : Int32), g18) else none) else (if (v6).toInt = 123 then (f_Exprs_operand_127 P v6 g5) else (if (v6).toInt = 126 then (xhb (f_Tokens_open g5 v6) fun v21 g20 => xhv (f_Exprs_mark g20 (306 : Int32) v21) fun g22 => bif xzb (0 : Int32) then some ((0 : Int32), g22) else none) else (xhv (f_Exprs_call g5 v6) fun g24 => bif xzb (0 : Int32) then some ((0 : Int32), g24) else none)))))))
set_option maxHeartbeats 4000000 in
set_option maxRecDepth 100000 in
theorem ch_Exprs_operand_a (l : Launch) {dA : FieldType → ClassId} {D : va_G} {al : Nat → Nat} {ext : mv_Sh} {sk sv : Nat → Nat} (hi : mv_inj (mg dA D al ext)) (h : mv_H) (hb : xRP 32 (mv_r h))  {rv : Int32} {rg : mv_H} (hf : f_Exprs_operand 32 h = some (rv, rg)) : mv_C l y_Exprs_operand (Cond.code y_Exprs_operand b_Exprs_operand 2 (Option.some Jvm.ClassFile.FieldType.boolean) :: ma) ({ frames := 4, cells := 0, slots := 0, locals := 90 }) (mg dA D al ext) (mK sk sv) [.ref (al 22)] h (mv_Ri (fun v σ1 => rv = v ∧ rg = σ1 ∧ mv_r σ1 = mv_r h)) := by
  refine mv_C.ofV (cc := b_Exprs_operand) (nL := 2) (ret := (Option.some Jvm.ClassFile.FieldType.boolean)) (by decide +kernel) rfl hi (Nat.le_of_ble_eq_true rfl) ?_
  intro p e s m below meth c B hNs hr hnm hno
  have jn127 : ∀ (x1 : Int32) (hz : mv_H), mv_r hz = mv_r h → f_Exprs_operand_127 32 x1 hz = some (rv, rg) → mv_V p l e ({ frames := 4, cells := 0, slots := 0, locals := 90 }) s m ([.ref (al 22)] : List Value).toArray below meth c (mg dA D al ext) 2 0 0 (mv_Q (mg dA D al ext) below s 0 0 (mv_Ri (fun v σ1 => rv = v ∧ rg = σ1 ∧ mv_r σ1 = mv_r h))) hz 127 [(0, .ref (al 22)), (1, .int x1)] [] := by
    intro x1 hz r_hz hf
    unfold f_Exprs_operand_127 at hf
    refine mv_aload_n (pc := 127) B d_Exprs_operand_127 rfl 0 rfl ?_
    refine mv_iload_n (pc := 128) B d_Exprs_operand_128 rfl 1 rfl ?_
    refine mv_aload_n (pc := 129) B d_Exprs_operand_129 rfl 0 rfl ?_
    refine mv_getR (pc := 130) (ci := 6) (C := R_Exprs) (T := F_Exprs) (N := 11) B 0 rfl rfl (by decide) i_Exprs (B.2.2.2.1 _ k_193) rfl ((congrFun (congrFun r_hz 22) 0).trans (hb.1.1 22 0 _ rfl)) d_Exprs_operand_130 ?_
    refine mv_iload_n (pc := 133) B d_Exprs_operand_133 rfl 1 rfl ?_
    obtain ⟨v2, g1, eg1, hf⟩ := xhb_e hf
    refine mv_callVi (pc := 134) (n := 1) (ci := 2) (C := R_Tokens) B (mK_ok sk sv) hNs rfl rfl (ch_Tokens_open l hi _ (xrw r_hz hb.t) _ eg1) rfl (ma_goodc kc_Tokens_open) (B.2.2.2.1 _ k_1415) (B.2.2.2.1 _ k_1350) (B.2.2.2.1 _ k_1351) (B.2.2.2.1 _ k_3) ⟨by decide +kernel, by decide +kernel, by decide +kernel⟩ rfl d_Exprs_operand_134 rfl (Nat.le_of_ble_eq_true rfl) ⟨by decide, by decide⟩ ⟨by decide, by decide⟩ ⟨by decide, by decide⟩ (mv_noH hno _) (fun w134 σ134 h134 => ?_)
    obtain ⟨rfl, rfl, s_g1⟩ := h134
    have r_g1 : mv_r g1 = mv_r h := s_g1.trans r_hz
    obtain ⟨g3, eg3, hf⟩ := xhv_e hf
    refine mv_callVv (pc := 137) (n := 2) (ci := 6) (C := R_Exprs) B (mK_ok sk sv) hNs rfl rfl (ch_Exprs_mark l hi _ (xrw r_g1 hb.t) _ _ eg3) rfl (ma_goodc kc_Exprs_mark) (B.2.2.2.1 _ k_1416) (B.2.2.2.1 _ k_1418) (B.2.2.2.1 _ ks_48) (B.2.2.2.1 _ k_7) ⟨by decide +kernel, by decide +kernel, by decide +kernel⟩ rfl d_Exprs_operand_137 rfl (Nat.le_of_ble_eq_true rfl) ⟨by decide, by decide⟩ ⟨by decide, by decide⟩ ⟨by decide, by decide⟩ (mv_noH hno _) (fun σ137 h137 => ?_)
    obtain ⟨rfl, s_g3⟩ := h137
    have r_g3 : mv_r g3 = mv_r h := s_g3.trans r_g1
    refine mv_iconst (pc := 140) (v := 0) B d_Exprs_operand_140 (by decide) ?_
    obtain ⟨q4, hf⟩ := xzb_e hf
    exact mv_iret (pc := 141) B hr (xzb_n q4) d_Exprs_operand_141 (Nat.le_refl _) (Nat.le_refl _) ⟨_, rfl, xrh_i hf r_g3⟩
  unfold f_Exprs_operand at hf
  refine mv_aload_n (pc := 0) B d_Exprs_operand_0 rfl 0 rfl ?_
  refine mv_getR (pc := 1) (ci := 6) (C := R_Exprs) (T := F_Exprs) (N := 11) B 0 rfl rfl (by decide) i_Exprs (B.2.2.2.1 _ k_193) rfl (hb.1.1 22 0 _ rfl) d_Exprs_operand_1 ?_
  obtain ⟨v6, g5, eg5, hf⟩ := xhb_e hf
  refine mv_callVi (pc := 4) (n := 0) (ci := 2) (C := R_Tokens) B (mK_ok sk sv) hNs rfl rfl (ch_Tokens_kind l hi _ (hb.t) eg5) rfl (ma_goodc kc_Tokens_kind) (B.2.2.2.1 _ k_1414) (B.2.2.2.1 _ k_1271) (B.2.2.2.1 _ k_1272) (B.2.2.2.1 _ k_3) ⟨by decide +kernel, by decide +kernel, by decide +kernel⟩ rfl d_Exprs_operand_4 rfl (Nat.le_of_ble_eq_true rfl) ⟨by decide, by decide⟩ ⟨by decide, by decide⟩ ⟨by decide, by decide⟩ (mv_noH hno _) (fun w4 σ4 h4 => ?_)
  obtain ⟨rfl, rfl, s_g5⟩ := h4
  have r_g5 : mv_r g5 = mv_r h := s_g5.trans rfl
  refine mv_istore_n (pc := 7) B d_Exprs_operand_7 rfl (by decide) rfl ?_
  refine mv_iload_n (pc := 8) B d_Exprs_operand_8 rfl 0 rfl ?_
  refine mv_lsw (pc := 9) B d_Exprs_operand_9 (by decide) (by decide) ?_
  refine ⟨fun h9 => ?_, fun h9n3 => ?_⟩
  · skip
    have hf := xif_t h9 hf
    show mv_V _ _ _ _ _ _ _ _ _ _ _ _ _ _ _ _ 148 _ _
    refine mv_aload_n (pc := 148) B d_Exprs_operand_148 rfl 1 rfl ?_
    obtain ⟨v8, g7, eg7, hf⟩ := xhb_e hf
    refine mv_callVi (pc := 149) (n := 0) (ci := 6) (C := R_Exprs) B (mK_ok sk sv) hNs rfl rfl (ch_Exprs_name_a l hi _ (xrw r_g5 hb) eg7) rfl (ma_goodc kc_Exprs_name) (B.2.2.2.1 _ k_1441) (B.2.2.2.1 _ k_1443) (B.2.2.2.1 _ ks_52) (B.2.2.2.1 _ k_7) ⟨by decide +kernel, by decide +kernel, by decide +kernel⟩ rfl d_Exprs_operand_149 rfl (Nat.le_of_ble_eq_true rfl) ⟨by decide, by decide⟩ ⟨by decide, by decide⟩ ⟨by decide, by decide⟩ (mv_noH hno _) (fun w149 σ149 h149 => ?_)
    obtain ⟨rfl, rfl, s_g7⟩ := h149
    have r_g7 : mv_r g7 = mv_r h := s_g7.trans r_g5
    obtain ⟨q9, hf⟩ := xzb_e hf
    exact mv_iret (pc := 152) B hr (xzb_n q9) d_Exprs_operand_152 (Nat.le_refl _) (Nat.le_refl _) ⟨_, rfl, xrh_i hf r_g7⟩
  have hf := xif_f h9n3 hf
  refine ⟨fun h9 => ?_, fun h9n4 => ?_⟩
  · skip
    have hf := xif_t h9 hf
    show mv_V _ _ _ _ _ _ _ _ _ _ _ _ _ _ _ _ 142 _ _
    refine mv_aload_n (pc := 142) B d_Exprs_operand_142 rfl 1 rfl ?_
    obtain ⟨g10, eg10, hf⟩ := xhv_e hf
    refine mv_callVv (pc := 143) (n := 0) (ci := 6) (C := R_Exprs) B (mK_ok sk sv) hNs rfl rfl (ch_Exprs_literal_a l hi _ (xrw r_g5 hb) eg10) rfl (ma_goodc kc_Exprs_literal) (B.2.2.2.1 _ k_1420) (B.2.2.2.1 _ k_1422) (B.2.2.2.1 _ ks_49) (B.2.2.2.1 _ k_7) ⟨by decide +kernel, by decide +kernel, by decide +kernel⟩ rfl d_Exprs_operand_143 rfl (Nat.le_of_ble_eq_true rfl) ⟨by decide, by decide⟩ ⟨by decide, by decide⟩ ⟨by decide, by decide⟩ (mv_noH hno _) (fun σ143 h143 => ?_)
    obtain ⟨rfl, s_g10⟩ := h143
    have r_g10 : mv_r g10 = mv_r h := s_g10.trans r_g5
    refine mv_iconst (pc := 146) (v := 1) B d_Exprs_operand_146 (by decide) ?_
    obtain ⟨q11, hf⟩ := xzb_e hf
    exact mv_iret (pc := 147) B hr (xzb_n q11) d_Exprs_operand_147 (Nat.le_refl _) (Nat.le_refl _) ⟨_, rfl, xrh_i hf r_g10⟩
  have hf := xif_f h9n4 hf
  refine ⟨fun h9 => ?_, fun h9n33 => ?_⟩
  · skip
    have hf := xif_t h9 hf
    show mv_V _ _ _ _ _ _ _ _ _ _ _ _ _ _ _ _ 110 _ _
    refine mv_aload_n (pc := 110) B d_Exprs_operand_110 rfl 1 rfl ?_
    refine mv_sipush (pc := 111) (v := 307) B d_Exprs_operand_111 (by decide) ?_
    refine mv_aload_n (pc := 114) B d_Exprs_operand_114 rfl 1 rfl ?_
    refine mv_getR (pc := 115) (ci := 6) (C := R_Exprs) (T := F_Exprs) (N := 11) B 0 rfl rfl (by decide) i_Exprs (B.2.2.2.1 _ k_193) rfl ((congrFun (congrFun r_g5 22) 0).trans (hb.1.1 22 0 _ rfl)) d_Exprs_operand_115 ?_
    refine mv_iload_n (pc := 118) B d_Exprs_operand_118 rfl 0 rfl ?_
    obtain ⟨v13, g12, eg12, hf⟩ := xhb_e hf
    refine mv_callVi (pc := 119) (n := 1) (ci := 2) (C := R_Tokens) B (mK_ok sk sv) hNs rfl rfl (ch_Tokens_open l hi _ (xrw r_g5 hb.t) _ eg12) rfl (ma_goodc kc_Tokens_open) (B.2.2.2.1 _ k_1415) (B.2.2.2.1 _ k_1350) (B.2.2.2.1 _ k_1351) (B.2.2.2.1 _ k_3) ⟨by decide +kernel, by decide +kernel, by decide +kernel⟩ rfl d_Exprs_operand_119 rfl (Nat.le_of_ble_eq_true rfl) ⟨by decide, by decide⟩ ⟨by decide, by decide⟩ ⟨by decide, by decide⟩ (mv_noH hno _) (fun w119 σ119 h119 => ?_)
    obtain ⟨rfl, rfl, s_g12⟩ := h119
    have r_g12 : mv_r g12 = mv_r h := s_g12.trans r_g5
    obtain ⟨g14, eg14, hf⟩ := xhv_e hf
    refine mv_callVv (pc := 122) (n := 2) (ci := 6) (C := R_Exprs) B (mK_ok sk sv) hNs rfl rfl (ch_Exprs_mark l hi _ (xrw r_g12 hb.t) _ _ eg14) rfl (ma_goodc kc_Exprs_mark) (B.2.2.2.1 _ k_1416) (B.2.2.2.1 _ k_1418) (B.2.2.2.1 _ ks_48) (B.2.2.2.1 _ k_7) ⟨by decide +kernel, by decide +kernel, by decide +kernel⟩ rfl d_Exprs_operand_122 rfl (Nat.le_of_ble_eq_true rfl) ⟨by decide, by decide⟩ ⟨by decide, by decide⟩ ⟨by decide, by decide⟩ (mv_noH hno _) (fun σ122 h122 => ?_)
    obtain ⟨rfl, s_g14⟩ := h122
    have r_g14 : mv_r g14 = mv_r h := s_g14.trans r_g12
    refine mv_iconst (pc := 125) (v := 0) B d_Exprs_operand_125 (by decide) ?_
    obtain ⟨q15, hf⟩ := xzb_e hf
    exact mv_iret (pc := 126) B hr (xzb_n q15) d_Exprs_operand_126 (Nat.le_refl _) (Nat.le_refl _) ⟨_, rfl, xrh_i hf r_g14⟩
  have hf := xif_f h9n33 hf
  refine ⟨fun h9 => ?_, fun h9n40 => ?_⟩
  · skip
    have hf := xif_t h9 hf
    show mv_V _ _ _ _ _ _ _ _ _ _ _ _ _ _ _ _ 127 _ _
    refine mv_lpick [1, 0] rfl ?_
    exact jn127 _ _ r_g5 hf
  have hf := xif_f h9n40 hf
  refine ⟨fun h9 => ?_, fun h9n45 => ?_⟩
  · skip
    have hf := xif_t h9 hf
    show mv_V _ _ _ _ _ _ _ _ _ _ _ _ _ _ _ _ 76 _ _
    refine mv_aload_n (pc := 76) B d_Exprs_operand_76 rfl 1 rfl ?_
    refine mv_sipush (pc := 77) (v := 305) B d_Exprs_operand_77 (by decide) ?_
    refine mv_aload_n (pc := 80) B d_Exprs_operand_80 rfl 1 rfl ?_
    refine mv_getR (pc := 81) (ci := 6) (C := R_Exprs) (T := F_Exprs) (N := 11) B 0 rfl rfl (by decide) i_Exprs (B.2.2.2.1 _ k_193) rfl ((congrFun (congrFun r_g5 22) 0).trans (hb.1.1 22 0 _ rfl)) d_Exprs_operand_81 ?_
    refine mv_iload_n (pc := 84) B d_Exprs_operand_84 rfl 0 rfl ?_
    obtain ⟨v17, g16, eg16, hf⟩ := xhb_e hf
    refine mv_callVi (pc := 85) (n := 1) (ci := 2) (C := R_Tokens) B (mK_ok sk sv) hNs rfl rfl (ch_Tokens_open l hi _ (xrw r_g5 hb.t) _ eg16) rfl (ma_goodc kc_Tokens_open) (B.2.2.2.1 _ k_1415) (B.2.2.2.1 _ k_1350) (B.2.2.2.1 _ k_1351) (B.2.2.2.1 _ k_3) ⟨by decide +kernel, by decide +kernel, by decide +kernel⟩ rfl d_Exprs_operand_85 rfl (Nat.le_of_ble_eq_true rfl) ⟨by decide, by decide⟩ ⟨by decide, by decide⟩ ⟨by decide, by decide⟩ (mv_noH hno _) (fun w85 σ85 h85 => ?_)
    obtain ⟨rfl, rfl, s_g16⟩ := h85
    have r_g16 : mv_r g16 = mv_r h := s_g16.trans r_g5
    obtain ⟨g18, eg18, hf⟩ := xhv_e hf
    refine mv_callVv (pc := 88) (n := 2) (ci := 6) (C := R_Exprs) B (mK_ok sk sv) hNs rfl rfl (ch_Exprs_mark l hi _ (xrw r_g16 hb.t) _ _ eg18) rfl (ma_goodc kc_Exprs_mark) (B.2.2.2.1 _ k_1416) (B.2.2.2.1 _ k_1418) (B.2.2.2.1 _ ks_48) (B.2.2.2.1 _ k_7) ⟨by decide +kernel, by decide +kernel, by decide +kernel⟩ rfl d_Exprs_operand_88 rfl (Nat.le_of_ble_eq_true rfl) ⟨by decide, by decide⟩ ⟨by decide, by decide⟩ ⟨by decide, by decide⟩ (mv_noH hno _) (fun σ88 h88 => ?_)
    obtain ⟨rfl, s_g18⟩ := h88
    have r_g18 : mv_r g18 = mv_r h := s_g18.trans r_g16
    refine mv_iconst (pc := 91) (v := 0) B d_Exprs_operand_91 (by decide) ?_
    obtain ⟨q19, hf⟩ := xzb_e hf
    exact mv_iret (pc := 92) B hr (xzb_n q19) d_Exprs_operand_92 (Nat.le_refl _) (Nat.le_refl _) ⟨_, rfl, xrh_i hf r_g18⟩
  have hf := xif_f h9n45 hf
  refine ⟨fun h9 => ?_, fun h9n123 => ?_⟩
  · skip
    have hf := xif_t h9 hf
    show mv_V _ _ _ _ _ _ _ _ _ _ _ _ _ _ _ _ 127 _ _
    refine mv_lpick [1, 0] rfl ?_
    exact jn127 _ _ r_g5 hf
  have hf := xif_f h9n123 hf
  refine ⟨fun h9 => ?_, fun h9n126 => ?_⟩
  · skip
    have hf := xif_t h9 hf
    show mv_V _ _ _ _ _ _ _ _ _ _ _ _ _ _ _ _ 93 _ _
    refine mv_aload_n (pc := 93) B d_Exprs_operand_93 rfl 1 rfl ?_
    refine mv_sipush (pc := 94) (v := 306) B d_Exprs_operand_94 (by decide) ?_
    refine mv_aload_n (pc := 97) B d_Exprs_operand_97 rfl 1 rfl ?_
    refine mv_getR (pc := 98) (ci := 6) (C := R_Exprs) (T := F_Exprs) (N := 11) B 0 rfl rfl (by decide) i_Exprs (B.2.2.2.1 _ k_193) rfl ((congrFun (congrFun r_g5 22) 0).trans (hb.1.1 22 0 _ rfl)) d_Exprs_operand_98 ?_
    refine mv_iload_n (pc := 101) B d_Exprs_operand_101 rfl 0 rfl ?_
    obtain ⟨v21, g20, eg20, hf⟩ := xhb_e hf
    refine mv_callVi (pc := 102) (n := 1) (ci := 2) (C := R_Tokens) B (mK_ok sk sv) hNs rfl rfl (ch_Tokens_open l hi _ (xrw r_g5 hb.t) _ eg20) rfl (ma_goodc kc_Tokens_open) (B.2.2.2.1 _ k_1415) (B.2.2.2.1 _ k_1350) (B.2.2.2.1 _ k_1351) (B.2.2.2.1 _ k_3) ⟨by decide +kernel, by decide +kernel, by decide +kernel⟩ rfl d_Exprs_operand_102 rfl (Nat.le_of_ble_eq_true rfl) ⟨by decide, by decide⟩ ⟨by decide, by decide⟩ ⟨by decide, by decide⟩ (mv_noH hno _) (fun w102 σ102 h102 => ?_)
    obtain ⟨rfl, rfl, s_g20⟩ := h102
    have r_g20 : mv_r g20 = mv_r h := s_g20.trans r_g5
    obtain ⟨g22, eg22, hf⟩ := xhv_e hf
    refine mv_callVv (pc := 105) (n := 2) (ci := 6) (C := R_Exprs) B (mK_ok sk sv) hNs rfl rfl (ch_Exprs_mark l hi _ (xrw r_g20 hb.t) _ _ eg22) rfl (ma_goodc kc_Exprs_mark) (B.2.2.2.1 _ k_1416) (B.2.2.2.1 _ k_1418) (B.2.2.2.1 _ ks_48) (B.2.2.2.1 _ k_7) ⟨by decide +kernel, by decide +kernel, by decide +kernel⟩ rfl d_Exprs_operand_105 rfl (Nat.le_of_ble_eq_true rfl) ⟨by decide, by decide⟩ ⟨by decide, by decide⟩ ⟨by decide, by decide⟩ (mv_noH hno _) (fun σ105 h105 => ?_)
    obtain ⟨rfl, s_g22⟩ := h105
    have r_g22 : mv_r g22 = mv_r h := s_g22.trans r_g20
    refine mv_iconst (pc := 108) (v := 0) B d_Exprs_operand_108 (by decide) ?_
    obtain ⟨q23, hf⟩ := xzb_e hf
    exact mv_iret (pc := 109) B hr (xzb_n q23) d_Exprs_operand_109 (Nat.le_refl _) (Nat.le_refl _) ⟨_, rfl, xrh_i hf r_g22⟩
  have hf := xif_f h9n126 hf
  show mv_V _ _ _ _ _ _ _ _ _ _ _ _ _ _ _ _ 153 _ _
  refine mv_aload_n (pc := 153) B d_Exprs_operand_153 rfl 1 rfl ?_
  refine mv_iload_n (pc := 154) B d_Exprs_operand_154 rfl 0 rfl ?_
  obtain ⟨g24, eg24, hf⟩ := xhv_e hf
  refine mv_callVv (pc := 155) (n := 1) (ci := 6) (C := R_Exprs) B (mK_ok sk sv) hNs rfl rfl (ch_Exprs_call l hi _ (xrw r_g5 hb.t) _ eg24) rfl (ma_goodc kc_Exprs_call) (B.2.2.2.1 _ k_1455) (B.2.2.2.1 _ k_1457) (B.2.2.2.1 _ ks_53) (B.2.2.2.1 _ k_7) ⟨by decide +kernel, by decide +kernel, by decide +kernel⟩ rfl d_Exprs_operand_155 rfl (Nat.le_of_ble_eq_true rfl) ⟨by decide, by decide⟩ ⟨by decide, by decide⟩ ⟨by decide, by decide⟩ (mv_noH hno _) (fun σ155 h155 => ?_)
  obtain ⟨rfl, s_g24⟩ := h155
  have r_g24 : mv_r g24 = mv_r h := s_g24.trans r_g5
  refine mv_iconst (pc := 158) (v := 0) B d_Exprs_operand_158 (by decide) ?_
  obtain ⟨q25, hf⟩ := xzb_e hf
  exact mv_iret (pc := 159) B hr (xzb_n q25) d_Exprs_operand_159 (Nat.le_refl _) (Nat.le_refl _) ⟨_, rfl, xrh_i hf r_g24⟩
set_option maxHeartbeats 4000000 in
set_option maxRecDepth 100000 in
theorem ch_Exprs_operand_b (l : Launch) {dA : FieldType → ClassId} {D : va_G} {al : Nat → Nat} {ext : mv_Sh} {sk sv : Nat → Nat} (hi : mv_inj (mg dA D al ext)) (h : mv_H) (hb : xRP 48 (mv_r h))  {rv : Int32} {rg : mv_H} (hf : f_Exprs_operand 48 h = some (rv, rg)) : mv_C l y_Exprs_operand (Cond.code y_Exprs_operand b_Exprs_operand 2 (Option.some Jvm.ClassFile.FieldType.boolean) :: ma) ({ frames := 4, cells := 0, slots := 0, locals := 90 }) (mg dA D al ext) (mK sk sv) [.ref (al 22)] h (mv_Ri (fun v σ1 => rv = v ∧ rg = σ1 ∧ mv_r σ1 = mv_r h)) := by
  refine mv_C.ofV (cc := b_Exprs_operand) (nL := 2) (ret := (Option.some Jvm.ClassFile.FieldType.boolean)) (by decide +kernel) rfl hi (Nat.le_of_ble_eq_true rfl) ?_
  intro p e s m below meth c B hNs hr hnm hno
  have jn127 : ∀ (x1 : Int32) (hz : mv_H), mv_r hz = mv_r h → f_Exprs_operand_127 48 x1 hz = some (rv, rg) → mv_V p l e ({ frames := 4, cells := 0, slots := 0, locals := 90 }) s m ([.ref (al 22)] : List Value).toArray below meth c (mg dA D al ext) 2 0 0 (mv_Q (mg dA D al ext) below s 0 0 (mv_Ri (fun v σ1 => rv = v ∧ rg = σ1 ∧ mv_r σ1 = mv_r h))) hz 127 [(0, .ref (al 22)), (1, .int x1)] [] := by
    intro x1 hz r_hz hf
    unfold f_Exprs_operand_127 at hf
    refine mv_aload_n (pc := 127) B d_Exprs_operand_127 rfl 0 rfl ?_
    refine mv_iload_n (pc := 128) B d_Exprs_operand_128 rfl 1 rfl ?_
    refine mv_aload_n (pc := 129) B d_Exprs_operand_129 rfl 0 rfl ?_
    refine mv_getR (pc := 130) (ci := 6) (C := R_Exprs) (T := F_Exprs) (N := 11) B 0 rfl rfl (by decide) i_Exprs (B.2.2.2.1 _ k_193) rfl ((congrFun (congrFun r_hz 22) 0).trans (hb.1.1 22 0 _ rfl)) d_Exprs_operand_130 ?_
    refine mv_iload_n (pc := 133) B d_Exprs_operand_133 rfl 1 rfl ?_
    obtain ⟨v2, g1, eg1, hf⟩ := xhb_e hf
    refine mv_callVi (pc := 134) (n := 1) (ci := 2) (C := R_Tokens) B (mK_ok sk sv) hNs rfl rfl (ch_Tokens_open l hi _ (xrw r_hz hb.t) _ eg1) rfl (ma_goodc kc_Tokens_open) (B.2.2.2.1 _ k_1415) (B.2.2.2.1 _ k_1350) (B.2.2.2.1 _ k_1351) (B.2.2.2.1 _ k_3) ⟨by decide +kernel, by decide +kernel, by decide +kernel⟩ rfl d_Exprs_operand_134 rfl (Nat.le_of_ble_eq_true rfl) ⟨by decide, by decide⟩ ⟨by decide, by decide⟩ ⟨by decide, by decide⟩ (mv_noH hno _) (fun w134 σ134 h134 => ?_)
    obtain ⟨rfl, rfl, s_g1⟩ := h134
    have r_g1 : mv_r g1 = mv_r h := s_g1.trans r_hz
    obtain ⟨g3, eg3, hf⟩ := xhv_e hf
    refine mv_callVv (pc := 137) (n := 2) (ci := 6) (C := R_Exprs) B (mK_ok sk sv) hNs rfl rfl (ch_Exprs_mark l hi _ (xrw r_g1 hb.t) _ _ eg3) rfl (ma_goodc kc_Exprs_mark) (B.2.2.2.1 _ k_1416) (B.2.2.2.1 _ k_1418) (B.2.2.2.1 _ ks_48) (B.2.2.2.1 _ k_7) ⟨by decide +kernel, by decide +kernel, by decide +kernel⟩ rfl d_Exprs_operand_137 rfl (Nat.le_of_ble_eq_true rfl) ⟨by decide, by decide⟩ ⟨by decide, by decide⟩ ⟨by decide, by decide⟩ (mv_noH hno _) (fun σ137 h137 => ?_)
    obtain ⟨rfl, s_g3⟩ := h137
    have r_g3 : mv_r g3 = mv_r h := s_g3.trans r_g1
    refine mv_iconst (pc := 140) (v := 0) B d_Exprs_operand_140 (by decide) ?_
    obtain ⟨q4, hf⟩ := xzb_e hf
    exact mv_iret (pc := 141) B hr (xzb_n q4) d_Exprs_operand_141 (Nat.le_refl _) (Nat.le_refl _) ⟨_, rfl, xrh_i hf r_g3⟩
  unfold f_Exprs_operand at hf
  refine mv_aload_n (pc := 0) B d_Exprs_operand_0 rfl 0 rfl ?_
  refine mv_getR (pc := 1) (ci := 6) (C := R_Exprs) (T := F_Exprs) (N := 11) B 0 rfl rfl (by decide) i_Exprs (B.2.2.2.1 _ k_193) rfl (hb.1.1 22 0 _ rfl) d_Exprs_operand_1 ?_
  obtain ⟨v6, g5, eg5, hf⟩ := xhb_e hf
  refine mv_callVi (pc := 4) (n := 0) (ci := 2) (C := R_Tokens) B (mK_ok sk sv) hNs rfl rfl (ch_Tokens_kind l hi _ (hb.t) eg5) rfl (ma_goodc kc_Tokens_kind) (B.2.2.2.1 _ k_1414) (B.2.2.2.1 _ k_1271) (B.2.2.2.1 _ k_1272) (B.2.2.2.1 _ k_3) ⟨by decide +kernel, by decide +kernel, by decide +kernel⟩ rfl d_Exprs_operand_4 rfl (Nat.le_of_ble_eq_true rfl) ⟨by decide, by decide⟩ ⟨by decide, by decide⟩ ⟨by decide, by decide⟩ (mv_noH hno _) (fun w4 σ4 h4 => ?_)
  obtain ⟨rfl, rfl, s_g5⟩ := h4
  have r_g5 : mv_r g5 = mv_r h := s_g5.trans rfl
  refine mv_istore_n (pc := 7) B d_Exprs_operand_7 rfl (by decide) rfl ?_
  refine mv_iload_n (pc := 8) B d_Exprs_operand_8 rfl 0 rfl ?_
  refine mv_lsw (pc := 9) B d_Exprs_operand_9 (by decide) (by decide) ?_
  refine ⟨fun h9 => ?_, fun h9n3 => ?_⟩
  · skip
    have hf := xif_t h9 hf
    show mv_V _ _ _ _ _ _ _ _ _ _ _ _ _ _ _ _ 148 _ _
    refine mv_aload_n (pc := 148) B d_Exprs_operand_148 rfl 1 rfl ?_
    obtain ⟨v8, g7, eg7, hf⟩ := xhb_e hf
    refine mv_callVi (pc := 149) (n := 0) (ci := 6) (C := R_Exprs) B (mK_ok sk sv) hNs rfl rfl (ch_Exprs_name_b l hi _ (xrw r_g5 hb) eg7) rfl (ma_goodc kc_Exprs_name) (B.2.2.2.1 _ k_1441) (B.2.2.2.1 _ k_1443) (B.2.2.2.1 _ ks_52) (B.2.2.2.1 _ k_7) ⟨by decide +kernel, by decide +kernel, by decide +kernel⟩ rfl d_Exprs_operand_149 rfl (Nat.le_of_ble_eq_true rfl) ⟨by decide, by decide⟩ ⟨by decide, by decide⟩ ⟨by decide, by decide⟩ (mv_noH hno _) (fun w149 σ149 h149 => ?_)
    obtain ⟨rfl, rfl, s_g7⟩ := h149
    have r_g7 : mv_r g7 = mv_r h := s_g7.trans r_g5
    obtain ⟨q9, hf⟩ := xzb_e hf
    exact mv_iret (pc := 152) B hr (xzb_n q9) d_Exprs_operand_152 (Nat.le_refl _) (Nat.le_refl _) ⟨_, rfl, xrh_i hf r_g7⟩
  have hf := xif_f h9n3 hf
  refine ⟨fun h9 => ?_, fun h9n4 => ?_⟩
  · skip
    have hf := xif_t h9 hf
    show mv_V _ _ _ _ _ _ _ _ _ _ _ _ _ _ _ _ 142 _ _
    refine mv_aload_n (pc := 142) B d_Exprs_operand_142 rfl 1 rfl ?_
    obtain ⟨g10, eg10, hf⟩ := xhv_e hf
    refine mv_callVv (pc := 143) (n := 0) (ci := 6) (C := R_Exprs) B (mK_ok sk sv) hNs rfl rfl (ch_Exprs_literal_b l hi _ (xrw r_g5 hb) eg10) rfl (ma_goodc kc_Exprs_literal) (B.2.2.2.1 _ k_1420) (B.2.2.2.1 _ k_1422) (B.2.2.2.1 _ ks_49) (B.2.2.2.1 _ k_7) ⟨by decide +kernel, by decide +kernel, by decide +kernel⟩ rfl d_Exprs_operand_143 rfl (Nat.le_of_ble_eq_true rfl) ⟨by decide, by decide⟩ ⟨by decide, by decide⟩ ⟨by decide, by decide⟩ (mv_noH hno _) (fun σ143 h143 => ?_)
    obtain ⟨rfl, s_g10⟩ := h143
    have r_g10 : mv_r g10 = mv_r h := s_g10.trans r_g5
    refine mv_iconst (pc := 146) (v := 1) B d_Exprs_operand_146 (by decide) ?_
    obtain ⟨q11, hf⟩ := xzb_e hf
    exact mv_iret (pc := 147) B hr (xzb_n q11) d_Exprs_operand_147 (Nat.le_refl _) (Nat.le_refl _) ⟨_, rfl, xrh_i hf r_g10⟩
  have hf := xif_f h9n4 hf
  refine ⟨fun h9 => ?_, fun h9n33 => ?_⟩
  · skip
    have hf := xif_t h9 hf
    show mv_V _ _ _ _ _ _ _ _ _ _ _ _ _ _ _ _ 110 _ _
    refine mv_aload_n (pc := 110) B d_Exprs_operand_110 rfl 1 rfl ?_
    refine mv_sipush (pc := 111) (v := 307) B d_Exprs_operand_111 (by decide) ?_
    refine mv_aload_n (pc := 114) B d_Exprs_operand_114 rfl 1 rfl ?_
    refine mv_getR (pc := 115) (ci := 6) (C := R_Exprs) (T := F_Exprs) (N := 11) B 0 rfl rfl (by decide) i_Exprs (B.2.2.2.1 _ k_193) rfl ((congrFun (congrFun r_g5 22) 0).trans (hb.1.1 22 0 _ rfl)) d_Exprs_operand_115 ?_
    refine mv_iload_n (pc := 118) B d_Exprs_operand_118 rfl 0 rfl ?_
    obtain ⟨v13, g12, eg12, hf⟩ := xhb_e hf
    refine mv_callVi (pc := 119) (n := 1) (ci := 2) (C := R_Tokens) B (mK_ok sk sv) hNs rfl rfl (ch_Tokens_open l hi _ (xrw r_g5 hb.t) _ eg12) rfl (ma_goodc kc_Tokens_open) (B.2.2.2.1 _ k_1415) (B.2.2.2.1 _ k_1350) (B.2.2.2.1 _ k_1351) (B.2.2.2.1 _ k_3) ⟨by decide +kernel, by decide +kernel, by decide +kernel⟩ rfl d_Exprs_operand_119 rfl (Nat.le_of_ble_eq_true rfl) ⟨by decide, by decide⟩ ⟨by decide, by decide⟩ ⟨by decide, by decide⟩ (mv_noH hno _) (fun w119 σ119 h119 => ?_)
    obtain ⟨rfl, rfl, s_g12⟩ := h119
    have r_g12 : mv_r g12 = mv_r h := s_g12.trans r_g5
    obtain ⟨g14, eg14, hf⟩ := xhv_e hf
    refine mv_callVv (pc := 122) (n := 2) (ci := 6) (C := R_Exprs) B (mK_ok sk sv) hNs rfl rfl (ch_Exprs_mark l hi _ (xrw r_g12 hb.t) _ _ eg14) rfl (ma_goodc kc_Exprs_mark) (B.2.2.2.1 _ k_1416) (B.2.2.2.1 _ k_1418) (B.2.2.2.1 _ ks_48) (B.2.2.2.1 _ k_7) ⟨by decide +kernel, by decide +kernel, by decide +kernel⟩ rfl d_Exprs_operand_122 rfl (Nat.le_of_ble_eq_true rfl) ⟨by decide, by decide⟩ ⟨by decide, by decide⟩ ⟨by decide, by decide⟩ (mv_noH hno _) (fun σ122 h122 => ?_)
    obtain ⟨rfl, s_g14⟩ := h122
    have r_g14 : mv_r g14 = mv_r h := s_g14.trans r_g12
    refine mv_iconst (pc := 125) (v := 0) B d_Exprs_operand_125 (by decide) ?_
    obtain ⟨q15, hf⟩ := xzb_e hf
    exact mv_iret (pc := 126) B hr (xzb_n q15) d_Exprs_operand_126 (Nat.le_refl _) (Nat.le_refl _) ⟨_, rfl, xrh_i hf r_g14⟩
  have hf := xif_f h9n33 hf
  refine ⟨fun h9 => ?_, fun h9n40 => ?_⟩
  · skip
    have hf := xif_t h9 hf
    show mv_V _ _ _ _ _ _ _ _ _ _ _ _ _ _ _ _ 127 _ _
    refine mv_lpick [1, 0] rfl ?_
    exact jn127 _ _ r_g5 hf
  have hf := xif_f h9n40 hf
  refine ⟨fun h9 => ?_, fun h9n45 => ?_⟩
  · skip
    have hf := xif_t h9 hf
    show mv_V _ _ _ _ _ _ _ _ _ _ _ _ _ _ _ _ 76 _ _
    refine mv_aload_n (pc := 76) B d_Exprs_operand_76 rfl 1 rfl ?_
    refine mv_sipush (pc := 77) (v := 305) B d_Exprs_operand_77 (by decide) ?_
    refine mv_aload_n (pc := 80) B d_Exprs_operand_80 rfl 1 rfl ?_
    refine mv_getR (pc := 81) (ci := 6) (C := R_Exprs) (T := F_Exprs) (N := 11) B 0 rfl rfl (by decide) i_Exprs (B.2.2.2.1 _ k_193) rfl ((congrFun (congrFun r_g5 22) 0).trans (hb.1.1 22 0 _ rfl)) d_Exprs_operand_81 ?_
    refine mv_iload_n (pc := 84) B d_Exprs_operand_84 rfl 0 rfl ?_
    obtain ⟨v17, g16, eg16, hf⟩ := xhb_e hf
    refine mv_callVi (pc := 85) (n := 1) (ci := 2) (C := R_Tokens) B (mK_ok sk sv) hNs rfl rfl (ch_Tokens_open l hi _ (xrw r_g5 hb.t) _ eg16) rfl (ma_goodc kc_Tokens_open) (B.2.2.2.1 _ k_1415) (B.2.2.2.1 _ k_1350) (B.2.2.2.1 _ k_1351) (B.2.2.2.1 _ k_3) ⟨by decide +kernel, by decide +kernel, by decide +kernel⟩ rfl d_Exprs_operand_85 rfl (Nat.le_of_ble_eq_true rfl) ⟨by decide, by decide⟩ ⟨by decide, by decide⟩ ⟨by decide, by decide⟩ (mv_noH hno _) (fun w85 σ85 h85 => ?_)
    obtain ⟨rfl, rfl, s_g16⟩ := h85
    have r_g16 : mv_r g16 = mv_r h := s_g16.trans r_g5
    obtain ⟨g18, eg18, hf⟩ := xhv_e hf
    refine mv_callVv (pc := 88) (n := 2) (ci := 6) (C := R_Exprs) B (mK_ok sk sv) hNs rfl rfl (ch_Exprs_mark l hi _ (xrw r_g16 hb.t) _ _ eg18) rfl (ma_goodc kc_Exprs_mark) (B.2.2.2.1 _ k_1416) (B.2.2.2.1 _ k_1418) (B.2.2.2.1 _ ks_48) (B.2.2.2.1 _ k_7) ⟨by decide +kernel, by decide +kernel, by decide +kernel⟩ rfl d_Exprs_operand_88 rfl (Nat.le_of_ble_eq_true rfl) ⟨by decide, by decide⟩ ⟨by decide, by decide⟩ ⟨by decide, by decide⟩ (mv_noH hno _) (fun σ88 h88 => ?_)
    obtain ⟨rfl, s_g18⟩ := h88
    have r_g18 : mv_r g18 = mv_r h := s_g18.trans r_g16
    refine mv_iconst (pc := 91) (v := 0) B d_Exprs_operand_91 (by decide) ?_
    obtain ⟨q19, hf⟩ := xzb_e hf
    exact mv_iret (pc := 92) B hr (xzb_n q19) d_Exprs_operand_92 (Nat.le_refl _) (Nat.le_refl _) ⟨_, rfl, xrh_i hf r_g18⟩
  have hf := xif_f h9n45 hf
  refine ⟨fun h9 => ?_, fun h9n123 => ?_⟩
  · skip
    have hf := xif_t h9 hf
    show mv_V _ _ _ _ _ _ _ _ _ _ _ _ _ _ _ _ 127 _ _
    refine mv_lpick [1, 0] rfl ?_
    exact jn127 _ _ r_g5 hf
  have hf := xif_f h9n123 hf
  refine ⟨fun h9 => ?_, fun h9n126 => ?_⟩
  · skip
    have hf := xif_t h9 hf
    show mv_V _ _ _ _ _ _ _ _ _ _ _ _ _ _ _ _ 93 _ _
    refine mv_aload_n (pc := 93) B d_Exprs_operand_93 rfl 1 rfl ?_
    refine mv_sipush (pc := 94) (v := 306) B d_Exprs_operand_94 (by decide) ?_
    refine mv_aload_n (pc := 97) B d_Exprs_operand_97 rfl 1 rfl ?_
    refine mv_getR (pc := 98) (ci := 6) (C := R_Exprs) (T := F_Exprs) (N := 11) B 0 rfl rfl (by decide) i_Exprs (B.2.2.2.1 _ k_193) rfl ((congrFun (congrFun r_g5 22) 0).trans (hb.1.1 22 0 _ rfl)) d_Exprs_operand_98 ?_
    refine mv_iload_n (pc := 101) B d_Exprs_operand_101 rfl 0 rfl ?_
    obtain ⟨v21, g20, eg20, hf⟩ := xhb_e hf
    refine mv_callVi (pc := 102) (n := 1) (ci := 2) (C := R_Tokens) B (mK_ok sk sv) hNs rfl rfl (ch_Tokens_open l hi _ (xrw r_g5 hb.t) _ eg20) rfl (ma_goodc kc_Tokens_open) (B.2.2.2.1 _ k_1415) (B.2.2.2.1 _ k_1350) (B.2.2.2.1 _ k_1351) (B.2.2.2.1 _ k_3) ⟨by decide +kernel, by decide +kernel, by decide +kernel⟩ rfl d_Exprs_operand_102 rfl (Nat.le_of_ble_eq_true rfl) ⟨by decide, by decide⟩ ⟨by decide, by decide⟩ ⟨by decide, by decide⟩ (mv_noH hno _) (fun w102 σ102 h102 => ?_)
    obtain ⟨rfl, rfl, s_g20⟩ := h102
    have r_g20 : mv_r g20 = mv_r h := s_g20.trans r_g5
    obtain ⟨g22, eg22, hf⟩ := xhv_e hf
    refine mv_callVv (pc := 105) (n := 2) (ci := 6) (C := R_Exprs) B (mK_ok sk sv) hNs rfl rfl (ch_Exprs_mark l hi _ (xrw r_g20 hb.t) _ _ eg22) rfl (ma_goodc kc_Exprs_mark) (B.2.2.2.1 _ k_1416) (B.2.2.2.1 _ k_1418) (B.2.2.2.1 _ ks_48) (B.2.2.2.1 _ k_7) ⟨by decide +kernel, by decide +kernel, by decide +kernel⟩ rfl d_Exprs_operand_105 rfl (Nat.le_of_ble_eq_true rfl) ⟨by decide, by decide⟩ ⟨by decide, by decide⟩ ⟨by decide, by decide⟩ (mv_noH hno _) (fun σ105 h105 => ?_)
    obtain ⟨rfl, s_g22⟩ := h105
    have r_g22 : mv_r g22 = mv_r h := s_g22.trans r_g20
    refine mv_iconst (pc := 108) (v := 0) B d_Exprs_operand_108 (by decide) ?_
    obtain ⟨q23, hf⟩ := xzb_e hf
    exact mv_iret (pc := 109) B hr (xzb_n q23) d_Exprs_operand_109 (Nat.le_refl _) (Nat.le_refl _) ⟨_, rfl, xrh_i hf r_g22⟩
  have hf := xif_f h9n126 hf
  show mv_V _ _ _ _ _ _ _ _ _ _ _ _ _ _ _ _ 153 _ _
  refine mv_aload_n (pc := 153) B d_Exprs_operand_153 rfl 1 rfl ?_
  refine mv_iload_n (pc := 154) B d_Exprs_operand_154 rfl 0 rfl ?_
  obtain ⟨g24, eg24, hf⟩ := xhv_e hf
  refine mv_callVv (pc := 155) (n := 1) (ci := 6) (C := R_Exprs) B (mK_ok sk sv) hNs rfl rfl (ch_Exprs_call l hi _ (xrw r_g5 hb.t) _ eg24) rfl (ma_goodc kc_Exprs_call) (B.2.2.2.1 _ k_1455) (B.2.2.2.1 _ k_1457) (B.2.2.2.1 _ ks_53) (B.2.2.2.1 _ k_7) ⟨by decide +kernel, by decide +kernel, by decide +kernel⟩ rfl d_Exprs_operand_155 rfl (Nat.le_of_ble_eq_true rfl) ⟨by decide, by decide⟩ ⟨by decide, by decide⟩ ⟨by decide, by decide⟩ (mv_noH hno _) (fun σ155 h155 => ?_)
  obtain ⟨rfl, s_g24⟩ := h155
  have r_g24 : mv_r g24 = mv_r h := s_g24.trans r_g5
  refine mv_iconst (pc := 158) (v := 0) B d_Exprs_operand_158 (by decide) ?_
  obtain ⟨q25, hf⟩ := xzb_e hf
  exact mv_iret (pc := 159) B hr (xzb_n q25) d_Exprs_operand_159 (Nat.le_refl _) (Nat.le_refl _) ⟨_, rfl, xrh_i hf r_g24⟩
def f_Exprs_part_184 (P : Nat) (x6 : Int64) (y0 : Int32) (hz : mv_H) : Option mv_H := xhb (f_Program_emit P hz (308 : Int32) ((x6 &&& (255 : Int64)) ||| (((y0).toInt64) <<< (((8 : Int32)).toInt64 &&& 63)))) fun v2 g1 => xhv (f_Exprs_hold g1 y0) fun g3 => some g3
def f_Exprs_part_165 (P : Nat) (x4 : Int64) (x6 : Int64) (y0 : Int32) (hz : mv_H) : Option mv_H := if y0 = (0 : Int32) then (f_Exprs_part_184 P x6 ((((x4 - x6)).toInt32) + (1 : Int32)) hz) else (f_Exprs_part_184 P x6 (0 : Int32) hz)
def f_Exprs_part_160 (P : Nat) (x4 : Int64) (x6 : Int64) (hz : mv_H) : Option mv_H := f_Exprs_part_165 P x4 x6 (1 : Int32) hz
def f_Exprs_part_146 (P : Nat) (x3 : Int32) (x4 : Int64) (x6 : Int64) (x8 : Int32) (x9 : Int32) (hz : mv_H) : Option mv_H := if x3 = (0 : Int32) then (f_Exprs_part_160 P x4 x6 hz) else (if x8 = (0 : Int32) then (if x9 = (0 : Int32) then (f_Exprs_part_165 P x4 x6 (0 : Int32) hz) else (f_Exprs_part_160 P x4 x6 hz)) else (f_Exprs_part_160 P x4 x6 hz))
def f_Exprs_part_135 (P : Nat) (x2 : Int32) (x3 : Int32) (x4 : Int64) (x6 : Int64) (x8 : Int32) (x9 : Int32) (hz : mv_H) : Option mv_H := if x9 = (0 : Int32) then (f_Exprs_part_146 P x3 x4 x6 x8 x9 hz) else (xhv (f_Exprs_tell hz x2 (3 : Int32)) fun g4 => f_Exprs_part_146 P x3 x4 x6 x8 x9 g4)
def f_Exprs_part_113 (P : Nat) (x1 : Int32) (x2 : Int32) (x3 : Int32) (x4 : Int64) (x6 : Int64) (y0 : Int32) (hz : mv_H) : Option mv_H := xhb (f_Bits_below hz x4 x6) fun v6 g5 => if y0 = (0 : Int32) then (f_Exprs_part_135 P x2 x3 x4 x6 y0 v6 g5) else (xhv (f_Exprs_tell g5 x1 (3 : Int32)) fun g7 => f_Exprs_part_135 P x2 x3 x4 x6 y0 v6 g7)
def f_Exprs_part_112 (P : Nat) (x1 : Int32) (x2 : Int32) (x3 : Int32) (x4 : Int64) (x6 : Int64) (hz : mv_H) : Option mv_H := f_Exprs_part_113 P x1 x2 x3 x4 x6 (0 : Int32) hz
def f_Exprs_part_108 (P : Nat) (x1 : Int32) (x2 : Int32) (x3 : Int32) (x4 : Int64) (x6 : Int64) (hz : mv_H) : Option mv_H := f_Exprs_part_113 P x1 x2 x3 x4 x6 (1 : Int32) hz
def f_Exprs_part_52 (P : Nat) (x1 : Int32) (x2 : Int32) (hz : mv_H) : Option mv_H := xhb (f_Tokens_close hz (93 : Int32)) fun v9 g8 => xhb (f_Exprs_release g8) fun v11 g10 => bif xvi x1 32770 then bif xvi x2 32770 then if v11 ≤ (0 : Int32) then (f_Exprs_part_112 P x1 x2 v11 (mv_b g10 6 (x1).toNatClampNeg) (mv_b g10 6 (x2).toNatClampNeg) g10) else (if (lg_cmp (mv_b g10 6 (x1).toNatClampNeg) (0 : Int64)) < (0 : Int32) then (f_Exprs_part_108 P x1 x2 v11 (mv_b g10 6 (x1).toNatClampNeg) (mv_b g10 6 (x2).toNatClampNeg) g10) else (if (lg_cmp (mv_b g10 6 (x1).toNatClampNeg) ((v11).toInt64)) < (0 : Int32) then (f_Exprs_part_112 P x1 x2 v11 (mv_b g10 6 (x1).toNatClampNeg) (mv_b g10 6 (x2).toNatClampNeg) g10) else (f_Exprs_part_108 P x1 x2 v11 (mv_b g10 6 (x1).toNatClampNeg) (mv_b g10 6 (x2).toNatClampNeg) g10))) else none else none
def f_Exprs_part (P : Nat) (h : mv_H) : Option mv_H := xhb (f_Tokens_open h (91 : Int32)) fun v15 g14 => xhb (f_Tokens_take g14 (4 : Int32)) fun v17 g16 => xhb (f_Tokens_kind g16) fun v19 g18 => if v19 = (58 : Int32) then (xhb (f_Tokens_take g18 (58 : Int32)) fun v21 g20 => xhb (f_Tokens_take g20 (4 : Int32)) fun v23 g22 => f_Exprs_part_52 P v17 v23 g22) else (f_Exprs_part_52 P v17 v17 g18)
set_option maxHeartbeats 4000000 in
set_option maxRecDepth 100000 in
theorem ch_Exprs_part_a (l : Launch) {dA : FieldType → ClassId} {D : va_G} {al : Nat → Nat} {ext : mv_Sh} {sk sv : Nat → Nat} (hi : mv_inj (mg dA D al ext)) (h : mv_H) (hb : xRP 32 (mv_r h))  {rg : mv_H} (hf : f_Exprs_part 32 h = some rg) : mv_C l y_Exprs_part (Cond.code y_Exprs_part b_Exprs_part 12 (Option.none : Option Jvm.ClassFile.FieldType) :: ma) ({ frames := 3, cells := 0, slots := 0, locals := 63 }) (mg dA D al ext) (mK sk sv) [.ref (al 22)] h (mv_Rv (fun σ1 => rg = σ1 ∧ mv_r σ1 = mv_r h)) := by
  refine mv_C.ofV (cc := b_Exprs_part) (nL := 12) (ret := (Option.none : Option Jvm.ClassFile.FieldType)) (by decide +kernel) rfl hi (Nat.le_of_ble_eq_true rfl) ?_
  intro p e s m below meth c B hNs hr hnm hno
  have jn184 : ∀ (x6 : Int64) (y0 : Int32) (hz : mv_H), mv_r hz = mv_r h → f_Exprs_part_184 32 x6 y0 hz = some rg → mv_V p l e ({ frames := 3, cells := 0, slots := 0, locals := 63 }) s m ([.ref (al 22)] : List Value).toArray below meth c (mg dA D al ext) 12 0 0 (mv_Q (mg dA D al ext) below s 0 0 (mv_Rv (fun σ1 => rg = σ1 ∧ mv_r σ1 = mv_r h))) hz 184 [(0, .ref (al 22)), (6, .long x6)] [.int y0] := by
    intro x6 y0 hz r_hz hf
    unfold f_Exprs_part_184 at hf
    refine mv_istore (pc := 184) B d_Exprs_part_184 (by decide) rfl ?_
    refine mv_aload_n (pc := 186) B d_Exprs_part_186 rfl 1 rfl ?_
    refine mv_getR (pc := 187) (ci := 6) (C := R_Exprs) (T := F_Exprs) (N := 11) B 3 rfl rfl (by decide) i_Exprs (B.2.2.2.1 _ k_197) rfl ((congrFun (congrFun r_hz 22) 3).trans hb.1.2.2.2) d_Exprs_part_187 ?_
    refine mv_sipush (pc := 190) (v := 308) B d_Exprs_part_190 (by decide) ?_
    refine mv_lload (pc := 193) B d_Exprs_part_193 2 rfl ?_
    refine mv_ldc2 (pc := 195) (v := 255) B (B.2.2.2.1 _ k_1477) d_Exprs_part_195 ?_
    refine mv_land (pc := 198) B d_Exprs_part_198 ?_
    refine mv_iload (pc := 199) B d_Exprs_part_199 0 rfl ?_
    refine mv_i2l (pc := 201) B d_Exprs_part_201 ?_
    refine mv_bipush (pc := 202) (v := 8) B d_Exprs_part_202 (by decide) ?_
    refine mv_lshl (pc := 204) B d_Exprs_part_204 ?_
    refine mv_lor (pc := 205) B d_Exprs_part_205 ?_
    obtain ⟨v2, g1, eg1, hf⟩ := xhb_e hf
    refine mv_callVi (pc := 206) (n := 2) (ci := 7) (C := R_Program) B (mK_ok sk sv) hNs rfl rfl (ch_Program_emit_a l hi _ (xrw r_hz hb) _ _ eg1) rfl (ma_goodc kc_Program_emit) (B.2.2.2.1 _ k_1425) (B.2.2.2.1 _ k_1385) (B.2.2.2.1 _ k_1386) (B.2.2.2.1 _ k_8) ⟨by decide +kernel, by decide +kernel, by decide +kernel⟩ rfl d_Exprs_part_206 rfl (Nat.le_of_ble_eq_true rfl) ⟨by decide, by decide⟩ ⟨by decide, by decide⟩ ⟨by decide, by decide⟩ (mv_noH hno _) (fun w206 σ206 h206 => ?_)
    obtain ⟨rfl, rfl, s_g1⟩ := h206
    have r_g1 : mv_r g1 = mv_r h := s_g1.trans r_hz
    refine mv_pop (pc := 209) B d_Exprs_part_209 rfl ?_
    refine mv_aload_n (pc := 210) B d_Exprs_part_210 rfl 1 rfl ?_
    refine mv_iload (pc := 211) B d_Exprs_part_211 0 rfl ?_
    obtain ⟨g3, eg3, hf⟩ := xhv_e hf
    refine mv_callVv (pc := 213) (n := 1) (ci := 6) (C := R_Exprs) B (mK_ok sk sv) hNs rfl rfl (ch_Exprs_hold l hi _ (xrw r_g1 hb.t) _ eg3) rfl (ma_goodc kc_Exprs_hold) (B.2.2.2.1 _ k_1432) (B.2.2.2.1 _ k_1434) (B.2.2.2.1 _ ks_51) (B.2.2.2.1 _ k_7) ⟨by decide +kernel, by decide +kernel, by decide +kernel⟩ rfl d_Exprs_part_213 rfl (Nat.le_of_ble_eq_true rfl) ⟨by decide, by decide⟩ ⟨by decide, by decide⟩ ⟨by decide, by decide⟩ (mv_noH hno _) (fun σ213 h213 => ?_)
    obtain ⟨rfl, s_g3⟩ := h213
    have r_g3 : mv_r g3 = mv_r h := s_g3.trans r_g1
    exact mv_vret (pc := 216) B hr d_Exprs_part_216 (Nat.le_refl _) (Nat.le_refl _) ⟨rfl, xrh_v hf r_g3⟩
  have jn165 : ∀ (x4 : Int64) (x6 : Int64) (y0 : Int32) (hz : mv_H), mv_r hz = mv_r h → f_Exprs_part_165 32 x4 x6 y0 hz = some rg → mv_V p l e ({ frames := 3, cells := 0, slots := 0, locals := 63 }) s m ([.ref (al 22)] : List Value).toArray below meth c (mg dA D al ext) 12 0 0 (mv_Q (mg dA D al ext) below s 0 0 (mv_Rv (fun σ1 => rg = σ1 ∧ mv_r σ1 = mv_r h))) hz 165 [(0, .ref (al 22)), (4, .long x4), (6, .long x6)] [.int y0] := by
    intro x4 x6 y0 hz r_hz hf
    unfold f_Exprs_part_165 at hf
    refine mv_istore (pc := 165) B d_Exprs_part_165 (by decide) rfl ?_
    refine mv_iload (pc := 167) B d_Exprs_part_167 0 rfl ?_
    refine mv_if_eq (pc := 169) (tgt := 176) B d_Exprs_part_169 rfl (fun h169 => ?_) (fun h169 => ?_)
    · skip
      have hf := xif_t h169 hf
      refine mv_lload (pc := 176) B d_Exprs_part_176 2 rfl ?_
      refine mv_lload (pc := 178) B d_Exprs_part_178 3 rfl ?_
      refine mv_lsub (pc := 180) B d_Exprs_part_180 ?_
      refine mv_l2i (pc := 181) B d_Exprs_part_181 ?_
      refine mv_iconst (pc := 182) (v := 1) B d_Exprs_part_182 (by decide) ?_
      refine mv_iadd (pc := 183) B d_Exprs_part_183 ?_
      refine mv_lpick [1, 3] rfl ?_
      exact jn184 _ _ _ r_hz hf
    · skip
      have hf := xif_f h169 hf
      refine mv_iconst (pc := 172) (v := 0) B d_Exprs_part_172 (by decide) ?_
      refine mv_goto (pc := 173) (tgt := 184) B d_Exprs_part_173 rfl ?_
      refine mv_lpick [1, 3] rfl ?_
      exact jn184 _ _ _ r_hz hf
  have jn160 : ∀ (x4 : Int64) (x6 : Int64) (hz : mv_H), mv_r hz = mv_r h → f_Exprs_part_160 32 x4 x6 hz = some rg → mv_V p l e ({ frames := 3, cells := 0, slots := 0, locals := 63 }) s m ([.ref (al 22)] : List Value).toArray below meth c (mg dA D al ext) 12 0 0 (mv_Q (mg dA D al ext) below s 0 0 (mv_Rv (fun σ1 => rg = σ1 ∧ mv_r σ1 = mv_r h))) hz 160 [(0, .ref (al 22)), (4, .long x4), (6, .long x6)] [] := by
    intro x4 x6 hz r_hz hf
    unfold f_Exprs_part_160 at hf
    refine mv_iconst (pc := 160) (v := 1) B d_Exprs_part_160 (by decide) ?_
    refine mv_goto (pc := 161) (tgt := 165) B d_Exprs_part_161 rfl ?_
    refine mv_lpick [0, 1, 2] rfl ?_
    exact jn165 _ _ _ _ r_hz hf
  have jn146 : ∀ (x3 : Int32) (x4 : Int64) (x6 : Int64) (x8 : Int32) (x9 : Int32) (hz : mv_H), mv_r hz = mv_r h → f_Exprs_part_146 32 x3 x4 x6 x8 x9 hz = some rg → mv_V p l e ({ frames := 3, cells := 0, slots := 0, locals := 63 }) s m ([.ref (al 22)] : List Value).toArray below meth c (mg dA D al ext) 12 0 0 (mv_Q (mg dA D al ext) below s 0 0 (mv_Rv (fun σ1 => rg = σ1 ∧ mv_r σ1 = mv_r h))) hz 146 [(0, .ref (al 22)), (3, .int x3), (4, .long x4), (6, .long x6), (8, .int x8), (9, .int x9)] [] := by
    intro x3 x4 x6 x8 x9 hz r_hz hf
    unfold f_Exprs_part_146 at hf
    refine mv_iload_n (pc := 146) B d_Exprs_part_146 rfl 1 rfl ?_
    refine mv_if_eq (pc := 147) (tgt := 160) B d_Exprs_part_147 rfl (fun h147 => ?_) (fun h147 => ?_)
    · skip
      have hf := xif_t h147 hf
      refine mv_lpick [0, 2, 3] rfl ?_
      exact jn160 _ _ _ r_hz hf
    · skip
      have hf := xif_f h147 hf
      refine mv_iload (pc := 150) B d_Exprs_part_150 4 rfl ?_
      refine mv_if_ne (pc := 152) (tgt := 160) B d_Exprs_part_152 rfl (fun h152 => ?_) (fun h152 => ?_)
      · skip
        have hf := xif_f h152 hf
        refine mv_lpick [0, 2, 3] rfl ?_
        exact jn160 _ _ _ r_hz hf
      · skip
        have hf := xif_t h152 hf
        refine mv_iload (pc := 155) B d_Exprs_part_155 5 rfl ?_
        refine mv_if_eq (pc := 157) (tgt := 164) B d_Exprs_part_157 rfl (fun h157 => ?_) (fun h157 => ?_)
        · skip
          have hf := xif_t h157 hf
          refine mv_iconst (pc := 164) (v := 0) B d_Exprs_part_164 (by decide) ?_
          refine mv_lpick [0, 2, 3] rfl ?_
          exact jn165 _ _ _ _ r_hz hf
        · skip
          have hf := xif_f h157 hf
          refine mv_lpick [0, 2, 3] rfl ?_
          exact jn160 _ _ _ r_hz hf
  have jn135 : ∀ (x2 : Int32) (x3 : Int32) (x4 : Int64) (x6 : Int64) (x8 : Int32) (x9 : Int32) (hz : mv_H), mv_r hz = mv_r h → f_Exprs_part_135 32 x2 x3 x4 x6 x8 x9 hz = some rg → mv_V p l e ({ frames := 3, cells := 0, slots := 0, locals := 63 }) s m ([.ref (al 22)] : List Value).toArray below meth c (mg dA D al ext) 12 0 0 (mv_Q (mg dA D al ext) below s 0 0 (mv_Rv (fun σ1 => rg = σ1 ∧ mv_r σ1 = mv_r h))) hz 135 [(0, .ref (al 22)), (2, .int x2), (3, .int x3), (4, .long x4), (6, .long x6), (8, .int x8), (9, .int x9)] [] := by
    intro x2 x3 x4 x6 x8 x9 hz r_hz hf
    unfold f_Exprs_part_135 at hf
    refine mv_iload (pc := 135) B d_Exprs_part_135 6 rfl ?_
    refine mv_if_eq (pc := 137) (tgt := 146) B d_Exprs_part_137 rfl (fun h137 => ?_) (fun h137 => ?_)
    · skip
      have hf := xif_t h137 hf
      refine mv_lpick [0, 2, 3, 4, 5, 6] rfl ?_
      exact jn146 _ _ _ _ _ _ r_hz hf
    · skip
      have hf := xif_f h137 hf
      refine mv_aload_n (pc := 140) B d_Exprs_part_140 rfl 0 rfl ?_
      refine mv_iload_n (pc := 141) B d_Exprs_part_141 rfl 1 rfl ?_
      refine mv_iconst (pc := 142) (v := 3) B d_Exprs_part_142 (by decide) ?_
      obtain ⟨g4, eg4, hf⟩ := xhv_e hf
      refine mv_callVv (pc := 143) (n := 2) (ci := 6) (C := R_Exprs) B (mK_ok sk sv) hNs rfl rfl (ch_Exprs_tell l hi _ (xrw r_hz hb.t) _ _ eg4) rfl (ma_goodc kc_Exprs_tell) (B.2.2.2.1 _ k_1427) (B.2.2.2.1 _ k_1429) (B.2.2.2.1 _ ks_50) (B.2.2.2.1 _ k_7) ⟨by decide +kernel, by decide +kernel, by decide +kernel⟩ rfl d_Exprs_part_143 rfl (Nat.le_of_ble_eq_true rfl) ⟨by decide, by decide⟩ ⟨by decide, by decide⟩ ⟨by decide, by decide⟩ (mv_noH hno _) (fun σ143 h143 => ?_)
      obtain ⟨rfl, s_g4⟩ := h143
      have r_g4 : mv_r g4 = mv_r h := s_g4.trans r_hz
      refine mv_lpick [0, 2, 3, 4, 5, 6] rfl ?_
      exact jn146 _ _ _ _ _ _ r_g4 hf
  have jn113 : ∀ (x1 : Int32) (x2 : Int32) (x3 : Int32) (x4 : Int64) (x6 : Int64) (y0 : Int32) (hz : mv_H), mv_r hz = mv_r h → f_Exprs_part_113 32 x1 x2 x3 x4 x6 y0 hz = some rg → mv_V p l e ({ frames := 3, cells := 0, slots := 0, locals := 63 }) s m ([.ref (al 22)] : List Value).toArray below meth c (mg dA D al ext) 12 0 0 (mv_Q (mg dA D al ext) below s 0 0 (mv_Rv (fun σ1 => rg = σ1 ∧ mv_r σ1 = mv_r h))) hz 113 [(0, .ref (al 22)), (1, .int x1), (2, .int x2), (3, .int x3), (4, .long x4), (6, .long x6)] [.int y0] := by
    intro x1 x2 x3 x4 x6 y0 hz r_hz hf
    unfold f_Exprs_part_113 at hf
    refine mv_istore (pc := 113) B d_Exprs_part_113 (by decide) rfl ?_
    refine mv_lload (pc := 115) B d_Exprs_part_115 5 rfl ?_
    refine mv_lload (pc := 117) B d_Exprs_part_117 6 rfl ?_
    obtain ⟨v6, g5, eg5, hf⟩ := xhb_e hf
    refine mv_callSi (pc := 119) (n := 2) B (mK_ok sk sv) hNs (ch_Bits_below l hi _ _ _ eg5) rfl (ma_goodc kc_Bits_below) (B.2.2.2.1 _ k_1473) (B.2.2.2.1 _ k_1474) (B.2.2.2.1 _ k_33) ⟨by decide +kernel, by decide +kernel, by decide +kernel⟩ rfl d_Exprs_part_119 rfl (Nat.le_of_ble_eq_true rfl) ⟨by decide, by decide⟩ ⟨by decide, by decide⟩ ⟨by decide, by decide⟩ (mv_noH hno _) (fun w119 σ119 h119 => ?_)
    obtain ⟨rfl, rfl, s_g5⟩ := h119
    have r_g5 : mv_r g5 = mv_r h := s_g5.trans r_hz
    refine mv_istore (pc := 122) B d_Exprs_part_122 (by decide) rfl ?_
    refine mv_iload (pc := 124) B d_Exprs_part_124 1 rfl ?_
    refine mv_if_eq (pc := 126) (tgt := 135) B d_Exprs_part_126 rfl (fun h126 => ?_) (fun h126 => ?_)
    · skip
      have hf := xif_t h126 hf
      refine mv_lpick [2, 4, 5, 6, 7, 1, 0] rfl ?_
      exact jn135 _ _ _ _ _ _ _ r_g5 hf
    · skip
      have hf := xif_f h126 hf
      refine mv_aload_n (pc := 129) B d_Exprs_part_129 rfl 2 rfl ?_
      refine mv_iload_n (pc := 130) B d_Exprs_part_130 rfl 3 rfl ?_
      refine mv_iconst (pc := 131) (v := 3) B d_Exprs_part_131 (by decide) ?_
      obtain ⟨g7, eg7, hf⟩ := xhv_e hf
      refine mv_callVv (pc := 132) (n := 2) (ci := 6) (C := R_Exprs) B (mK_ok sk sv) hNs rfl rfl (ch_Exprs_tell l hi _ (xrw r_g5 hb.t) _ _ eg7) rfl (ma_goodc kc_Exprs_tell) (B.2.2.2.1 _ k_1427) (B.2.2.2.1 _ k_1429) (B.2.2.2.1 _ ks_50) (B.2.2.2.1 _ k_7) ⟨by decide +kernel, by decide +kernel, by decide +kernel⟩ rfl d_Exprs_part_132 rfl (Nat.le_of_ble_eq_true rfl) ⟨by decide, by decide⟩ ⟨by decide, by decide⟩ ⟨by decide, by decide⟩ (mv_noH hno _) (fun σ132 h132 => ?_)
      obtain ⟨rfl, s_g7⟩ := h132
      have r_g7 : mv_r g7 = mv_r h := s_g7.trans r_g5
      refine mv_lpick [2, 4, 5, 6, 7, 1, 0] rfl ?_
      exact jn135 _ _ _ _ _ _ _ r_g7 hf
  have jn112 : ∀ (x1 : Int32) (x2 : Int32) (x3 : Int32) (x4 : Int64) (x6 : Int64) (hz : mv_H), mv_r hz = mv_r h → f_Exprs_part_112 32 x1 x2 x3 x4 x6 hz = some rg → mv_V p l e ({ frames := 3, cells := 0, slots := 0, locals := 63 }) s m ([.ref (al 22)] : List Value).toArray below meth c (mg dA D al ext) 12 0 0 (mv_Q (mg dA D al ext) below s 0 0 (mv_Rv (fun σ1 => rg = σ1 ∧ mv_r σ1 = mv_r h))) hz 112 [(0, .ref (al 22)), (1, .int x1), (2, .int x2), (3, .int x3), (4, .long x4), (6, .long x6)] [] := by
    intro x1 x2 x3 x4 x6 hz r_hz hf
    unfold f_Exprs_part_112 at hf
    refine mv_iconst (pc := 112) (v := 0) B d_Exprs_part_112 (by decide) ?_
    refine mv_lpick [0, 1, 2, 3, 4, 5] rfl ?_
    exact jn113 _ _ _ _ _ _ _ r_hz hf
  have jn108 : ∀ (x1 : Int32) (x2 : Int32) (x3 : Int32) (x4 : Int64) (x6 : Int64) (hz : mv_H), mv_r hz = mv_r h → f_Exprs_part_108 32 x1 x2 x3 x4 x6 hz = some rg → mv_V p l e ({ frames := 3, cells := 0, slots := 0, locals := 63 }) s m ([.ref (al 22)] : List Value).toArray below meth c (mg dA D al ext) 12 0 0 (mv_Q (mg dA D al ext) below s 0 0 (mv_Rv (fun σ1 => rg = σ1 ∧ mv_r σ1 = mv_r h))) hz 108 [(0, .ref (al 22)), (1, .int x1), (2, .int x2), (3, .int x3), (4, .long x4), (6, .long x6)] [] := by
    intro x1 x2 x3 x4 x6 hz r_hz hf
    unfold f_Exprs_part_108 at hf
    refine mv_iconst (pc := 108) (v := 1) B d_Exprs_part_108 (by decide) ?_
    refine mv_goto (pc := 109) (tgt := 113) B d_Exprs_part_109 rfl ?_
    refine mv_lpick [0, 1, 2, 3, 4, 5] rfl ?_
    exact jn113 _ _ _ _ _ _ _ r_hz hf
  have jn52 : ∀ (x1 : Int32) (x2 : Int32) (hz : mv_H), mv_r hz = mv_r h → f_Exprs_part_52 32 x1 x2 hz = some rg → mv_V p l e ({ frames := 3, cells := 0, slots := 0, locals := 63 }) s m ([.ref (al 22)] : List Value).toArray below meth c (mg dA D al ext) 12 0 0 (mv_Q (mg dA D al ext) below s 0 0 (mv_Rv (fun σ1 => rg = σ1 ∧ mv_r σ1 = mv_r h))) hz 52 [(0, .ref (al 22)), (1, .int x1), (2, .int x2)] [] := by
    intro x1 x2 hz r_hz hf
    unfold f_Exprs_part_52 at hf
    refine mv_aload_n (pc := 52) B d_Exprs_part_52 rfl 0 rfl ?_
    refine mv_getR (pc := 53) (ci := 6) (C := R_Exprs) (T := F_Exprs) (N := 11) B 0 rfl rfl (by decide) i_Exprs (B.2.2.2.1 _ k_193) rfl ((congrFun (congrFun r_hz 22) 0).trans (hb.1.1 22 0 _ rfl)) d_Exprs_part_53 ?_
    refine mv_bipush (pc := 56) (v := 93) B d_Exprs_part_56 (by decide) ?_
    obtain ⟨v9, g8, eg8, hf⟩ := xhb_e hf
    refine mv_callVi (pc := 58) (n := 1) (ci := 2) (C := R_Tokens) B (mK_ok sk sv) hNs rfl rfl (ch_Tokens_close l hi _ (xrw r_hz hb.t) _ eg8) rfl (ma_goodc kc_Tokens_close) (B.2.2.2.1 _ k_1468) (B.2.2.2.1 _ k_1397) (B.2.2.2.1 _ k_1398) (B.2.2.2.1 _ k_3) ⟨by decide +kernel, by decide +kernel, by decide +kernel⟩ rfl d_Exprs_part_58 rfl (Nat.le_of_ble_eq_true rfl) ⟨by decide, by decide⟩ ⟨by decide, by decide⟩ ⟨by decide, by decide⟩ (mv_noH hno _) (fun w58 σ58 h58 => ?_)
    obtain ⟨rfl, rfl, s_g8⟩ := h58
    have r_g8 : mv_r g8 = mv_r h := s_g8.trans r_hz
    refine mv_pop (pc := 61) B d_Exprs_part_61 rfl ?_
    refine mv_aload_n (pc := 62) B d_Exprs_part_62 rfl 0 rfl ?_
    obtain ⟨v11, g10, eg10, hf⟩ := xhb_e hf
    refine mv_callVi (pc := 63) (n := 0) (ci := 6) (C := R_Exprs) B (mK_ok sk sv) hNs rfl rfl (ch_Exprs_release l hi _ (xrw r_g8 hb.t) eg10) rfl (ma_goodc kc_Exprs_release) (B.2.2.2.1 _ k_1469) (B.2.2.2.1 _ k_1470) (B.2.2.2.1 _ k_1471) (B.2.2.2.1 _ k_7) ⟨by decide +kernel, by decide +kernel, by decide +kernel⟩ rfl d_Exprs_part_63 rfl (Nat.le_of_ble_eq_true rfl) ⟨by decide, by decide⟩ ⟨by decide, by decide⟩ ⟨by decide, by decide⟩ (mv_noH hno _) (fun w63 σ63 h63 => ?_)
    obtain ⟨rfl, rfl, s_g10⟩ := h63
    have r_g10 : mv_r g10 = mv_r h := s_g10.trans r_g8
    refine mv_istore_n (pc := 66) B d_Exprs_part_66 rfl (by decide) rfl ?_
    refine mv_aload_n (pc := 67) B d_Exprs_part_67 rfl 1 rfl ?_
    refine mv_getR (pc := 68) (ci := 6) (C := R_Exprs) (T := F_Exprs) (N := 11) B 0 rfl rfl (by decide) i_Exprs (B.2.2.2.1 _ k_193) rfl ((congrFun (congrFun r_g10 22) 0).trans (hb.1.1 22 0 _ rfl)) d_Exprs_part_68 ?_
    refine mv_getR (pc := 71) (ci := 2) (C := R_Tokens) (T := F_Tokens) (N := 10) B 2 rfl rfl (by decide) i_Tokens (B.2.2.2.1 _ k_95) rfl ((congrFun (congrFun r_g10 3) 2).trans (hb.1.1 3 2 _ rfl)) d_Exprs_part_71 ?_
    refine mv_iload_n (pc := 74) B d_Exprs_part_74 rfl 2 rfl ?_
    obtain ⟨q12, hf⟩ := xvi_e hf
    refine mv_lald (pc := 75) B rfl q12 d_Exprs_part_75 ?_
    refine mv_lstore (pc := 76) B d_Exprs_part_76 (by decide) rfl ?_
    refine mv_aload_n (pc := 78) B d_Exprs_part_78 rfl 2 rfl ?_
    refine mv_getR (pc := 79) (ci := 6) (C := R_Exprs) (T := F_Exprs) (N := 11) B 0 rfl rfl (by decide) i_Exprs (B.2.2.2.1 _ k_193) rfl ((congrFun (congrFun r_g10 22) 0).trans (hb.1.1 22 0 _ rfl)) d_Exprs_part_79 ?_
    refine mv_getR (pc := 82) (ci := 2) (C := R_Tokens) (T := F_Tokens) (N := 10) B 2 rfl rfl (by decide) i_Tokens (B.2.2.2.1 _ k_95) rfl ((congrFun (congrFun r_g10 3) 2).trans (hb.1.1 3 2 _ rfl)) d_Exprs_part_82 ?_
    refine mv_iload_n (pc := 85) B d_Exprs_part_85 rfl 4 rfl ?_
    obtain ⟨q13, hf⟩ := xvi_e hf
    refine mv_lald (pc := 86) B rfl q13 d_Exprs_part_86 ?_
    refine mv_lstore (pc := 87) B d_Exprs_part_87 (by decide) rfl ?_
    refine mv_iload_n (pc := 89) B d_Exprs_part_89 rfl 2 rfl ?_
    refine mv_if_le (pc := 90) (tgt := 112) B d_Exprs_part_90 rfl (fun h90 => ?_) (fun h90 => ?_)
    · skip
      have hf := xif_t h90 hf
      refine mv_lpick [3, 4, 5, 2, 1, 0] rfl ?_
      exact jn112 _ _ _ _ _ _ r_g10 hf
    · skip
      have hf := xif_f h90 hf
      refine mv_lload (pc := 93) B d_Exprs_part_93 1 rfl ?_
      refine mv_lconst (pc := 95) (v := 0) B d_Exprs_part_95 (by decide) ?_
      refine mv_lcmp (pc := 96) B d_Exprs_part_96 ?_
      refine mv_if_lt (pc := 97) (tgt := 108) B d_Exprs_part_97 rfl (fun h97 => ?_) (fun h97 => ?_)
      · skip
        have hf := xif_t h97 hf
        refine mv_lpick [3, 4, 5, 2, 1, 0] rfl ?_
        exact jn108 _ _ _ _ _ _ r_g10 hf
      · skip
        have hf := xif_f h97 hf
        refine mv_lload (pc := 100) B d_Exprs_part_100 1 rfl ?_
        refine mv_iload_n (pc := 102) B d_Exprs_part_102 rfl 2 rfl ?_
        refine mv_i2l (pc := 103) B d_Exprs_part_103 ?_
        refine mv_lcmp (pc := 104) B d_Exprs_part_104 ?_
        refine mv_if_lt (pc := 105) (tgt := 112) B d_Exprs_part_105 rfl (fun h105 => ?_) (fun h105 => ?_)
        · skip
          have hf := xif_t h105 hf
          refine mv_lpick [3, 4, 5, 2, 1, 0] rfl ?_
          exact jn112 _ _ _ _ _ _ r_g10 hf
        · skip
          have hf := xif_f h105 hf
          refine mv_lpick [3, 4, 5, 2, 1, 0] rfl ?_
          exact jn108 _ _ _ _ _ _ r_g10 hf
  unfold f_Exprs_part at hf
  refine mv_aload_n (pc := 0) B d_Exprs_part_0 rfl 0 rfl ?_
  refine mv_getR (pc := 1) (ci := 6) (C := R_Exprs) (T := F_Exprs) (N := 11) B 0 rfl rfl (by decide) i_Exprs (B.2.2.2.1 _ k_193) rfl (hb.1.1 22 0 _ rfl) d_Exprs_part_1 ?_
  refine mv_bipush (pc := 4) (v := 91) B d_Exprs_part_4 (by decide) ?_
  obtain ⟨v15, g14, eg14, hf⟩ := xhb_e hf
  refine mv_callVi (pc := 6) (n := 1) (ci := 2) (C := R_Tokens) B (mK_ok sk sv) hNs rfl rfl (ch_Tokens_open l hi _ (hb.t) _ eg14) rfl (ma_goodc kc_Tokens_open) (B.2.2.2.1 _ k_1415) (B.2.2.2.1 _ k_1350) (B.2.2.2.1 _ k_1351) (B.2.2.2.1 _ k_3) ⟨by decide +kernel, by decide +kernel, by decide +kernel⟩ rfl d_Exprs_part_6 rfl (Nat.le_of_ble_eq_true rfl) ⟨by decide, by decide⟩ ⟨by decide, by decide⟩ ⟨by decide, by decide⟩ (mv_noH hno _) (fun w6 σ6 h6 => ?_)
  obtain ⟨rfl, rfl, s_g14⟩ := h6
  have r_g14 : mv_r g14 = mv_r h := s_g14.trans rfl
  refine mv_pop (pc := 9) B d_Exprs_part_9 rfl ?_
  refine mv_aload_n (pc := 10) B d_Exprs_part_10 rfl 0 rfl ?_
  refine mv_getR (pc := 11) (ci := 6) (C := R_Exprs) (T := F_Exprs) (N := 11) B 0 rfl rfl (by decide) i_Exprs (B.2.2.2.1 _ k_193) rfl ((congrFun (congrFun r_g14 22) 0).trans (hb.1.1 22 0 _ rfl)) d_Exprs_part_11 ?_
  refine mv_iconst (pc := 14) (v := 4) B d_Exprs_part_14 (by decide) ?_
  obtain ⟨v17, g16, eg16, hf⟩ := xhb_e hf
  refine mv_callVi (pc := 15) (n := 1) (ci := 2) (C := R_Tokens) B (mK_ok sk sv) hNs rfl rfl (ch_Tokens_take l hi _ (xrw r_g14 hb.t) _ eg16) rfl (ma_goodc kc_Tokens_take) (B.2.2.2.1 _ k_1424) (B.2.2.2.1 _ k_1267) (B.2.2.2.1 _ k_1268) (B.2.2.2.1 _ k_3) ⟨by decide +kernel, by decide +kernel, by decide +kernel⟩ rfl d_Exprs_part_15 rfl (Nat.le_of_ble_eq_true rfl) ⟨by decide, by decide⟩ ⟨by decide, by decide⟩ ⟨by decide, by decide⟩ (mv_noH hno _) (fun w15 σ15 h15 => ?_)
  obtain ⟨rfl, rfl, s_g16⟩ := h15
  have r_g16 : mv_r g16 = mv_r h := s_g16.trans r_g14
  refine mv_istore_n (pc := 18) B d_Exprs_part_18 rfl (by decide) rfl ?_
  refine mv_iload_n (pc := 19) B d_Exprs_part_19 rfl 0 rfl ?_
  refine mv_istore_n (pc := 20) B d_Exprs_part_20 rfl (by decide) rfl ?_
  refine mv_aload_n (pc := 21) B d_Exprs_part_21 rfl 2 rfl ?_
  refine mv_getR (pc := 22) (ci := 6) (C := R_Exprs) (T := F_Exprs) (N := 11) B 0 rfl rfl (by decide) i_Exprs (B.2.2.2.1 _ k_193) rfl ((congrFun (congrFun r_g16 22) 0).trans (hb.1.1 22 0 _ rfl)) d_Exprs_part_22 ?_
  obtain ⟨v19, g18, eg18, hf⟩ := xhb_e hf
  refine mv_callVi (pc := 25) (n := 0) (ci := 2) (C := R_Tokens) B (mK_ok sk sv) hNs rfl rfl (ch_Tokens_kind l hi _ (xrw r_g16 hb.t) eg18) rfl (ma_goodc kc_Tokens_kind) (B.2.2.2.1 _ k_1414) (B.2.2.2.1 _ k_1271) (B.2.2.2.1 _ k_1272) (B.2.2.2.1 _ k_3) ⟨by decide +kernel, by decide +kernel, by decide +kernel⟩ rfl d_Exprs_part_25 rfl (Nat.le_of_ble_eq_true rfl) ⟨by decide, by decide⟩ ⟨by decide, by decide⟩ ⟨by decide, by decide⟩ (mv_noH hno _) (fun w25 σ25 h25 => ?_)
  obtain ⟨rfl, rfl, s_g18⟩ := h25
  have r_g18 : mv_r g18 = mv_r h := s_g18.trans r_g16
  refine mv_bipush (pc := 28) (v := 58) B d_Exprs_part_28 (by decide) ?_
  refine mv_icmp_ne (pc := 30) (tgt := 52) B d_Exprs_part_30 rfl (fun h30 => ?_) (fun h30 => ?_)
  · skip
    have hf := xif_f h30 hf
    refine mv_lpick [2, 1, 0] rfl ?_
    exact jn52 _ _ _ r_g18 hf
  · skip
    have hf := xif_t h30 hf
    refine mv_aload_n (pc := 33) B d_Exprs_part_33 rfl 2 rfl ?_
    refine mv_getR (pc := 34) (ci := 6) (C := R_Exprs) (T := F_Exprs) (N := 11) B 0 rfl rfl (by decide) i_Exprs (B.2.2.2.1 _ k_193) rfl ((congrFun (congrFun r_g18 22) 0).trans (hb.1.1 22 0 _ rfl)) d_Exprs_part_34 ?_
    refine mv_bipush (pc := 37) (v := 58) B d_Exprs_part_37 (by decide) ?_
    obtain ⟨v21, g20, eg20, hf⟩ := xhb_e hf
    refine mv_callVi (pc := 39) (n := 1) (ci := 2) (C := R_Tokens) B (mK_ok sk sv) hNs rfl rfl (ch_Tokens_take l hi _ (xrw r_g18 hb.t) _ eg20) rfl (ma_goodc kc_Tokens_take) (B.2.2.2.1 _ k_1424) (B.2.2.2.1 _ k_1267) (B.2.2.2.1 _ k_1268) (B.2.2.2.1 _ k_3) ⟨by decide +kernel, by decide +kernel, by decide +kernel⟩ rfl d_Exprs_part_39 rfl (Nat.le_of_ble_eq_true rfl) ⟨by decide, by decide⟩ ⟨by decide, by decide⟩ ⟨by decide, by decide⟩ (mv_noH hno _) (fun w39 σ39 h39 => ?_)
    obtain ⟨rfl, rfl, s_g20⟩ := h39
    have r_g20 : mv_r g20 = mv_r h := s_g20.trans r_g18
    refine mv_pop (pc := 42) B d_Exprs_part_42 rfl ?_
    refine mv_aload_n (pc := 43) B d_Exprs_part_43 rfl 2 rfl ?_
    refine mv_getR (pc := 44) (ci := 6) (C := R_Exprs) (T := F_Exprs) (N := 11) B 0 rfl rfl (by decide) i_Exprs (B.2.2.2.1 _ k_193) rfl ((congrFun (congrFun r_g20 22) 0).trans (hb.1.1 22 0 _ rfl)) d_Exprs_part_44 ?_
    refine mv_iconst (pc := 47) (v := 4) B d_Exprs_part_47 (by decide) ?_
    obtain ⟨v23, g22, eg22, hf⟩ := xhb_e hf
    refine mv_callVi (pc := 48) (n := 1) (ci := 2) (C := R_Tokens) B (mK_ok sk sv) hNs rfl rfl (ch_Tokens_take l hi _ (xrw r_g20 hb.t) _ eg22) rfl (ma_goodc kc_Tokens_take) (B.2.2.2.1 _ k_1424) (B.2.2.2.1 _ k_1267) (B.2.2.2.1 _ k_1268) (B.2.2.2.1 _ k_3) ⟨by decide +kernel, by decide +kernel, by decide +kernel⟩ rfl d_Exprs_part_48 rfl (Nat.le_of_ble_eq_true rfl) ⟨by decide, by decide⟩ ⟨by decide, by decide⟩ ⟨by decide, by decide⟩ (mv_noH hno _) (fun w48 σ48 h48 => ?_)
    obtain ⟨rfl, rfl, s_g22⟩ := h48
    have r_g22 : mv_r g22 = mv_r h := s_g22.trans r_g20
    refine mv_istore_n (pc := 51) B d_Exprs_part_51 rfl (by decide) rfl ?_
    refine mv_lpick [2, 1, 0] rfl ?_
    exact jn52 _ _ _ r_g22 hf
set_option maxHeartbeats 4000000 in
set_option maxRecDepth 100000 in
theorem ch_Exprs_part_b (l : Launch) {dA : FieldType → ClassId} {D : va_G} {al : Nat → Nat} {ext : mv_Sh} {sk sv : Nat → Nat} (hi : mv_inj (mg dA D al ext)) (h : mv_H) (hb : xRP 48 (mv_r h))  {rg : mv_H} (hf : f_Exprs_part 48 h = some rg) : mv_C l y_Exprs_part (Cond.code y_Exprs_part b_Exprs_part 12 (Option.none : Option Jvm.ClassFile.FieldType) :: ma) ({ frames := 3, cells := 0, slots := 0, locals := 63 }) (mg dA D al ext) (mK sk sv) [.ref (al 22)] h (mv_Rv (fun σ1 => rg = σ1 ∧ mv_r σ1 = mv_r h)) := by
  refine mv_C.ofV (cc := b_Exprs_part) (nL := 12) (ret := (Option.none : Option Jvm.ClassFile.FieldType)) (by decide +kernel) rfl hi (Nat.le_of_ble_eq_true rfl) ?_
  intro p e s m below meth c B hNs hr hnm hno
  have jn184 : ∀ (x6 : Int64) (y0 : Int32) (hz : mv_H), mv_r hz = mv_r h → f_Exprs_part_184 48 x6 y0 hz = some rg → mv_V p l e ({ frames := 3, cells := 0, slots := 0, locals := 63 }) s m ([.ref (al 22)] : List Value).toArray below meth c (mg dA D al ext) 12 0 0 (mv_Q (mg dA D al ext) below s 0 0 (mv_Rv (fun σ1 => rg = σ1 ∧ mv_r σ1 = mv_r h))) hz 184 [(0, .ref (al 22)), (6, .long x6)] [.int y0] := by
    intro x6 y0 hz r_hz hf
    unfold f_Exprs_part_184 at hf
    refine mv_istore (pc := 184) B d_Exprs_part_184 (by decide) rfl ?_
    refine mv_aload_n (pc := 186) B d_Exprs_part_186 rfl 1 rfl ?_
    refine mv_getR (pc := 187) (ci := 6) (C := R_Exprs) (T := F_Exprs) (N := 11) B 3 rfl rfl (by decide) i_Exprs (B.2.2.2.1 _ k_197) rfl ((congrFun (congrFun r_hz 22) 3).trans hb.1.2.2.2) d_Exprs_part_187 ?_
    refine mv_sipush (pc := 190) (v := 308) B d_Exprs_part_190 (by decide) ?_
    refine mv_lload (pc := 193) B d_Exprs_part_193 2 rfl ?_
    refine mv_ldc2 (pc := 195) (v := 255) B (B.2.2.2.1 _ k_1477) d_Exprs_part_195 ?_
    refine mv_land (pc := 198) B d_Exprs_part_198 ?_
    refine mv_iload (pc := 199) B d_Exprs_part_199 0 rfl ?_
    refine mv_i2l (pc := 201) B d_Exprs_part_201 ?_
    refine mv_bipush (pc := 202) (v := 8) B d_Exprs_part_202 (by decide) ?_
    refine mv_lshl (pc := 204) B d_Exprs_part_204 ?_
    refine mv_lor (pc := 205) B d_Exprs_part_205 ?_
    obtain ⟨v2, g1, eg1, hf⟩ := xhb_e hf
    refine mv_callVi (pc := 206) (n := 2) (ci := 7) (C := R_Program) B (mK_ok sk sv) hNs rfl rfl (ch_Program_emit_b l hi _ (xrw r_hz hb) _ _ eg1) rfl (ma_goodc kc_Program_emit) (B.2.2.2.1 _ k_1425) (B.2.2.2.1 _ k_1385) (B.2.2.2.1 _ k_1386) (B.2.2.2.1 _ k_8) ⟨by decide +kernel, by decide +kernel, by decide +kernel⟩ rfl d_Exprs_part_206 rfl (Nat.le_of_ble_eq_true rfl) ⟨by decide, by decide⟩ ⟨by decide, by decide⟩ ⟨by decide, by decide⟩ (mv_noH hno _) (fun w206 σ206 h206 => ?_)
    obtain ⟨rfl, rfl, s_g1⟩ := h206
    have r_g1 : mv_r g1 = mv_r h := s_g1.trans r_hz
    refine mv_pop (pc := 209) B d_Exprs_part_209 rfl ?_
    refine mv_aload_n (pc := 210) B d_Exprs_part_210 rfl 1 rfl ?_
    refine mv_iload (pc := 211) B d_Exprs_part_211 0 rfl ?_
    obtain ⟨g3, eg3, hf⟩ := xhv_e hf
    refine mv_callVv (pc := 213) (n := 1) (ci := 6) (C := R_Exprs) B (mK_ok sk sv) hNs rfl rfl (ch_Exprs_hold l hi _ (xrw r_g1 hb.t) _ eg3) rfl (ma_goodc kc_Exprs_hold) (B.2.2.2.1 _ k_1432) (B.2.2.2.1 _ k_1434) (B.2.2.2.1 _ ks_51) (B.2.2.2.1 _ k_7) ⟨by decide +kernel, by decide +kernel, by decide +kernel⟩ rfl d_Exprs_part_213 rfl (Nat.le_of_ble_eq_true rfl) ⟨by decide, by decide⟩ ⟨by decide, by decide⟩ ⟨by decide, by decide⟩ (mv_noH hno _) (fun σ213 h213 => ?_)
    obtain ⟨rfl, s_g3⟩ := h213
    have r_g3 : mv_r g3 = mv_r h := s_g3.trans r_g1
    exact mv_vret (pc := 216) B hr d_Exprs_part_216 (Nat.le_refl _) (Nat.le_refl _) ⟨rfl, xrh_v hf r_g3⟩
  have jn165 : ∀ (x4 : Int64) (x6 : Int64) (y0 : Int32) (hz : mv_H), mv_r hz = mv_r h → f_Exprs_part_165 48 x4 x6 y0 hz = some rg → mv_V p l e ({ frames := 3, cells := 0, slots := 0, locals := 63 }) s m ([.ref (al 22)] : List Value).toArray below meth c (mg dA D al ext) 12 0 0 (mv_Q (mg dA D al ext) below s 0 0 (mv_Rv (fun σ1 => rg = σ1 ∧ mv_r σ1 = mv_r h))) hz 165 [(0, .ref (al 22)), (4, .long x4), (6, .long x6)] [.int y0] := by
    intro x4 x6 y0 hz r_hz hf
    unfold f_Exprs_part_165 at hf
    refine mv_istore (pc := 165) B d_Exprs_part_165 (by decide) rfl ?_
    refine mv_iload (pc := 167) B d_Exprs_part_167 0 rfl ?_
    refine mv_if_eq (pc := 169) (tgt := 176) B d_Exprs_part_169 rfl (fun h169 => ?_) (fun h169 => ?_)
    · skip
      have hf := xif_t h169 hf
      refine mv_lload (pc := 176) B d_Exprs_part_176 2 rfl ?_
      refine mv_lload (pc := 178) B d_Exprs_part_178 3 rfl ?_
      refine mv_lsub (pc := 180) B d_Exprs_part_180 ?_
      refine mv_l2i (pc := 181) B d_Exprs_part_181 ?_
      refine mv_iconst (pc := 182) (v := 1) B d_Exprs_part_182 (by decide) ?_
      refine mv_iadd (pc := 183) B d_Exprs_part_183 ?_
      refine mv_lpick [1, 3] rfl ?_
      exact jn184 _ _ _ r_hz hf
    · skip
      have hf := xif_f h169 hf
      refine mv_iconst (pc := 172) (v := 0) B d_Exprs_part_172 (by decide) ?_
      refine mv_goto (pc := 173) (tgt := 184) B d_Exprs_part_173 rfl ?_
      refine mv_lpick [1, 3] rfl ?_
      exact jn184 _ _ _ r_hz hf
  have jn160 : ∀ (x4 : Int64) (x6 : Int64) (hz : mv_H), mv_r hz = mv_r h → f_Exprs_part_160 48 x4 x6 hz = some rg → mv_V p l e ({ frames := 3, cells := 0, slots := 0, locals := 63 }) s m ([.ref (al 22)] : List Value).toArray below meth c (mg dA D al ext) 12 0 0 (mv_Q (mg dA D al ext) below s 0 0 (mv_Rv (fun σ1 => rg = σ1 ∧ mv_r σ1 = mv_r h))) hz 160 [(0, .ref (al 22)), (4, .long x4), (6, .long x6)] [] := by
    intro x4 x6 hz r_hz hf
    unfold f_Exprs_part_160 at hf
    refine mv_iconst (pc := 160) (v := 1) B d_Exprs_part_160 (by decide) ?_
    refine mv_goto (pc := 161) (tgt := 165) B d_Exprs_part_161 rfl ?_
    refine mv_lpick [0, 1, 2] rfl ?_
    exact jn165 _ _ _ _ r_hz hf
  have jn146 : ∀ (x3 : Int32) (x4 : Int64) (x6 : Int64) (x8 : Int32) (x9 : Int32) (hz : mv_H), mv_r hz = mv_r h → f_Exprs_part_146 48 x3 x4 x6 x8 x9 hz = some rg → mv_V p l e ({ frames := 3, cells := 0, slots := 0, locals := 63 }) s m ([.ref (al 22)] : List Value).toArray below meth c (mg dA D al ext) 12 0 0 (mv_Q (mg dA D al ext) below s 0 0 (mv_Rv (fun σ1 => rg = σ1 ∧ mv_r σ1 = mv_r h))) hz 146 [(0, .ref (al 22)), (3, .int x3), (4, .long x4), (6, .long x6), (8, .int x8), (9, .int x9)] [] := by
    intro x3 x4 x6 x8 x9 hz r_hz hf
    unfold f_Exprs_part_146 at hf
    refine mv_iload_n (pc := 146) B d_Exprs_part_146 rfl 1 rfl ?_
    refine mv_if_eq (pc := 147) (tgt := 160) B d_Exprs_part_147 rfl (fun h147 => ?_) (fun h147 => ?_)
    · skip
      have hf := xif_t h147 hf
      refine mv_lpick [0, 2, 3] rfl ?_
      exact jn160 _ _ _ r_hz hf
    · skip
      have hf := xif_f h147 hf
      refine mv_iload (pc := 150) B d_Exprs_part_150 4 rfl ?_
      refine mv_if_ne (pc := 152) (tgt := 160) B d_Exprs_part_152 rfl (fun h152 => ?_) (fun h152 => ?_)
      · skip
        have hf := xif_f h152 hf
        refine mv_lpick [0, 2, 3] rfl ?_
        exact jn160 _ _ _ r_hz hf
      · skip
        have hf := xif_t h152 hf
        refine mv_iload (pc := 155) B d_Exprs_part_155 5 rfl ?_
        refine mv_if_eq (pc := 157) (tgt := 164) B d_Exprs_part_157 rfl (fun h157 => ?_) (fun h157 => ?_)
        · skip
          have hf := xif_t h157 hf
          refine mv_iconst (pc := 164) (v := 0) B d_Exprs_part_164 (by decide) ?_
          refine mv_lpick [0, 2, 3] rfl ?_
          exact jn165 _ _ _ _ r_hz hf
        · skip
          have hf := xif_f h157 hf
          refine mv_lpick [0, 2, 3] rfl ?_
          exact jn160 _ _ _ r_hz hf
  have jn135 : ∀ (x2 : Int32) (x3 : Int32) (x4 : Int64) (x6 : Int64) (x8 : Int32) (x9 : Int32) (hz : mv_H), mv_r hz = mv_r h → f_Exprs_part_135 48 x2 x3 x4 x6 x8 x9 hz = some rg → mv_V p l e ({ frames := 3, cells := 0, slots := 0, locals := 63 }) s m ([.ref (al 22)] : List Value).toArray below meth c (mg dA D al ext) 12 0 0 (mv_Q (mg dA D al ext) below s 0 0 (mv_Rv (fun σ1 => rg = σ1 ∧ mv_r σ1 = mv_r h))) hz 135 [(0, .ref (al 22)), (2, .int x2), (3, .int x3), (4, .long x4), (6, .long x6), (8, .int x8), (9, .int x9)] [] := by
    intro x2 x3 x4 x6 x8 x9 hz r_hz hf
    unfold f_Exprs_part_135 at hf
    refine mv_iload (pc := 135) B d_Exprs_part_135 6 rfl ?_
    refine mv_if_eq (pc := 137) (tgt := 146) B d_Exprs_part_137 rfl (fun h137 => ?_) (fun h137 => ?_)
    · skip
      have hf := xif_t h137 hf
      refine mv_lpick [0, 2, 3, 4, 5, 6] rfl ?_
      exact jn146 _ _ _ _ _ _ r_hz hf
    · skip
      have hf := xif_f h137 hf
      refine mv_aload_n (pc := 140) B d_Exprs_part_140 rfl 0 rfl ?_
      refine mv_iload_n (pc := 141) B d_Exprs_part_141 rfl 1 rfl ?_
      refine mv_iconst (pc := 142) (v := 3) B d_Exprs_part_142 (by decide) ?_
      obtain ⟨g4, eg4, hf⟩ := xhv_e hf
      refine mv_callVv (pc := 143) (n := 2) (ci := 6) (C := R_Exprs) B (mK_ok sk sv) hNs rfl rfl (ch_Exprs_tell l hi _ (xrw r_hz hb.t) _ _ eg4) rfl (ma_goodc kc_Exprs_tell) (B.2.2.2.1 _ k_1427) (B.2.2.2.1 _ k_1429) (B.2.2.2.1 _ ks_50) (B.2.2.2.1 _ k_7) ⟨by decide +kernel, by decide +kernel, by decide +kernel⟩ rfl d_Exprs_part_143 rfl (Nat.le_of_ble_eq_true rfl) ⟨by decide, by decide⟩ ⟨by decide, by decide⟩ ⟨by decide, by decide⟩ (mv_noH hno _) (fun σ143 h143 => ?_)
      obtain ⟨rfl, s_g4⟩ := h143
      have r_g4 : mv_r g4 = mv_r h := s_g4.trans r_hz
      refine mv_lpick [0, 2, 3, 4, 5, 6] rfl ?_
      exact jn146 _ _ _ _ _ _ r_g4 hf
  have jn113 : ∀ (x1 : Int32) (x2 : Int32) (x3 : Int32) (x4 : Int64) (x6 : Int64) (y0 : Int32) (hz : mv_H), mv_r hz = mv_r h → f_Exprs_part_113 48 x1 x2 x3 x4 x6 y0 hz = some rg → mv_V p l e ({ frames := 3, cells := 0, slots := 0, locals := 63 }) s m ([.ref (al 22)] : List Value).toArray below meth c (mg dA D al ext) 12 0 0 (mv_Q (mg dA D al ext) below s 0 0 (mv_Rv (fun σ1 => rg = σ1 ∧ mv_r σ1 = mv_r h))) hz 113 [(0, .ref (al 22)), (1, .int x1), (2, .int x2), (3, .int x3), (4, .long x4), (6, .long x6)] [.int y0] := by
    intro x1 x2 x3 x4 x6 y0 hz r_hz hf
    unfold f_Exprs_part_113 at hf
    refine mv_istore (pc := 113) B d_Exprs_part_113 (by decide) rfl ?_
    refine mv_lload (pc := 115) B d_Exprs_part_115 5 rfl ?_
    refine mv_lload (pc := 117) B d_Exprs_part_117 6 rfl ?_
    obtain ⟨v6, g5, eg5, hf⟩ := xhb_e hf
    refine mv_callSi (pc := 119) (n := 2) B (mK_ok sk sv) hNs (ch_Bits_below l hi _ _ _ eg5) rfl (ma_goodc kc_Bits_below) (B.2.2.2.1 _ k_1473) (B.2.2.2.1 _ k_1474) (B.2.2.2.1 _ k_33) ⟨by decide +kernel, by decide +kernel, by decide +kernel⟩ rfl d_Exprs_part_119 rfl (Nat.le_of_ble_eq_true rfl) ⟨by decide, by decide⟩ ⟨by decide, by decide⟩ ⟨by decide, by decide⟩ (mv_noH hno _) (fun w119 σ119 h119 => ?_)
    obtain ⟨rfl, rfl, s_g5⟩ := h119
    have r_g5 : mv_r g5 = mv_r h := s_g5.trans r_hz
    refine mv_istore (pc := 122) B d_Exprs_part_122 (by decide) rfl ?_
    refine mv_iload (pc := 124) B d_Exprs_part_124 1 rfl ?_
    refine mv_if_eq (pc := 126) (tgt := 135) B d_Exprs_part_126 rfl (fun h126 => ?_) (fun h126 => ?_)
    · skip
      have hf := xif_t h126 hf
      refine mv_lpick [2, 4, 5, 6, 7, 1, 0] rfl ?_
      exact jn135 _ _ _ _ _ _ _ r_g5 hf
    · skip
      have hf := xif_f h126 hf
      refine mv_aload_n (pc := 129) B d_Exprs_part_129 rfl 2 rfl ?_
      refine mv_iload_n (pc := 130) B d_Exprs_part_130 rfl 3 rfl ?_
      refine mv_iconst (pc := 131) (v := 3) B d_Exprs_part_131 (by decide) ?_
      obtain ⟨g7, eg7, hf⟩ := xhv_e hf
      refine mv_callVv (pc := 132) (n := 2) (ci := 6) (C := R_Exprs) B (mK_ok sk sv) hNs rfl rfl (ch_Exprs_tell l hi _ (xrw r_g5 hb.t) _ _ eg7) rfl (ma_goodc kc_Exprs_tell) (B.2.2.2.1 _ k_1427) (B.2.2.2.1 _ k_1429) (B.2.2.2.1 _ ks_50) (B.2.2.2.1 _ k_7) ⟨by decide +kernel, by decide +kernel, by decide +kernel⟩ rfl d_Exprs_part_132 rfl (Nat.le_of_ble_eq_true rfl) ⟨by decide, by decide⟩ ⟨by decide, by decide⟩ ⟨by decide, by decide⟩ (mv_noH hno _) (fun σ132 h132 => ?_)
      obtain ⟨rfl, s_g7⟩ := h132
      have r_g7 : mv_r g7 = mv_r h := s_g7.trans r_g5
      refine mv_lpick [2, 4, 5, 6, 7, 1, 0] rfl ?_
      exact jn135 _ _ _ _ _ _ _ r_g7 hf
  have jn112 : ∀ (x1 : Int32) (x2 : Int32) (x3 : Int32) (x4 : Int64) (x6 : Int64) (hz : mv_H), mv_r hz = mv_r h → f_Exprs_part_112 48 x1 x2 x3 x4 x6 hz = some rg → mv_V p l e ({ frames := 3, cells := 0, slots := 0, locals := 63 }) s m ([.ref (al 22)] : List Value).toArray below meth c (mg dA D al ext) 12 0 0 (mv_Q (mg dA D al ext) below s 0 0 (mv_Rv (fun σ1 => rg = σ1 ∧ mv_r σ1 = mv_r h))) hz 112 [(0, .ref (al 22)), (1, .int x1), (2, .int x2), (3, .int x3), (4, .long x4), (6, .long x6)] [] := by
    intro x1 x2 x3 x4 x6 hz r_hz hf
    unfold f_Exprs_part_112 at hf
    refine mv_iconst (pc := 112) (v := 0) B d_Exprs_part_112 (by decide) ?_
    refine mv_lpick [0, 1, 2, 3, 4, 5] rfl ?_
    exact jn113 _ _ _ _ _ _ _ r_hz hf
  have jn108 : ∀ (x1 : Int32) (x2 : Int32) (x3 : Int32) (x4 : Int64) (x6 : Int64) (hz : mv_H), mv_r hz = mv_r h → f_Exprs_part_108 48 x1 x2 x3 x4 x6 hz = some rg → mv_V p l e ({ frames := 3, cells := 0, slots := 0, locals := 63 }) s m ([.ref (al 22)] : List Value).toArray below meth c (mg dA D al ext) 12 0 0 (mv_Q (mg dA D al ext) below s 0 0 (mv_Rv (fun σ1 => rg = σ1 ∧ mv_r σ1 = mv_r h))) hz 108 [(0, .ref (al 22)), (1, .int x1), (2, .int x2), (3, .int x3), (4, .long x4), (6, .long x6)] [] := by
    intro x1 x2 x3 x4 x6 hz r_hz hf
    unfold f_Exprs_part_108 at hf
    refine mv_iconst (pc := 108) (v := 1) B d_Exprs_part_108 (by decide) ?_
    refine mv_goto (pc := 109) (tgt := 113) B d_Exprs_part_109 rfl ?_
    refine mv_lpick [0, 1, 2, 3, 4, 5] rfl ?_
    exact jn113 _ _ _ _ _ _ _ r_hz hf
  have jn52 : ∀ (x1 : Int32) (x2 : Int32) (hz : mv_H), mv_r hz = mv_r h → f_Exprs_part_52 48 x1 x2 hz = some rg → mv_V p l e ({ frames := 3, cells := 0, slots := 0, locals := 63 }) s m ([.ref (al 22)] : List Value).toArray below meth c (mg dA D al ext) 12 0 0 (mv_Q (mg dA D al ext) below s 0 0 (mv_Rv (fun σ1 => rg = σ1 ∧ mv_r σ1 = mv_r h))) hz 52 [(0, .ref (al 22)), (1, .int x1), (2, .int x2)] [] := by
    intro x1 x2 hz r_hz hf
    unfold f_Exprs_part_52 at hf
    refine mv_aload_n (pc := 52) B d_Exprs_part_52 rfl 0 rfl ?_
    refine mv_getR (pc := 53) (ci := 6) (C := R_Exprs) (T := F_Exprs) (N := 11) B 0 rfl rfl (by decide) i_Exprs (B.2.2.2.1 _ k_193) rfl ((congrFun (congrFun r_hz 22) 0).trans (hb.1.1 22 0 _ rfl)) d_Exprs_part_53 ?_
    refine mv_bipush (pc := 56) (v := 93) B d_Exprs_part_56 (by decide) ?_
    obtain ⟨v9, g8, eg8, hf⟩ := xhb_e hf
    refine mv_callVi (pc := 58) (n := 1) (ci := 2) (C := R_Tokens) B (mK_ok sk sv) hNs rfl rfl (ch_Tokens_close l hi _ (xrw r_hz hb.t) _ eg8) rfl (ma_goodc kc_Tokens_close) (B.2.2.2.1 _ k_1468) (B.2.2.2.1 _ k_1397) (B.2.2.2.1 _ k_1398) (B.2.2.2.1 _ k_3) ⟨by decide +kernel, by decide +kernel, by decide +kernel⟩ rfl d_Exprs_part_58 rfl (Nat.le_of_ble_eq_true rfl) ⟨by decide, by decide⟩ ⟨by decide, by decide⟩ ⟨by decide, by decide⟩ (mv_noH hno _) (fun w58 σ58 h58 => ?_)
    obtain ⟨rfl, rfl, s_g8⟩ := h58
    have r_g8 : mv_r g8 = mv_r h := s_g8.trans r_hz
    refine mv_pop (pc := 61) B d_Exprs_part_61 rfl ?_
    refine mv_aload_n (pc := 62) B d_Exprs_part_62 rfl 0 rfl ?_
    obtain ⟨v11, g10, eg10, hf⟩ := xhb_e hf
    refine mv_callVi (pc := 63) (n := 0) (ci := 6) (C := R_Exprs) B (mK_ok sk sv) hNs rfl rfl (ch_Exprs_release l hi _ (xrw r_g8 hb.t) eg10) rfl (ma_goodc kc_Exprs_release) (B.2.2.2.1 _ k_1469) (B.2.2.2.1 _ k_1470) (B.2.2.2.1 _ k_1471) (B.2.2.2.1 _ k_7) ⟨by decide +kernel, by decide +kernel, by decide +kernel⟩ rfl d_Exprs_part_63 rfl (Nat.le_of_ble_eq_true rfl) ⟨by decide, by decide⟩ ⟨by decide, by decide⟩ ⟨by decide, by decide⟩ (mv_noH hno _) (fun w63 σ63 h63 => ?_)
    obtain ⟨rfl, rfl, s_g10⟩ := h63
    have r_g10 : mv_r g10 = mv_r h := s_g10.trans r_g8
    refine mv_istore_n (pc := 66) B d_Exprs_part_66 rfl (by decide) rfl ?_
    refine mv_aload_n (pc := 67) B d_Exprs_part_67 rfl 1 rfl ?_
    refine mv_getR (pc := 68) (ci := 6) (C := R_Exprs) (T := F_Exprs) (N := 11) B 0 rfl rfl (by decide) i_Exprs (B.2.2.2.1 _ k_193) rfl ((congrFun (congrFun r_g10 22) 0).trans (hb.1.1 22 0 _ rfl)) d_Exprs_part_68 ?_
    refine mv_getR (pc := 71) (ci := 2) (C := R_Tokens) (T := F_Tokens) (N := 10) B 2 rfl rfl (by decide) i_Tokens (B.2.2.2.1 _ k_95) rfl ((congrFun (congrFun r_g10 3) 2).trans (hb.1.1 3 2 _ rfl)) d_Exprs_part_71 ?_
    refine mv_iload_n (pc := 74) B d_Exprs_part_74 rfl 2 rfl ?_
    obtain ⟨q12, hf⟩ := xvi_e hf
    refine mv_lald (pc := 75) B rfl q12 d_Exprs_part_75 ?_
    refine mv_lstore (pc := 76) B d_Exprs_part_76 (by decide) rfl ?_
    refine mv_aload_n (pc := 78) B d_Exprs_part_78 rfl 2 rfl ?_
    refine mv_getR (pc := 79) (ci := 6) (C := R_Exprs) (T := F_Exprs) (N := 11) B 0 rfl rfl (by decide) i_Exprs (B.2.2.2.1 _ k_193) rfl ((congrFun (congrFun r_g10 22) 0).trans (hb.1.1 22 0 _ rfl)) d_Exprs_part_79 ?_
    refine mv_getR (pc := 82) (ci := 2) (C := R_Tokens) (T := F_Tokens) (N := 10) B 2 rfl rfl (by decide) i_Tokens (B.2.2.2.1 _ k_95) rfl ((congrFun (congrFun r_g10 3) 2).trans (hb.1.1 3 2 _ rfl)) d_Exprs_part_82 ?_
    refine mv_iload_n (pc := 85) B d_Exprs_part_85 rfl 4 rfl ?_
    obtain ⟨q13, hf⟩ := xvi_e hf
    refine mv_lald (pc := 86) B rfl q13 d_Exprs_part_86 ?_
    refine mv_lstore (pc := 87) B d_Exprs_part_87 (by decide) rfl ?_
    refine mv_iload_n (pc := 89) B d_Exprs_part_89 rfl 2 rfl ?_
    refine mv_if_le (pc := 90) (tgt := 112) B d_Exprs_part_90 rfl (fun h90 => ?_) (fun h90 => ?_)
    · skip
      have hf := xif_t h90 hf
      refine mv_lpick [3, 4, 5, 2, 1, 0] rfl ?_
      exact jn112 _ _ _ _ _ _ r_g10 hf
    · skip
      have hf := xif_f h90 hf
      refine mv_lload (pc := 93) B d_Exprs_part_93 1 rfl ?_
      refine mv_lconst (pc := 95) (v := 0) B d_Exprs_part_95 (by decide) ?_
      refine mv_lcmp (pc := 96) B d_Exprs_part_96 ?_
      refine mv_if_lt (pc := 97) (tgt := 108) B d_Exprs_part_97 rfl (fun h97 => ?_) (fun h97 => ?_)
      · skip
        have hf := xif_t h97 hf
        refine mv_lpick [3, 4, 5, 2, 1, 0] rfl ?_
        exact jn108 _ _ _ _ _ _ r_g10 hf
      · skip
        have hf := xif_f h97 hf
        refine mv_lload (pc := 100) B d_Exprs_part_100 1 rfl ?_
        refine mv_iload_n (pc := 102) B d_Exprs_part_102 rfl 2 rfl ?_
        refine mv_i2l (pc := 103) B d_Exprs_part_103 ?_
        refine mv_lcmp (pc := 104) B d_Exprs_part_104 ?_
        refine mv_if_lt (pc := 105) (tgt := 112) B d_Exprs_part_105 rfl (fun h105 => ?_) (fun h105 => ?_)
        · skip
          have hf := xif_t h105 hf
          refine mv_lpick [3, 4, 5, 2, 1, 0] rfl ?_
          exact jn112 _ _ _ _ _ _ r_g10 hf
        · skip
          have hf := xif_f h105 hf
          refine mv_lpick [3, 4, 5, 2, 1, 0] rfl ?_
          exact jn108 _ _ _ _ _ _ r_g10 hf
  unfold f_Exprs_part at hf
  refine mv_aload_n (pc := 0) B d_Exprs_part_0 rfl 0 rfl ?_
  refine mv_getR (pc := 1) (ci := 6) (C := R_Exprs) (T := F_Exprs) (N := 11) B 0 rfl rfl (by decide) i_Exprs (B.2.2.2.1 _ k_193) rfl (hb.1.1 22 0 _ rfl) d_Exprs_part_1 ?_
  refine mv_bipush (pc := 4) (v := 91) B d_Exprs_part_4 (by decide) ?_
  obtain ⟨v15, g14, eg14, hf⟩ := xhb_e hf
  refine mv_callVi (pc := 6) (n := 1) (ci := 2) (C := R_Tokens) B (mK_ok sk sv) hNs rfl rfl (ch_Tokens_open l hi _ (hb.t) _ eg14) rfl (ma_goodc kc_Tokens_open) (B.2.2.2.1 _ k_1415) (B.2.2.2.1 _ k_1350) (B.2.2.2.1 _ k_1351) (B.2.2.2.1 _ k_3) ⟨by decide +kernel, by decide +kernel, by decide +kernel⟩ rfl d_Exprs_part_6 rfl (Nat.le_of_ble_eq_true rfl) ⟨by decide, by decide⟩ ⟨by decide, by decide⟩ ⟨by decide, by decide⟩ (mv_noH hno _) (fun w6 σ6 h6 => ?_)
  obtain ⟨rfl, rfl, s_g14⟩ := h6
  have r_g14 : mv_r g14 = mv_r h := s_g14.trans rfl
  refine mv_pop (pc := 9) B d_Exprs_part_9 rfl ?_
  refine mv_aload_n (pc := 10) B d_Exprs_part_10 rfl 0 rfl ?_
  refine mv_getR (pc := 11) (ci := 6) (C := R_Exprs) (T := F_Exprs) (N := 11) B 0 rfl rfl (by decide) i_Exprs (B.2.2.2.1 _ k_193) rfl ((congrFun (congrFun r_g14 22) 0).trans (hb.1.1 22 0 _ rfl)) d_Exprs_part_11 ?_
  refine mv_iconst (pc := 14) (v := 4) B d_Exprs_part_14 (by decide) ?_
  obtain ⟨v17, g16, eg16, hf⟩ := xhb_e hf
  refine mv_callVi (pc := 15) (n := 1) (ci := 2) (C := R_Tokens) B (mK_ok sk sv) hNs rfl rfl (ch_Tokens_take l hi _ (xrw r_g14 hb.t) _ eg16) rfl (ma_goodc kc_Tokens_take) (B.2.2.2.1 _ k_1424) (B.2.2.2.1 _ k_1267) (B.2.2.2.1 _ k_1268) (B.2.2.2.1 _ k_3) ⟨by decide +kernel, by decide +kernel, by decide +kernel⟩ rfl d_Exprs_part_15 rfl (Nat.le_of_ble_eq_true rfl) ⟨by decide, by decide⟩ ⟨by decide, by decide⟩ ⟨by decide, by decide⟩ (mv_noH hno _) (fun w15 σ15 h15 => ?_)
  obtain ⟨rfl, rfl, s_g16⟩ := h15
  have r_g16 : mv_r g16 = mv_r h := s_g16.trans r_g14
  refine mv_istore_n (pc := 18) B d_Exprs_part_18 rfl (by decide) rfl ?_
  refine mv_iload_n (pc := 19) B d_Exprs_part_19 rfl 0 rfl ?_
  refine mv_istore_n (pc := 20) B d_Exprs_part_20 rfl (by decide) rfl ?_
  refine mv_aload_n (pc := 21) B d_Exprs_part_21 rfl 2 rfl ?_
  refine mv_getR (pc := 22) (ci := 6) (C := R_Exprs) (T := F_Exprs) (N := 11) B 0 rfl rfl (by decide) i_Exprs (B.2.2.2.1 _ k_193) rfl ((congrFun (congrFun r_g16 22) 0).trans (hb.1.1 22 0 _ rfl)) d_Exprs_part_22 ?_
  obtain ⟨v19, g18, eg18, hf⟩ := xhb_e hf
  refine mv_callVi (pc := 25) (n := 0) (ci := 2) (C := R_Tokens) B (mK_ok sk sv) hNs rfl rfl (ch_Tokens_kind l hi _ (xrw r_g16 hb.t) eg18) rfl (ma_goodc kc_Tokens_kind) (B.2.2.2.1 _ k_1414) (B.2.2.2.1 _ k_1271) (B.2.2.2.1 _ k_1272) (B.2.2.2.1 _ k_3) ⟨by decide +kernel, by decide +kernel, by decide +kernel⟩ rfl d_Exprs_part_25 rfl (Nat.le_of_ble_eq_true rfl) ⟨by decide, by decide⟩ ⟨by decide, by decide⟩ ⟨by decide, by decide⟩ (mv_noH hno _) (fun w25 σ25 h25 => ?_)
  obtain ⟨rfl, rfl, s_g18⟩ := h25
  have r_g18 : mv_r g18 = mv_r h := s_g18.trans r_g16
  refine mv_bipush (pc := 28) (v := 58) B d_Exprs_part_28 (by decide) ?_
  refine mv_icmp_ne (pc := 30) (tgt := 52) B d_Exprs_part_30 rfl (fun h30 => ?_) (fun h30 => ?_)
  · skip
    have hf := xif_f h30 hf
    refine mv_lpick [2, 1, 0] rfl ?_
    exact jn52 _ _ _ r_g18 hf
  · skip
    have hf := xif_t h30 hf
    refine mv_aload_n (pc := 33) B d_Exprs_part_33 rfl 2 rfl ?_
    refine mv_getR (pc := 34) (ci := 6) (C := R_Exprs) (T := F_Exprs) (N := 11) B 0 rfl rfl (by decide) i_Exprs (B.2.2.2.1 _ k_193) rfl ((congrFun (congrFun r_g18 22) 0).trans (hb.1.1 22 0 _ rfl)) d_Exprs_part_34 ?_
    refine mv_bipush (pc := 37) (v := 58) B d_Exprs_part_37 (by decide) ?_
    obtain ⟨v21, g20, eg20, hf⟩ := xhb_e hf
    refine mv_callVi (pc := 39) (n := 1) (ci := 2) (C := R_Tokens) B (mK_ok sk sv) hNs rfl rfl (ch_Tokens_take l hi _ (xrw r_g18 hb.t) _ eg20) rfl (ma_goodc kc_Tokens_take) (B.2.2.2.1 _ k_1424) (B.2.2.2.1 _ k_1267) (B.2.2.2.1 _ k_1268) (B.2.2.2.1 _ k_3) ⟨by decide +kernel, by decide +kernel, by decide +kernel⟩ rfl d_Exprs_part_39 rfl (Nat.le_of_ble_eq_true rfl) ⟨by decide, by decide⟩ ⟨by decide, by decide⟩ ⟨by decide, by decide⟩ (mv_noH hno _) (fun w39 σ39 h39 => ?_)
    obtain ⟨rfl, rfl, s_g20⟩ := h39
    have r_g20 : mv_r g20 = mv_r h := s_g20.trans r_g18
    refine mv_pop (pc := 42) B d_Exprs_part_42 rfl ?_
    refine mv_aload_n (pc := 43) B d_Exprs_part_43 rfl 2 rfl ?_
    refine mv_getR (pc := 44) (ci := 6) (C := R_Exprs) (T := F_Exprs) (N := 11) B 0 rfl rfl (by decide) i_Exprs (B.2.2.2.1 _ k_193) rfl ((congrFun (congrFun r_g20 22) 0).trans (hb.1.1 22 0 _ rfl)) d_Exprs_part_44 ?_
    refine mv_iconst (pc := 47) (v := 4) B d_Exprs_part_47 (by decide) ?_
    obtain ⟨v23, g22, eg22, hf⟩ := xhb_e hf
    refine mv_callVi (pc := 48) (n := 1) (ci := 2) (C := R_Tokens) B (mK_ok sk sv) hNs rfl rfl (ch_Tokens_take l hi _ (xrw r_g20 hb.t) _ eg22) rfl (ma_goodc kc_Tokens_take) (B.2.2.2.1 _ k_1424) (B.2.2.2.1 _ k_1267) (B.2.2.2.1 _ k_1268) (B.2.2.2.1 _ k_3) ⟨by decide +kernel, by decide +kernel, by decide +kernel⟩ rfl d_Exprs_part_48 rfl (Nat.le_of_ble_eq_true rfl) ⟨by decide, by decide⟩ ⟨by decide, by decide⟩ ⟨by decide, by decide⟩ (mv_noH hno _) (fun w48 σ48 h48 => ?_)
    obtain ⟨rfl, rfl, s_g22⟩ := h48
    have r_g22 : mv_r g22 = mv_r h := s_g22.trans r_g20
    refine mv_istore_n (pc := 51) B d_Exprs_part_51 rfl (by decide) rfl ?_
    refine mv_lpick [2, 1, 0] rfl ?_
    exact jn52 _ _ _ r_g22 hf
def f_Exprs_ofTwo_125 (P : Nat) (y0 : Int32) (hz : mv_H) : Option mv_H := xhv (f_Exprs_hold hz y0) fun g1 => some g1
def f_Exprs_ofTwo_119 (P : Nat) (hz : mv_H) : Option mv_H := f_Exprs_ofTwo_125 P (1 : Int32) hz
def f_Exprs_ofTwo_93 (P : Nat) (x1 : Int32) (x4 : Int32) (hz : mv_H) : Option mv_H := xhb (f_Exprs_levelOf hz x1) fun v3 g2 => if v3 = (4 : Int32) then (f_Exprs_ofTwo_119 P  g2) else (if v3 = (5 : Int32) then (f_Exprs_ofTwo_119 P  g2) else (if x1 = (213 : Int32) then (f_Exprs_ofTwo_119 P  g2) else (f_Exprs_ofTwo_125 P x4 g2)))
def f_Exprs_ofTwo_60 (P : Nat) (hz : mv_H) : Option mv_H := xhv (f_Exprs_hold hz (0 : Int32)) fun g4 => some g4
def f_Exprs_ofTwo_49 (P : Nat) (x1 : Int32) (x2 : Int32) (x3 : Int32) (x4 : Int32) (y0 : Int32) (hz : mv_H) : Option mv_H := if x4 = (0 : Int32) then (f_Exprs_ofTwo_60 P  hz) else (if x3 = (0 : Int32) then (f_Exprs_ofTwo_60 P  hz) else (if x4 = x3 then (f_Exprs_ofTwo_93 P x1 x4 hz) else (if y0 = (0 : Int32) then (xhv (f_Exprs_tell hz x2 (4 : Int32)) fun g5 => xhv (f_Exprs_hold g5 (0 : Int32)) fun g6 => some g6) else (f_Exprs_ofTwo_93 P x1 x4 hz))))
def f_Exprs_ofTwo_44 (P : Nat) (x1 : Int32) (x2 : Int32) (x3 : Int32) (x4 : Int32) (hz : mv_H) : Option mv_H := f_Exprs_ofTwo_49 P x1 x2 x3 x4 (1 : Int32) hz
def f_Exprs_ofTwo (P : Nat) (h : mv_H) (a0 : Int32) (a1 : Int32) : Option mv_H := xhb (f_Exprs_release h) fun v8 g7 => xhb (f_Exprs_release g7) fun v10 g9 => xhb (f_Program_emit P g9 a0 ((v10).toInt64)) fun v12 g11 => if a0 = (131 : Int32) then (f_Exprs_ofTwo_44 P a0 a1 v8 v10 g11) else (if a0 = (132 : Int32) then (f_Exprs_ofTwo_44 P a0 a1 v8 v10 g11) else (if a0 = (216 : Int32) then (f_Exprs_ofTwo_44 P a0 a1 v8 v10 g11) else (f_Exprs_ofTwo_49 P a0 a1 v8 v10 (0 : Int32) g11)))
set_option maxHeartbeats 4000000 in
set_option maxRecDepth 100000 in
theorem ch_Exprs_ofTwo_a (l : Launch) {dA : FieldType → ClassId} {D : va_G} {al : Nat → Nat} {ext : mv_Sh} {sk sv : Nat → Nat} (hi : mv_inj (mg dA D al ext)) (h : mv_H) (hb : xRP 32 (mv_r h))  (a0 : Int32) (a1 : Int32) {rg : mv_H} (hf : f_Exprs_ofTwo 32 h a0 a1 = some rg) : mv_C l y_Exprs_ofTwo (Cond.code y_Exprs_ofTwo b_Exprs_ofTwo 7 (Option.none : Option Jvm.ClassFile.FieldType) :: ma) ({ frames := 2, cells := 0, slots := 0, locals := 44 }) (mg dA D al ext) (mK sk sv) [.ref (al 22), .int a0, .int a1] h (mv_Rv (fun σ1 => rg = σ1 ∧ mv_r σ1 = mv_r h)) := by
  refine mv_C.ofV (cc := b_Exprs_ofTwo) (nL := 7) (ret := (Option.none : Option Jvm.ClassFile.FieldType)) (by decide +kernel) rfl hi (Nat.le_of_ble_eq_true rfl) ?_
  intro p e s m below meth c B hNs hr hnm hno
  have jn125 : ∀ (y0 : Int32) (hz : mv_H), mv_r hz = mv_r h → f_Exprs_ofTwo_125 32 y0 hz = some rg → mv_V p l e ({ frames := 2, cells := 0, slots := 0, locals := 44 }) s m ([.ref (al 22), .int a0, .int a1] : List Value).toArray below meth c (mg dA D al ext) 7 0 0 (mv_Q (mg dA D al ext) below s 0 0 (mv_Rv (fun σ1 => rg = σ1 ∧ mv_r σ1 = mv_r h))) hz 125 [] [.int y0, .ref (al 22)] := by
    intro y0 hz r_hz hf
    unfold f_Exprs_ofTwo_125 at hf
    obtain ⟨g1, eg1, hf⟩ := xhv_e hf
    refine mv_callVv (pc := 125) (n := 1) (ci := 6) (C := R_Exprs) B (mK_ok sk sv) hNs rfl rfl (ch_Exprs_hold l hi _ (xrw r_hz hb.t) _ eg1) rfl (ma_goodc kc_Exprs_hold) (B.2.2.2.1 _ k_1432) (B.2.2.2.1 _ k_1434) (B.2.2.2.1 _ ks_51) (B.2.2.2.1 _ k_7) ⟨by decide +kernel, by decide +kernel, by decide +kernel⟩ rfl d_Exprs_ofTwo_125 rfl (Nat.le_of_ble_eq_true rfl) ⟨by decide, by decide⟩ ⟨by decide, by decide⟩ ⟨by decide, by decide⟩ (mv_noH hno _) (fun σ125 h125 => ?_)
    obtain ⟨rfl, s_g1⟩ := h125
    have r_g1 : mv_r g1 = mv_r h := s_g1.trans r_hz
    exact mv_vret (pc := 128) B hr d_Exprs_ofTwo_128 (Nat.le_refl _) (Nat.le_refl _) ⟨rfl, xrh_v hf r_g1⟩
  have jn119 : ∀ (hz : mv_H), mv_r hz = mv_r h → f_Exprs_ofTwo_119 32  hz = some rg → mv_V p l e ({ frames := 2, cells := 0, slots := 0, locals := 44 }) s m ([.ref (al 22), .int a0, .int a1] : List Value).toArray below meth c (mg dA D al ext) 7 0 0 (mv_Q (mg dA D al ext) below s 0 0 (mv_Rv (fun σ1 => rg = σ1 ∧ mv_r σ1 = mv_r h))) hz 119 [] [.ref (al 22)] := by
    intro  hz r_hz hf
    unfold f_Exprs_ofTwo_119 at hf
    refine mv_iconst (pc := 119) (v := 1) B d_Exprs_ofTwo_119 (by decide) ?_
    refine mv_goto (pc := 120) (tgt := 125) B d_Exprs_ofTwo_120 rfl ?_
    refine mv_lpick [] rfl ?_
    exact jn125 _ _ r_hz hf
  have jn93 : ∀ (x1 : Int32) (x4 : Int32) (hz : mv_H), mv_r hz = mv_r h → f_Exprs_ofTwo_93 32 x1 x4 hz = some rg → mv_V p l e ({ frames := 2, cells := 0, slots := 0, locals := 44 }) s m ([.ref (al 22), .int a0, .int a1] : List Value).toArray below meth c (mg dA D al ext) 7 0 0 (mv_Q (mg dA D al ext) below s 0 0 (mv_Rv (fun σ1 => rg = σ1 ∧ mv_r σ1 = mv_r h))) hz 93 [(0, .ref (al 22)), (1, .int x1), (4, .int x4)] [] := by
    intro x1 x4 hz r_hz hf
    unfold f_Exprs_ofTwo_93 at hf
    refine mv_iload_n (pc := 93) B d_Exprs_ofTwo_93 rfl 1 rfl ?_
    obtain ⟨v3, g2, eg2, hf⟩ := xhb_e hf
    refine mv_callSi (pc := 94) (n := 1) B (mK_ok sk sv) hNs (ch_Exprs_levelOf l hi _ _ eg2) rfl (ma_goodc kc_Exprs_levelOf) (B.2.2.2.1 _ k_1482) (B.2.2.2.1 _ k_1483) (B.2.2.2.1 _ k_7) ⟨by decide +kernel, by decide +kernel, by decide +kernel⟩ rfl d_Exprs_ofTwo_94 rfl (Nat.le_of_ble_eq_true rfl) ⟨by decide, by decide⟩ ⟨by decide, by decide⟩ ⟨by decide, by decide⟩ (mv_noH hno _) (fun w94 σ94 h94 => ?_)
    obtain ⟨rfl, rfl, s_g2⟩ := h94
    have r_g2 : mv_r g2 = mv_r h := s_g2.trans r_hz
    refine mv_istore (pc := 97) B d_Exprs_ofTwo_97 (by decide) rfl ?_
    refine mv_aload_n (pc := 99) B d_Exprs_ofTwo_99 rfl 1 rfl ?_
    refine mv_iload (pc := 100) B d_Exprs_ofTwo_100 0 rfl ?_
    refine mv_iconst (pc := 102) (v := 4) B d_Exprs_ofTwo_102 (by decide) ?_
    refine mv_icmp_eq (pc := 103) (tgt := 119) B d_Exprs_ofTwo_103 rfl (fun h103 => ?_) (fun h103 => ?_)
    · skip
      have hf := xif_t h103 hf
      refine mv_lpick [] rfl ?_
      exact jn119  _ r_g2 hf
    · skip
      have hf := xif_f h103 hf
      refine mv_iload (pc := 106) B d_Exprs_ofTwo_106 0 rfl ?_
      refine mv_iconst (pc := 108) (v := 5) B d_Exprs_ofTwo_108 (by decide) ?_
      refine mv_icmp_eq (pc := 109) (tgt := 119) B d_Exprs_ofTwo_109 rfl (fun h109 => ?_) (fun h109 => ?_)
      · skip
        have hf := xif_t h109 hf
        refine mv_lpick [] rfl ?_
        exact jn119  _ r_g2 hf
      · skip
        have hf := xif_f h109 hf
        refine mv_iload_n (pc := 112) B d_Exprs_ofTwo_112 rfl 2 rfl ?_
        refine mv_sipush (pc := 113) (v := 213) B d_Exprs_ofTwo_113 (by decide) ?_
        refine mv_icmp_ne (pc := 116) (tgt := 123) B d_Exprs_ofTwo_116 rfl (fun h116 => ?_) (fun h116 => ?_)
        · skip
          have hf := xif_f h116 hf
          refine mv_iload (pc := 123) B d_Exprs_ofTwo_123 3 rfl ?_
          refine mv_lpick [] rfl ?_
          exact jn125 _ _ r_g2 hf
        · skip
          have hf := xif_t h116 hf
          refine mv_lpick [] rfl ?_
          exact jn119  _ r_g2 hf
  have jn60 : ∀ (hz : mv_H), mv_r hz = mv_r h → f_Exprs_ofTwo_60 32  hz = some rg → mv_V p l e ({ frames := 2, cells := 0, slots := 0, locals := 44 }) s m ([.ref (al 22), .int a0, .int a1] : List Value).toArray below meth c (mg dA D al ext) 7 0 0 (mv_Q (mg dA D al ext) below s 0 0 (mv_Rv (fun σ1 => rg = σ1 ∧ mv_r σ1 = mv_r h))) hz 60 [(0, .ref (al 22))] [] := by
    intro  hz r_hz hf
    unfold f_Exprs_ofTwo_60 at hf
    refine mv_aload_n (pc := 60) B d_Exprs_ofTwo_60 rfl 0 rfl ?_
    refine mv_iconst (pc := 61) (v := 0) B d_Exprs_ofTwo_61 (by decide) ?_
    obtain ⟨g4, eg4, hf⟩ := xhv_e hf
    refine mv_callVv (pc := 62) (n := 1) (ci := 6) (C := R_Exprs) B (mK_ok sk sv) hNs rfl rfl (ch_Exprs_hold l hi _ (xrw r_hz hb.t) _ eg4) rfl (ma_goodc kc_Exprs_hold) (B.2.2.2.1 _ k_1432) (B.2.2.2.1 _ k_1434) (B.2.2.2.1 _ ks_51) (B.2.2.2.1 _ k_7) ⟨by decide +kernel, by decide +kernel, by decide +kernel⟩ rfl d_Exprs_ofTwo_62 rfl (Nat.le_of_ble_eq_true rfl) ⟨by decide, by decide⟩ ⟨by decide, by decide⟩ ⟨by decide, by decide⟩ (mv_noH hno _) (fun σ62 h62 => ?_)
    obtain ⟨rfl, s_g4⟩ := h62
    have r_g4 : mv_r g4 = mv_r h := s_g4.trans r_hz
    refine mv_goto (pc := 65) (tgt := 128) B d_Exprs_ofTwo_65 rfl ?_
    exact mv_vret (pc := 128) B hr d_Exprs_ofTwo_128 (Nat.le_refl _) (Nat.le_refl _) ⟨rfl, xrh_v hf r_g4⟩
  have jn49 : ∀ (x1 : Int32) (x2 : Int32) (x3 : Int32) (x4 : Int32) (y0 : Int32) (hz : mv_H), mv_r hz = mv_r h → f_Exprs_ofTwo_49 32 x1 x2 x3 x4 y0 hz = some rg → mv_V p l e ({ frames := 2, cells := 0, slots := 0, locals := 44 }) s m ([.ref (al 22), .int a0, .int a1] : List Value).toArray below meth c (mg dA D al ext) 7 0 0 (mv_Q (mg dA D al ext) below s 0 0 (mv_Rv (fun σ1 => rg = σ1 ∧ mv_r σ1 = mv_r h))) hz 49 [(0, .ref (al 22)), (1, .int x1), (2, .int x2), (3, .int x3), (4, .int x4)] [.int y0] := by
    intro x1 x2 x3 x4 y0 hz r_hz hf
    unfold f_Exprs_ofTwo_49 at hf
    refine mv_istore (pc := 49) B d_Exprs_ofTwo_49 (by decide) rfl ?_
    refine mv_iload (pc := 51) B d_Exprs_ofTwo_51 5 rfl ?_
    refine mv_if_eq (pc := 53) (tgt := 60) B d_Exprs_ofTwo_53 rfl (fun h53 => ?_) (fun h53 => ?_)
    · skip
      have hf := xif_t h53 hf
      refine mv_lpick [1] rfl ?_
      exact jn60  _ r_hz hf
    · skip
      have hf := xif_f h53 hf
      refine mv_iload_n (pc := 56) B d_Exprs_ofTwo_56 rfl 4 rfl ?_
      refine mv_if_ne (pc := 57) (tgt := 68) B d_Exprs_ofTwo_57 rfl (fun h57 => ?_) (fun h57 => ?_)
      · skip
        have hf := xif_f h57 hf
        refine mv_iload (pc := 68) B d_Exprs_ofTwo_68 5 rfl ?_
        refine mv_iload_n (pc := 70) B d_Exprs_ofTwo_70 rfl 4 rfl ?_
        refine mv_icmp_eq (pc := 71) (tgt := 93) B d_Exprs_ofTwo_71 rfl (fun h71 => ?_) (fun h71 => ?_)
        · skip
          have hf := xif_t h71 hf
          refine mv_lpick [1, 2, 5] rfl ?_
          exact jn93 _ _ _ r_hz hf
        · skip
          have hf := xif_f h71 hf
          refine mv_iload (pc := 74) B d_Exprs_ofTwo_74 0 rfl ?_
          refine mv_if_ne (pc := 76) (tgt := 93) B d_Exprs_ofTwo_76 rfl (fun h76 => ?_) (fun h76 => ?_)
          · skip
            have hf := xif_f h76 hf
            refine mv_lpick [1, 2, 5] rfl ?_
            exact jn93 _ _ _ r_hz hf
          · skip
            have hf := xif_t h76 hf
            refine mv_aload_n (pc := 79) B d_Exprs_ofTwo_79 rfl 1 rfl ?_
            refine mv_iload_n (pc := 80) B d_Exprs_ofTwo_80 rfl 3 rfl ?_
            refine mv_iconst (pc := 81) (v := 4) B d_Exprs_ofTwo_81 (by decide) ?_
            obtain ⟨g5, eg5, hf⟩ := xhv_e hf
            refine mv_callVv (pc := 82) (n := 2) (ci := 6) (C := R_Exprs) B (mK_ok sk sv) hNs rfl rfl (ch_Exprs_tell l hi _ (xrw r_hz hb.t) _ _ eg5) rfl (ma_goodc kc_Exprs_tell) (B.2.2.2.1 _ k_1427) (B.2.2.2.1 _ k_1429) (B.2.2.2.1 _ ks_50) (B.2.2.2.1 _ k_7) ⟨by decide +kernel, by decide +kernel, by decide +kernel⟩ rfl d_Exprs_ofTwo_82 rfl (Nat.le_of_ble_eq_true rfl) ⟨by decide, by decide⟩ ⟨by decide, by decide⟩ ⟨by decide, by decide⟩ (mv_noH hno _) (fun σ82 h82 => ?_)
            obtain ⟨rfl, s_g5⟩ := h82
            have r_g5 : mv_r g5 = mv_r h := s_g5.trans r_hz
            refine mv_aload_n (pc := 85) B d_Exprs_ofTwo_85 rfl 1 rfl ?_
            refine mv_iconst (pc := 86) (v := 0) B d_Exprs_ofTwo_86 (by decide) ?_
            obtain ⟨g6, eg6, hf⟩ := xhv_e hf
            refine mv_callVv (pc := 87) (n := 1) (ci := 6) (C := R_Exprs) B (mK_ok sk sv) hNs rfl rfl (ch_Exprs_hold l hi _ (xrw r_g5 hb.t) _ eg6) rfl (ma_goodc kc_Exprs_hold) (B.2.2.2.1 _ k_1432) (B.2.2.2.1 _ k_1434) (B.2.2.2.1 _ ks_51) (B.2.2.2.1 _ k_7) ⟨by decide +kernel, by decide +kernel, by decide +kernel⟩ rfl d_Exprs_ofTwo_87 rfl (Nat.le_of_ble_eq_true rfl) ⟨by decide, by decide⟩ ⟨by decide, by decide⟩ ⟨by decide, by decide⟩ (mv_noH hno _) (fun σ87 h87 => ?_)
            obtain ⟨rfl, s_g6⟩ := h87
            have r_g6 : mv_r g6 = mv_r h := s_g6.trans r_g5
            refine mv_goto (pc := 90) (tgt := 128) B d_Exprs_ofTwo_90 rfl ?_
            exact mv_vret (pc := 128) B hr d_Exprs_ofTwo_128 (Nat.le_refl _) (Nat.le_refl _) ⟨rfl, xrh_v hf r_g6⟩
      · skip
        have hf := xif_t h57 hf
        refine mv_lpick [1] rfl ?_
        exact jn60  _ r_hz hf
  have jn44 : ∀ (x1 : Int32) (x2 : Int32) (x3 : Int32) (x4 : Int32) (hz : mv_H), mv_r hz = mv_r h → f_Exprs_ofTwo_44 32 x1 x2 x3 x4 hz = some rg → mv_V p l e ({ frames := 2, cells := 0, slots := 0, locals := 44 }) s m ([.ref (al 22), .int a0, .int a1] : List Value).toArray below meth c (mg dA D al ext) 7 0 0 (mv_Q (mg dA D al ext) below s 0 0 (mv_Rv (fun σ1 => rg = σ1 ∧ mv_r σ1 = mv_r h))) hz 44 [(0, .ref (al 22)), (1, .int x1), (2, .int x2), (3, .int x3), (4, .int x4)] [] := by
    intro x1 x2 x3 x4 hz r_hz hf
    unfold f_Exprs_ofTwo_44 at hf
    refine mv_iconst (pc := 44) (v := 1) B d_Exprs_ofTwo_44 (by decide) ?_
    refine mv_goto (pc := 45) (tgt := 49) B d_Exprs_ofTwo_45 rfl ?_
    refine mv_lpick [0, 1, 2, 3, 4] rfl ?_
    exact jn49 _ _ _ _ _ _ r_hz hf
  unfold f_Exprs_ofTwo at hf
  refine mv_aload_n (pc := 0) B d_Exprs_ofTwo_0 rfl 0 rfl ?_
  obtain ⟨v8, g7, eg7, hf⟩ := xhb_e hf
  refine mv_callVi (pc := 1) (n := 0) (ci := 6) (C := R_Exprs) B (mK_ok sk sv) hNs rfl rfl (ch_Exprs_release l hi _ (hb.t) eg7) rfl (ma_goodc kc_Exprs_release) (B.2.2.2.1 _ k_1469) (B.2.2.2.1 _ k_1470) (B.2.2.2.1 _ k_1471) (B.2.2.2.1 _ k_7) ⟨by decide +kernel, by decide +kernel, by decide +kernel⟩ rfl d_Exprs_ofTwo_1 rfl (Nat.le_of_ble_eq_true rfl) ⟨by decide, by decide⟩ ⟨by decide, by decide⟩ ⟨by decide, by decide⟩ (mv_noH hno _) (fun w1 σ1 h1 => ?_)
  obtain ⟨rfl, rfl, s_g7⟩ := h1
  have r_g7 : mv_r g7 = mv_r h := s_g7.trans rfl
  refine mv_istore_n (pc := 4) B d_Exprs_ofTwo_4 rfl (by decide) rfl ?_
  refine mv_aload_n (pc := 5) B d_Exprs_ofTwo_5 rfl 1 rfl ?_
  obtain ⟨v10, g9, eg9, hf⟩ := xhb_e hf
  refine mv_callVi (pc := 6) (n := 0) (ci := 6) (C := R_Exprs) B (mK_ok sk sv) hNs rfl rfl (ch_Exprs_release l hi _ (xrw r_g7 hb.t) eg9) rfl (ma_goodc kc_Exprs_release) (B.2.2.2.1 _ k_1469) (B.2.2.2.1 _ k_1470) (B.2.2.2.1 _ k_1471) (B.2.2.2.1 _ k_7) ⟨by decide +kernel, by decide +kernel, by decide +kernel⟩ rfl d_Exprs_ofTwo_6 rfl (Nat.le_of_ble_eq_true rfl) ⟨by decide, by decide⟩ ⟨by decide, by decide⟩ ⟨by decide, by decide⟩ (mv_noH hno _) (fun w6 σ6 h6 => ?_)
  obtain ⟨rfl, rfl, s_g9⟩ := h6
  have r_g9 : mv_r g9 = mv_r h := s_g9.trans r_g7
  refine mv_istore (pc := 9) B d_Exprs_ofTwo_9 (by decide) rfl ?_
  refine mv_aload_n (pc := 11) B d_Exprs_ofTwo_11 rfl 2 rfl ?_
  refine mv_getR (pc := 12) (ci := 6) (C := R_Exprs) (T := F_Exprs) (N := 11) B 3 rfl rfl (by decide) i_Exprs (B.2.2.2.1 _ k_197) rfl ((congrFun (congrFun r_g9 22) 3).trans hb.1.2.2.2) d_Exprs_ofTwo_12 ?_
  refine mv_iload_n (pc := 15) B d_Exprs_ofTwo_15 rfl 3 rfl ?_
  refine mv_iload (pc := 16) B d_Exprs_ofTwo_16 0 rfl ?_
  refine mv_i2l (pc := 18) B d_Exprs_ofTwo_18 ?_
  obtain ⟨v12, g11, eg11, hf⟩ := xhb_e hf
  refine mv_callVi (pc := 19) (n := 2) (ci := 7) (C := R_Program) B (mK_ok sk sv) hNs rfl rfl (ch_Program_emit_a l hi _ (xrw r_g9 hb) _ _ eg11) rfl (ma_goodc kc_Program_emit) (B.2.2.2.1 _ k_1425) (B.2.2.2.1 _ k_1385) (B.2.2.2.1 _ k_1386) (B.2.2.2.1 _ k_8) ⟨by decide +kernel, by decide +kernel, by decide +kernel⟩ rfl d_Exprs_ofTwo_19 rfl (Nat.le_of_ble_eq_true rfl) ⟨by decide, by decide⟩ ⟨by decide, by decide⟩ ⟨by decide, by decide⟩ (mv_noH hno _) (fun w19 σ19 h19 => ?_)
  obtain ⟨rfl, rfl, s_g11⟩ := h19
  have r_g11 : mv_r g11 = mv_r h := s_g11.trans r_g9
  refine mv_pop (pc := 22) B d_Exprs_ofTwo_22 rfl ?_
  refine mv_iload_n (pc := 23) B d_Exprs_ofTwo_23 rfl 3 rfl ?_
  refine mv_sipush (pc := 24) (v := 131) B d_Exprs_ofTwo_24 (by decide) ?_
  refine mv_icmp_eq (pc := 27) (tgt := 44) B d_Exprs_ofTwo_27 rfl (fun h27 => ?_) (fun h27 => ?_)
  · skip
    have hf := xif_t h27 hf
    refine mv_lpick [2, 3, 4, 1, 0] rfl ?_
    exact jn44 _ _ _ _ _ r_g11 hf
  · skip
    have hf := xif_f h27 hf
    refine mv_iload_n (pc := 30) B d_Exprs_ofTwo_30 rfl 3 rfl ?_
    refine mv_sipush (pc := 31) (v := 132) B d_Exprs_ofTwo_31 (by decide) ?_
    refine mv_icmp_eq (pc := 34) (tgt := 44) B d_Exprs_ofTwo_34 rfl (fun h34 => ?_) (fun h34 => ?_)
    · skip
      have hf := xif_t h34 hf
      refine mv_lpick [2, 3, 4, 1, 0] rfl ?_
      exact jn44 _ _ _ _ _ r_g11 hf
    · skip
      have hf := xif_f h34 hf
      refine mv_iload_n (pc := 37) B d_Exprs_ofTwo_37 rfl 3 rfl ?_
      refine mv_sipush (pc := 38) (v := 216) B d_Exprs_ofTwo_38 (by decide) ?_
      refine mv_icmp_ne (pc := 41) (tgt := 48) B d_Exprs_ofTwo_41 rfl (fun h41 => ?_) (fun h41 => ?_)
      · skip
        have hf := xif_f h41 hf
        refine mv_iconst (pc := 48) (v := 0) B d_Exprs_ofTwo_48 (by decide) ?_
        refine mv_lpick [2, 3, 4, 1, 0] rfl ?_
        exact jn49 _ _ _ _ _ _ r_g11 hf
      · skip
        have hf := xif_t h41 hf
        refine mv_lpick [2, 3, 4, 1, 0] rfl ?_
        exact jn44 _ _ _ _ _ r_g11 hf
set_option maxHeartbeats 4000000 in
set_option maxRecDepth 100000 in
theorem ch_Exprs_ofTwo_b (l : Launch) {dA : FieldType → ClassId} {D : va_G} {al : Nat → Nat} {ext : mv_Sh} {sk sv : Nat → Nat} (hi : mv_inj (mg dA D al ext)) (h : mv_H) (hb : xRP 48 (mv_r h))  (a0 : Int32) (a1 : Int32) {rg : mv_H} (hf : f_Exprs_ofTwo 48 h a0 a1 = some rg) : mv_C l y_Exprs_ofTwo (Cond.code y_Exprs_ofTwo b_Exprs_ofTwo 7 (Option.none : Option Jvm.ClassFile.FieldType) :: ma) ({ frames := 2, cells := 0, slots := 0, locals := 44 }) (mg dA D al ext) (mK sk sv) [.ref (al 22), .int a0, .int a1] h (mv_Rv (fun σ1 => rg = σ1 ∧ mv_r σ1 = mv_r h)) := by
  refine mv_C.ofV (cc := b_Exprs_ofTwo) (nL := 7) (ret := (Option.none : Option Jvm.ClassFile.FieldType)) (by decide +kernel) rfl hi (Nat.le_of_ble_eq_true rfl) ?_
  intro p e s m below meth c B hNs hr hnm hno
  have jn125 : ∀ (y0 : Int32) (hz : mv_H), mv_r hz = mv_r h → f_Exprs_ofTwo_125 48 y0 hz = some rg → mv_V p l e ({ frames := 2, cells := 0, slots := 0, locals := 44 }) s m ([.ref (al 22), .int a0, .int a1] : List Value).toArray below meth c (mg dA D al ext) 7 0 0 (mv_Q (mg dA D al ext) below s 0 0 (mv_Rv (fun σ1 => rg = σ1 ∧ mv_r σ1 = mv_r h))) hz 125 [] [.int y0, .ref (al 22)] := by
    intro y0 hz r_hz hf
    unfold f_Exprs_ofTwo_125 at hf
    obtain ⟨g1, eg1, hf⟩ := xhv_e hf
    refine mv_callVv (pc := 125) (n := 1) (ci := 6) (C := R_Exprs) B (mK_ok sk sv) hNs rfl rfl (ch_Exprs_hold l hi _ (xrw r_hz hb.t) _ eg1) rfl (ma_goodc kc_Exprs_hold) (B.2.2.2.1 _ k_1432) (B.2.2.2.1 _ k_1434) (B.2.2.2.1 _ ks_51) (B.2.2.2.1 _ k_7) ⟨by decide +kernel, by decide +kernel, by decide +kernel⟩ rfl d_Exprs_ofTwo_125 rfl (Nat.le_of_ble_eq_true rfl) ⟨by decide, by decide⟩ ⟨by decide, by decide⟩ ⟨by decide, by decide⟩ (mv_noH hno _) (fun σ125 h125 => ?_)
    obtain ⟨rfl, s_g1⟩ := h125
    have r_g1 : mv_r g1 = mv_r h := s_g1.trans r_hz
    exact mv_vret (pc := 128) B hr d_Exprs_ofTwo_128 (Nat.le_refl _) (Nat.le_refl _) ⟨rfl, xrh_v hf r_g1⟩
  have jn119 : ∀ (hz : mv_H), mv_r hz = mv_r h → f_Exprs_ofTwo_119 48  hz = some rg → mv_V p l e ({ frames := 2, cells := 0, slots := 0, locals := 44 }) s m ([.ref (al 22), .int a0, .int a1] : List Value).toArray below meth c (mg dA D al ext) 7 0 0 (mv_Q (mg dA D al ext) below s 0 0 (mv_Rv (fun σ1 => rg = σ1 ∧ mv_r σ1 = mv_r h))) hz 119 [] [.ref (al 22)] := by
    intro  hz r_hz hf
    unfold f_Exprs_ofTwo_119 at hf
    refine mv_iconst (pc := 119) (v := 1) B d_Exprs_ofTwo_119 (by decide) ?_
    refine mv_goto (pc := 120) (tgt := 125) B d_Exprs_ofTwo_120 rfl ?_
    refine mv_lpick [] rfl ?_
    exact jn125 _ _ r_hz hf
  have jn93 : ∀ (x1 : Int32) (x4 : Int32) (hz : mv_H), mv_r hz = mv_r h → f_Exprs_ofTwo_93 48 x1 x4 hz = some rg → mv_V p l e ({ frames := 2, cells := 0, slots := 0, locals := 44 }) s m ([.ref (al 22), .int a0, .int a1] : List Value).toArray below meth c (mg dA D al ext) 7 0 0 (mv_Q (mg dA D al ext) below s 0 0 (mv_Rv (fun σ1 => rg = σ1 ∧ mv_r σ1 = mv_r h))) hz 93 [(0, .ref (al 22)), (1, .int x1), (4, .int x4)] [] := by
    intro x1 x4 hz r_hz hf
    unfold f_Exprs_ofTwo_93 at hf
    refine mv_iload_n (pc := 93) B d_Exprs_ofTwo_93 rfl 1 rfl ?_
    obtain ⟨v3, g2, eg2, hf⟩ := xhb_e hf
    refine mv_callSi (pc := 94) (n := 1) B (mK_ok sk sv) hNs (ch_Exprs_levelOf l hi _ _ eg2) rfl (ma_goodc kc_Exprs_levelOf) (B.2.2.2.1 _ k_1482) (B.2.2.2.1 _ k_1483) (B.2.2.2.1 _ k_7) ⟨by decide +kernel, by decide +kernel, by decide +kernel⟩ rfl d_Exprs_ofTwo_94 rfl (Nat.le_of_ble_eq_true rfl) ⟨by decide, by decide⟩ ⟨by decide, by decide⟩ ⟨by decide, by decide⟩ (mv_noH hno _) (fun w94 σ94 h94 => ?_)
    obtain ⟨rfl, rfl, s_g2⟩ := h94
    have r_g2 : mv_r g2 = mv_r h := s_g2.trans r_hz
    refine mv_istore (pc := 97) B d_Exprs_ofTwo_97 (by decide) rfl ?_
    refine mv_aload_n (pc := 99) B d_Exprs_ofTwo_99 rfl 1 rfl ?_
    refine mv_iload (pc := 100) B d_Exprs_ofTwo_100 0 rfl ?_
    refine mv_iconst (pc := 102) (v := 4) B d_Exprs_ofTwo_102 (by decide) ?_
    refine mv_icmp_eq (pc := 103) (tgt := 119) B d_Exprs_ofTwo_103 rfl (fun h103 => ?_) (fun h103 => ?_)
    · skip
      have hf := xif_t h103 hf
      refine mv_lpick [] rfl ?_
      exact jn119  _ r_g2 hf
    · skip
      have hf := xif_f h103 hf
      refine mv_iload (pc := 106) B d_Exprs_ofTwo_106 0 rfl ?_
      refine mv_iconst (pc := 108) (v := 5) B d_Exprs_ofTwo_108 (by decide) ?_
      refine mv_icmp_eq (pc := 109) (tgt := 119) B d_Exprs_ofTwo_109 rfl (fun h109 => ?_) (fun h109 => ?_)
      · skip
        have hf := xif_t h109 hf
        refine mv_lpick [] rfl ?_
        exact jn119  _ r_g2 hf
      · skip
        have hf := xif_f h109 hf
        refine mv_iload_n (pc := 112) B d_Exprs_ofTwo_112 rfl 2 rfl ?_
        refine mv_sipush (pc := 113) (v := 213) B d_Exprs_ofTwo_113 (by decide) ?_
        refine mv_icmp_ne (pc := 116) (tgt := 123) B d_Exprs_ofTwo_116 rfl (fun h116 => ?_) (fun h116 => ?_)
        · skip
          have hf := xif_f h116 hf
          refine mv_iload (pc := 123) B d_Exprs_ofTwo_123 3 rfl ?_
          refine mv_lpick [] rfl ?_
          exact jn125 _ _ r_g2 hf
        · skip
          have hf := xif_t h116 hf
          refine mv_lpick [] rfl ?_
          exact jn119  _ r_g2 hf
  have jn60 : ∀ (hz : mv_H), mv_r hz = mv_r h → f_Exprs_ofTwo_60 48  hz = some rg → mv_V p l e ({ frames := 2, cells := 0, slots := 0, locals := 44 }) s m ([.ref (al 22), .int a0, .int a1] : List Value).toArray below meth c (mg dA D al ext) 7 0 0 (mv_Q (mg dA D al ext) below s 0 0 (mv_Rv (fun σ1 => rg = σ1 ∧ mv_r σ1 = mv_r h))) hz 60 [(0, .ref (al 22))] [] := by
    intro  hz r_hz hf
    unfold f_Exprs_ofTwo_60 at hf
    refine mv_aload_n (pc := 60) B d_Exprs_ofTwo_60 rfl 0 rfl ?_
    refine mv_iconst (pc := 61) (v := 0) B d_Exprs_ofTwo_61 (by decide) ?_
    obtain ⟨g4, eg4, hf⟩ := xhv_e hf
    refine mv_callVv (pc := 62) (n := 1) (ci := 6) (C := R_Exprs) B (mK_ok sk sv) hNs rfl rfl (ch_Exprs_hold l hi _ (xrw r_hz hb.t) _ eg4) rfl (ma_goodc kc_Exprs_hold) (B.2.2.2.1 _ k_1432) (B.2.2.2.1 _ k_1434) (B.2.2.2.1 _ ks_51) (B.2.2.2.1 _ k_7) ⟨by decide +kernel, by decide +kernel, by decide +kernel⟩ rfl d_Exprs_ofTwo_62 rfl (Nat.le_of_ble_eq_true rfl) ⟨by decide, by decide⟩ ⟨by decide, by decide⟩ ⟨by decide, by decide⟩ (mv_noH hno _) (fun σ62 h62 => ?_)
    obtain ⟨rfl, s_g4⟩ := h62
    have r_g4 : mv_r g4 = mv_r h := s_g4.trans r_hz
    refine mv_goto (pc := 65) (tgt := 128) B d_Exprs_ofTwo_65 rfl ?_
    exact mv_vret (pc := 128) B hr d_Exprs_ofTwo_128 (Nat.le_refl _) (Nat.le_refl _) ⟨rfl, xrh_v hf r_g4⟩
  have jn49 : ∀ (x1 : Int32) (x2 : Int32) (x3 : Int32) (x4 : Int32) (y0 : Int32) (hz : mv_H), mv_r hz = mv_r h → f_Exprs_ofTwo_49 48 x1 x2 x3 x4 y0 hz = some rg → mv_V p l e ({ frames := 2, cells := 0, slots := 0, locals := 44 }) s m ([.ref (al 22), .int a0, .int a1] : List Value).toArray below meth c (mg dA D al ext) 7 0 0 (mv_Q (mg dA D al ext) below s 0 0 (mv_Rv (fun σ1 => rg = σ1 ∧ mv_r σ1 = mv_r h))) hz 49 [(0, .ref (al 22)), (1, .int x1), (2, .int x2), (3, .int x3), (4, .int x4)] [.int y0] := by
    intro x1 x2 x3 x4 y0 hz r_hz hf
    unfold f_Exprs_ofTwo_49 at hf
    refine mv_istore (pc := 49) B d_Exprs_ofTwo_49 (by decide) rfl ?_
    refine mv_iload (pc := 51) B d_Exprs_ofTwo_51 5 rfl ?_
    refine mv_if_eq (pc := 53) (tgt := 60) B d_Exprs_ofTwo_53 rfl (fun h53 => ?_) (fun h53 => ?_)
    · skip
      have hf := xif_t h53 hf
      refine mv_lpick [1] rfl ?_
      exact jn60  _ r_hz hf
    · skip
      have hf := xif_f h53 hf
      refine mv_iload_n (pc := 56) B d_Exprs_ofTwo_56 rfl 4 rfl ?_
      refine mv_if_ne (pc := 57) (tgt := 68) B d_Exprs_ofTwo_57 rfl (fun h57 => ?_) (fun h57 => ?_)
      · skip
        have hf := xif_f h57 hf
        refine mv_iload (pc := 68) B d_Exprs_ofTwo_68 5 rfl ?_
        refine mv_iload_n (pc := 70) B d_Exprs_ofTwo_70 rfl 4 rfl ?_
        refine mv_icmp_eq (pc := 71) (tgt := 93) B d_Exprs_ofTwo_71 rfl (fun h71 => ?_) (fun h71 => ?_)
        · skip
          have hf := xif_t h71 hf
          refine mv_lpick [1, 2, 5] rfl ?_
          exact jn93 _ _ _ r_hz hf
        · skip
          have hf := xif_f h71 hf
          refine mv_iload (pc := 74) B d_Exprs_ofTwo_74 0 rfl ?_
          refine mv_if_ne (pc := 76) (tgt := 93) B d_Exprs_ofTwo_76 rfl (fun h76 => ?_) (fun h76 => ?_)
          · skip
            have hf := xif_f h76 hf
            refine mv_lpick [1, 2, 5] rfl ?_
            exact jn93 _ _ _ r_hz hf
          · skip
            have hf := xif_t h76 hf
            refine mv_aload_n (pc := 79) B d_Exprs_ofTwo_79 rfl 1 rfl ?_
            refine mv_iload_n (pc := 80) B d_Exprs_ofTwo_80 rfl 3 rfl ?_
            refine mv_iconst (pc := 81) (v := 4) B d_Exprs_ofTwo_81 (by decide) ?_
            obtain ⟨g5, eg5, hf⟩ := xhv_e hf
            refine mv_callVv (pc := 82) (n := 2) (ci := 6) (C := R_Exprs) B (mK_ok sk sv) hNs rfl rfl (ch_Exprs_tell l hi _ (xrw r_hz hb.t) _ _ eg5) rfl (ma_goodc kc_Exprs_tell) (B.2.2.2.1 _ k_1427) (B.2.2.2.1 _ k_1429) (B.2.2.2.1 _ ks_50) (B.2.2.2.1 _ k_7) ⟨by decide +kernel, by decide +kernel, by decide +kernel⟩ rfl d_Exprs_ofTwo_82 rfl (Nat.le_of_ble_eq_true rfl) ⟨by decide, by decide⟩ ⟨by decide, by decide⟩ ⟨by decide, by decide⟩ (mv_noH hno _) (fun σ82 h82 => ?_)
            obtain ⟨rfl, s_g5⟩ := h82
            have r_g5 : mv_r g5 = mv_r h := s_g5.trans r_hz
            refine mv_aload_n (pc := 85) B d_Exprs_ofTwo_85 rfl 1 rfl ?_
            refine mv_iconst (pc := 86) (v := 0) B d_Exprs_ofTwo_86 (by decide) ?_
            obtain ⟨g6, eg6, hf⟩ := xhv_e hf
            refine mv_callVv (pc := 87) (n := 1) (ci := 6) (C := R_Exprs) B (mK_ok sk sv) hNs rfl rfl (ch_Exprs_hold l hi _ (xrw r_g5 hb.t) _ eg6) rfl (ma_goodc kc_Exprs_hold) (B.2.2.2.1 _ k_1432) (B.2.2.2.1 _ k_1434) (B.2.2.2.1 _ ks_51) (B.2.2.2.1 _ k_7) ⟨by decide +kernel, by decide +kernel, by decide +kernel⟩ rfl d_Exprs_ofTwo_87 rfl (Nat.le_of_ble_eq_true rfl) ⟨by decide, by decide⟩ ⟨by decide, by decide⟩ ⟨by decide, by decide⟩ (mv_noH hno _) (fun σ87 h87 => ?_)
            obtain ⟨rfl, s_g6⟩ := h87
            have r_g6 : mv_r g6 = mv_r h := s_g6.trans r_g5
            refine mv_goto (pc := 90) (tgt := 128) B d_Exprs_ofTwo_90 rfl ?_
            exact mv_vret (pc := 128) B hr d_Exprs_ofTwo_128 (Nat.le_refl _) (Nat.le_refl _) ⟨rfl, xrh_v hf r_g6⟩
      · skip
        have hf := xif_t h57 hf
        refine mv_lpick [1] rfl ?_
        exact jn60  _ r_hz hf
  have jn44 : ∀ (x1 : Int32) (x2 : Int32) (x3 : Int32) (x4 : Int32) (hz : mv_H), mv_r hz = mv_r h → f_Exprs_ofTwo_44 48 x1 x2 x3 x4 hz = some rg → mv_V p l e ({ frames := 2, cells := 0, slots := 0, locals := 44 }) s m ([.ref (al 22), .int a0, .int a1] : List Value).toArray below meth c (mg dA D al ext) 7 0 0 (mv_Q (mg dA D al ext) below s 0 0 (mv_Rv (fun σ1 => rg = σ1 ∧ mv_r σ1 = mv_r h))) hz 44 [(0, .ref (al 22)), (1, .int x1), (2, .int x2), (3, .int x3), (4, .int x4)] [] := by
    intro x1 x2 x3 x4 hz r_hz hf
    unfold f_Exprs_ofTwo_44 at hf
    refine mv_iconst (pc := 44) (v := 1) B d_Exprs_ofTwo_44 (by decide) ?_
    refine mv_goto (pc := 45) (tgt := 49) B d_Exprs_ofTwo_45 rfl ?_
    refine mv_lpick [0, 1, 2, 3, 4] rfl ?_
    exact jn49 _ _ _ _ _ _ r_hz hf
  unfold f_Exprs_ofTwo at hf
  refine mv_aload_n (pc := 0) B d_Exprs_ofTwo_0 rfl 0 rfl ?_
  obtain ⟨v8, g7, eg7, hf⟩ := xhb_e hf
  refine mv_callVi (pc := 1) (n := 0) (ci := 6) (C := R_Exprs) B (mK_ok sk sv) hNs rfl rfl (ch_Exprs_release l hi _ (hb.t) eg7) rfl (ma_goodc kc_Exprs_release) (B.2.2.2.1 _ k_1469) (B.2.2.2.1 _ k_1470) (B.2.2.2.1 _ k_1471) (B.2.2.2.1 _ k_7) ⟨by decide +kernel, by decide +kernel, by decide +kernel⟩ rfl d_Exprs_ofTwo_1 rfl (Nat.le_of_ble_eq_true rfl) ⟨by decide, by decide⟩ ⟨by decide, by decide⟩ ⟨by decide, by decide⟩ (mv_noH hno _) (fun w1 σ1 h1 => ?_)
  obtain ⟨rfl, rfl, s_g7⟩ := h1
  have r_g7 : mv_r g7 = mv_r h := s_g7.trans rfl
  refine mv_istore_n (pc := 4) B d_Exprs_ofTwo_4 rfl (by decide) rfl ?_
  refine mv_aload_n (pc := 5) B d_Exprs_ofTwo_5 rfl 1 rfl ?_
  obtain ⟨v10, g9, eg9, hf⟩ := xhb_e hf
  refine mv_callVi (pc := 6) (n := 0) (ci := 6) (C := R_Exprs) B (mK_ok sk sv) hNs rfl rfl (ch_Exprs_release l hi _ (xrw r_g7 hb.t) eg9) rfl (ma_goodc kc_Exprs_release) (B.2.2.2.1 _ k_1469) (B.2.2.2.1 _ k_1470) (B.2.2.2.1 _ k_1471) (B.2.2.2.1 _ k_7) ⟨by decide +kernel, by decide +kernel, by decide +kernel⟩ rfl d_Exprs_ofTwo_6 rfl (Nat.le_of_ble_eq_true rfl) ⟨by decide, by decide⟩ ⟨by decide, by decide⟩ ⟨by decide, by decide⟩ (mv_noH hno _) (fun w6 σ6 h6 => ?_)
  obtain ⟨rfl, rfl, s_g9⟩ := h6
  have r_g9 : mv_r g9 = mv_r h := s_g9.trans r_g7
  refine mv_istore (pc := 9) B d_Exprs_ofTwo_9 (by decide) rfl ?_
  refine mv_aload_n (pc := 11) B d_Exprs_ofTwo_11 rfl 2 rfl ?_
  refine mv_getR (pc := 12) (ci := 6) (C := R_Exprs) (T := F_Exprs) (N := 11) B 3 rfl rfl (by decide) i_Exprs (B.2.2.2.1 _ k_197) rfl ((congrFun (congrFun r_g9 22) 3).trans hb.1.2.2.2) d_Exprs_ofTwo_12 ?_
  refine mv_iload_n (pc := 15) B d_Exprs_ofTwo_15 rfl 3 rfl ?_
  refine mv_iload (pc := 16) B d_Exprs_ofTwo_16 0 rfl ?_
  refine mv_i2l (pc := 18) B d_Exprs_ofTwo_18 ?_
  obtain ⟨v12, g11, eg11, hf⟩ := xhb_e hf
  refine mv_callVi (pc := 19) (n := 2) (ci := 7) (C := R_Program) B (mK_ok sk sv) hNs rfl rfl (ch_Program_emit_b l hi _ (xrw r_g9 hb) _ _ eg11) rfl (ma_goodc kc_Program_emit) (B.2.2.2.1 _ k_1425) (B.2.2.2.1 _ k_1385) (B.2.2.2.1 _ k_1386) (B.2.2.2.1 _ k_8) ⟨by decide +kernel, by decide +kernel, by decide +kernel⟩ rfl d_Exprs_ofTwo_19 rfl (Nat.le_of_ble_eq_true rfl) ⟨by decide, by decide⟩ ⟨by decide, by decide⟩ ⟨by decide, by decide⟩ (mv_noH hno _) (fun w19 σ19 h19 => ?_)
  obtain ⟨rfl, rfl, s_g11⟩ := h19
  have r_g11 : mv_r g11 = mv_r h := s_g11.trans r_g9
  refine mv_pop (pc := 22) B d_Exprs_ofTwo_22 rfl ?_
  refine mv_iload_n (pc := 23) B d_Exprs_ofTwo_23 rfl 3 rfl ?_
  refine mv_sipush (pc := 24) (v := 131) B d_Exprs_ofTwo_24 (by decide) ?_
  refine mv_icmp_eq (pc := 27) (tgt := 44) B d_Exprs_ofTwo_27 rfl (fun h27 => ?_) (fun h27 => ?_)
  · skip
    have hf := xif_t h27 hf
    refine mv_lpick [2, 3, 4, 1, 0] rfl ?_
    exact jn44 _ _ _ _ _ r_g11 hf
  · skip
    have hf := xif_f h27 hf
    refine mv_iload_n (pc := 30) B d_Exprs_ofTwo_30 rfl 3 rfl ?_
    refine mv_sipush (pc := 31) (v := 132) B d_Exprs_ofTwo_31 (by decide) ?_
    refine mv_icmp_eq (pc := 34) (tgt := 44) B d_Exprs_ofTwo_34 rfl (fun h34 => ?_) (fun h34 => ?_)
    · skip
      have hf := xif_t h34 hf
      refine mv_lpick [2, 3, 4, 1, 0] rfl ?_
      exact jn44 _ _ _ _ _ r_g11 hf
    · skip
      have hf := xif_f h34 hf
      refine mv_iload_n (pc := 37) B d_Exprs_ofTwo_37 rfl 3 rfl ?_
      refine mv_sipush (pc := 38) (v := 216) B d_Exprs_ofTwo_38 (by decide) ?_
      refine mv_icmp_ne (pc := 41) (tgt := 48) B d_Exprs_ofTwo_41 rfl (fun h41 => ?_) (fun h41 => ?_)
      · skip
        have hf := xif_f h41 hf
        refine mv_iconst (pc := 48) (v := 0) B d_Exprs_ofTwo_48 (by decide) ?_
        refine mv_lpick [2, 3, 4, 1, 0] rfl ?_
        exact jn49 _ _ _ _ _ _ r_g11 hf
      · skip
        have hf := xif_t h41 hf
        refine mv_lpick [2, 3, 4, 1, 0] rfl ?_
        exact jn44 _ _ _ _ _ r_g11 hf
def f_Exprs_endSigns_105 (P : Nat) (k2 : Int32 → mv_H → Option mv_H) (x1 : Int32) (x2 : Int32) (x3 : Int32) (hz : mv_H) : Option mv_H := xhb (f_Bits_mask hz x3) fun v2 g1 => xhb (f_Program_emit P g1 x2 v2) fun v4 g3 => xhv (f_Exprs_hold g3 x3) fun g5 => k2 (x1 + 1) g5
def f_Exprs_endSigns_49 (P : Nat) (k2 : Int32 → mv_H → Option mv_H) (x1 : Int32) (x2 : Int32) (hz : mv_H) : Option mv_H := xk (mv_si hz 22 8 ((mv_i hz 22 8) - (1 : Int32))) fun g6 => xk (mv_si g6 3 8 ((mv_i g6 3 8) - (1 : Int32))) fun g7 => xhb (f_Exprs_release g7) fun v9 g8 => if x2 = (307 : Int32) then (if v9 ≤ (1 : Int32) then (f_Exprs_endSigns_105 P k2 x1 x2 v9 g8) else (bif xvi (mv_i g8 22 8) 1024 then xhv (f_Exprs_tell g8 (mv_a g8 24 ((mv_i g8 22 8)).toNatClampNeg) (4 : Int32)) fun g11 => f_Exprs_endSigns_105 P k2 x1 x2 (0 : Int32) g11 else none)) else (f_Exprs_endSigns_105 P k2 x1 x2 v9 g8)
def fF_Exprs_endSigns_2 (P : Nat) (k2 : Int32 → mv_H → Option mv_H) (x1 : Int32) (hz : mv_H) : Option mv_H := if (60 : Int32) < x1 then (some hz) else (if (mv_i hz 22 8) ≤ (0 : Int32) then (some hz) else (bif xvi ((mv_i hz 22 8) - (1 : Int32)) 1024 then if (mv_a hz 23 (((mv_i hz 22 8) - (1 : Int32))).toNatClampNeg) = (305 : Int32) then (f_Exprs_endSigns_49 P k2 x1 (mv_a hz 23 (((mv_i hz 22 8) - (1 : Int32))).toNatClampNeg) hz) else (if (mv_a hz 23 (((mv_i hz 22 8) - (1 : Int32))).toNatClampNeg) = (306 : Int32) then (f_Exprs_endSigns_49 P k2 x1 (mv_a hz 23 (((mv_i hz 22 8) - (1 : Int32))).toNatClampNeg) hz) else (if (mv_a hz 23 (((mv_i hz 22 8) - (1 : Int32))).toNatClampNeg) = (307 : Int32) then (f_Exprs_endSigns_49 P k2 x1 (mv_a hz 23 (((mv_i hz 22 8) - (1 : Int32))).toNatClampNeg) hz) else (some hz))) else none))
def f_Exprs_endSigns_2 (P : Nat) : Nat → Int32 → mv_H → Option mv_H
  | 0 => fun _ _ => none
  | nn + 1 => fF_Exprs_endSigns_2 P (f_Exprs_endSigns_2 P nn)
def f_Exprs_endSigns (P : Nat) (h : mv_H) : Option mv_H := f_Exprs_endSigns_2 P 200000 (0 : Int32) h
set_option maxHeartbeats 4000000 in
set_option maxRecDepth 100000 in
theorem ch_Exprs_endSigns_a (l : Launch) {dA : FieldType → ClassId} {D : va_G} {al : Nat → Nat} {ext : mv_Sh} {sk sv : Nat → Nat} (hi : mv_inj (mg dA D al ext)) (h : mv_H) (hb : xRP 32 (mv_r h))  {rg : mv_H} (hf : f_Exprs_endSigns 32 h = some rg) : mv_C l y_Exprs_endSigns (Cond.code y_Exprs_endSigns b_Exprs_endSigns 4 (Option.none : Option Jvm.ClassFile.FieldType) :: ma) ({ frames := 2, cells := 0, slots := 0, locals := 44 }) (mg dA D al ext) (mK sk sv) [.ref (al 22)] h (mv_Rv (fun σ1 => rg = σ1 ∧ mv_r σ1 = mv_r h)) := by
  refine mv_C.ofV (cc := b_Exprs_endSigns) (nL := 4) (ret := (Option.none : Option Jvm.ClassFile.FieldType)) (by decide +kernel) rfl hi (Nat.le_of_ble_eq_true rfl) ?_
  intro p e s m below meth c B hNs hr hnm hno
  have lp2 : ∀ (nn2 : Nat) (x1 : Int32) (hz : mv_H), mv_r hz = mv_r h → f_Exprs_endSigns_2 32 nn2 x1 hz = some rg → mv_V p l e ({ frames := 2, cells := 0, slots := 0, locals := 44 }) s m ([.ref (al 22)] : List Value).toArray below meth c (mg dA D al ext) 4 0 0 (mv_Q (mg dA D al ext) below s 0 0 (mv_Rv (fun σ1 => rg = σ1 ∧ mv_r σ1 = mv_r h))) hz 2 [(0, .ref (al 22)), (1, .int x1)] [] := by
    intro nn2
    induction nn2 with
    | zero => intro x1 hz r_hz hf; cases hf
    | succ nn2 ih2 =>
      intro x1 hz r_hz hf
      have jn105 : ∀ (x1 : Int32) (x2 : Int32) (x3 : Int32) (hz : mv_H), mv_r hz = mv_r h → f_Exprs_endSigns_105 32 (f_Exprs_endSigns_2 32 nn2) x1 x2 x3 hz = some rg → mv_V p l e ({ frames := 2, cells := 0, slots := 0, locals := 44 }) s m ([.ref (al 22)] : List Value).toArray below meth c (mg dA D al ext) 4 0 0 (mv_Q (mg dA D al ext) below s 0 0 (mv_Rv (fun σ1 => rg = σ1 ∧ mv_r σ1 = mv_r h))) hz 105 [(0, .ref (al 22)), (1, .int x1), (2, .int x2), (3, .int x3)] [] := by
        intro x1 x2 x3 hz r_hz hf
        unfold f_Exprs_endSigns_105 at hf
        refine mv_aload_n (pc := 105) B d_Exprs_endSigns_105 rfl 0 rfl ?_
        refine mv_getR (pc := 106) (ci := 6) (C := R_Exprs) (T := F_Exprs) (N := 11) B 3 rfl rfl (by decide) i_Exprs (B.2.2.2.1 _ k_197) rfl ((congrFun (congrFun r_hz 22) 3).trans hb.1.2.2.2) d_Exprs_endSigns_106 ?_
        refine mv_iload_n (pc := 109) B d_Exprs_endSigns_109 rfl 2 rfl ?_
        refine mv_iload_n (pc := 110) B d_Exprs_endSigns_110 rfl 3 rfl ?_
        obtain ⟨v2, g1, eg1, hf⟩ := xhb_e hf
        refine mv_callSl (pc := 111) (n := 1) B (mK_ok sk sv) hNs (ch_Bits_mask l hi _ _ eg1) rfl (ma_goodc kc_Bits_mask) (B.2.2.2.1 _ k_1436) (B.2.2.2.1 _ k_1437) (B.2.2.2.1 _ k_33) ⟨by decide +kernel, by decide +kernel, by decide +kernel⟩ rfl d_Exprs_endSigns_111 rfl (Nat.le_of_ble_eq_true rfl) ⟨by decide, by decide⟩ ⟨by decide, by decide⟩ ⟨by decide, by decide⟩ (mv_noH hno _) (fun w111 σ111 h111 => ?_)
        obtain ⟨rfl, rfl, s_g1⟩ := h111
        have r_g1 : mv_r g1 = mv_r h := s_g1.trans r_hz
        obtain ⟨v4, g3, eg3, hf⟩ := xhb_e hf
        refine mv_callVi (pc := 114) (n := 2) (ci := 7) (C := R_Program) B (mK_ok sk sv) hNs rfl rfl (ch_Program_emit_a l hi _ (xrw r_g1 hb) _ _ eg3) rfl (ma_goodc kc_Program_emit) (B.2.2.2.1 _ k_1425) (B.2.2.2.1 _ k_1385) (B.2.2.2.1 _ k_1386) (B.2.2.2.1 _ k_8) ⟨by decide +kernel, by decide +kernel, by decide +kernel⟩ rfl d_Exprs_endSigns_114 rfl (Nat.le_of_ble_eq_true rfl) ⟨by decide, by decide⟩ ⟨by decide, by decide⟩ ⟨by decide, by decide⟩ (mv_noH hno _) (fun w114 σ114 h114 => ?_)
        obtain ⟨rfl, rfl, s_g3⟩ := h114
        have r_g3 : mv_r g3 = mv_r h := s_g3.trans r_g1
        refine mv_pop (pc := 117) B d_Exprs_endSigns_117 rfl ?_
        refine mv_aload_n (pc := 118) B d_Exprs_endSigns_118 rfl 0 rfl ?_
        refine mv_iload_n (pc := 119) B d_Exprs_endSigns_119 rfl 3 rfl ?_
        obtain ⟨g5, eg5, hf⟩ := xhv_e hf
        refine mv_callVv (pc := 120) (n := 1) (ci := 6) (C := R_Exprs) B (mK_ok sk sv) hNs rfl rfl (ch_Exprs_hold l hi _ (xrw r_g3 hb.t) _ eg5) rfl (ma_goodc kc_Exprs_hold) (B.2.2.2.1 _ k_1432) (B.2.2.2.1 _ k_1434) (B.2.2.2.1 _ ks_51) (B.2.2.2.1 _ k_7) ⟨by decide +kernel, by decide +kernel, by decide +kernel⟩ rfl d_Exprs_endSigns_120 rfl (Nat.le_of_ble_eq_true rfl) ⟨by decide, by decide⟩ ⟨by decide, by decide⟩ ⟨by decide, by decide⟩ (mv_noH hno _) (fun σ120 h120 => ?_)
        obtain ⟨rfl, s_g5⟩ := h120
        have r_g5 : mv_r g5 = mv_r h := s_g5.trans r_g3
        refine mv_iinc (pc := 123) (j := 1) (v := 1) B d_Exprs_endSigns_123 rfl (by decide) (by decide) rfl ?_
        refine mv_goto (pc := 126) (tgt := 2) B d_Exprs_endSigns_126 rfl ?_
        refine mv_lpick [1, 0] rfl ?_
        exact ih2 _ _ r_g5 hf
      have jn49 : ∀ (x1 : Int32) (x2 : Int32) (hz : mv_H), mv_r hz = mv_r h → f_Exprs_endSigns_49 32 (f_Exprs_endSigns_2 32 nn2) x1 x2 hz = some rg → mv_V p l e ({ frames := 2, cells := 0, slots := 0, locals := 44 }) s m ([.ref (al 22)] : List Value).toArray below meth c (mg dA D al ext) 4 0 0 (mv_Q (mg dA D al ext) below s 0 0 (mv_Rv (fun σ1 => rg = σ1 ∧ mv_r σ1 = mv_r h))) hz 49 [(0, .ref (al 22)), (1, .int x1), (2, .int x2)] [] := by
        intro x1 x2 hz r_hz hf
        unfold f_Exprs_endSigns_49 at hf
        refine mv_aload_n (pc := 49) B d_Exprs_endSigns_49 rfl 0 rfl ?_
        refine mv_dup (pc := 50) B d_Exprs_endSigns_50 rfl ?_
        refine mv_getI (pc := 51) (ci := 6) (C := R_Exprs) (T := F_Exprs) (N := 11) B 8 rfl rfl (by decide) i_Exprs (B.2.2.2.1 _ k_202) rfl d_Exprs_endSigns_51 ?_
        refine mv_iconst (pc := 54) (v := 1) B d_Exprs_endSigns_54 (by decide) ?_
        refine mv_isub (pc := 55) B d_Exprs_endSigns_55 ?_
        refine mv_putI (pc := 56) (ci := 6) (C := R_Exprs) (T := F_Exprs) (N := 11) B 8 rfl rfl (by decide) i_Exprs t_Exprs_ok n_Exprs (B.2.2.2.1 _ k_202) rfl rfl rfl rfl d_Exprs_endSigns_56 ?_
        refine mvh_hp (R9 := mv_r h) hf r_hz (fun g6 hf r_g6 => ?_)
        refine mv_aload_n (pc := 59) B d_Exprs_endSigns_59 rfl 0 rfl ?_
        refine mv_getR (pc := 60) (ci := 6) (C := R_Exprs) (T := F_Exprs) (N := 11) B 0 rfl rfl (by decide) i_Exprs (B.2.2.2.1 _ k_193) rfl ((congrFun (congrFun r_g6 22) 0).trans (hb.1.1 22 0 _ rfl)) d_Exprs_endSigns_60 ?_
        refine mv_dup (pc := 63) B d_Exprs_endSigns_63 rfl ?_
        refine mv_getI (pc := 64) (ci := 2) (C := R_Tokens) (T := F_Tokens) (N := 10) B 8 rfl rfl (by decide) i_Tokens (B.2.2.2.1 _ k_104) rfl d_Exprs_endSigns_64 ?_
        refine mv_iconst (pc := 67) (v := 1) B d_Exprs_endSigns_67 (by decide) ?_
        refine mv_isub (pc := 68) B d_Exprs_endSigns_68 ?_
        refine mv_putI (pc := 69) (ci := 2) (C := R_Tokens) (T := F_Tokens) (N := 10) B 8 rfl rfl (by decide) i_Tokens t_Tokens_ok n_Tokens (B.2.2.2.1 _ k_104) rfl rfl rfl rfl d_Exprs_endSigns_69 ?_
        refine mvh_hp (R9 := mv_r h) hf r_g6 (fun g7 hf r_g7 => ?_)
        refine mv_aload_n (pc := 72) B d_Exprs_endSigns_72 rfl 0 rfl ?_
        obtain ⟨v9, g8, eg8, hf⟩ := xhb_e hf
        refine mv_callVi (pc := 73) (n := 0) (ci := 6) (C := R_Exprs) B (mK_ok sk sv) hNs rfl rfl (ch_Exprs_release l hi _ (xrw r_g7 hb.t) eg8) rfl (ma_goodc kc_Exprs_release) (B.2.2.2.1 _ k_1469) (B.2.2.2.1 _ k_1470) (B.2.2.2.1 _ k_1471) (B.2.2.2.1 _ k_7) ⟨by decide +kernel, by decide +kernel, by decide +kernel⟩ rfl d_Exprs_endSigns_73 rfl (Nat.le_of_ble_eq_true rfl) ⟨by decide, by decide⟩ ⟨by decide, by decide⟩ ⟨by decide, by decide⟩ (mv_noH hno _) (fun w73 σ73 h73 => ?_)
        obtain ⟨rfl, rfl, s_g8⟩ := h73
        have r_g8 : mv_r g8 = mv_r h := s_g8.trans r_g7
        refine mv_istore_n (pc := 76) B d_Exprs_endSigns_76 rfl (by decide) rfl ?_
        refine mv_iload_n (pc := 77) B d_Exprs_endSigns_77 rfl 3 rfl ?_
        refine mv_sipush (pc := 78) (v := 307) B d_Exprs_endSigns_78 (by decide) ?_
        refine mv_icmp_ne (pc := 81) (tgt := 105) B d_Exprs_endSigns_81 rfl (fun h81 => ?_) (fun h81 => ?_)
        · skip
          have hf := xif_f h81 hf
          refine mv_lpick [1, 2, 3, 0] rfl ?_
          exact jn105 _ _ _ _ r_g8 hf
        · skip
          have hf := xif_t h81 hf
          refine mv_iload_n (pc := 84) B d_Exprs_endSigns_84 rfl 0 rfl ?_
          refine mv_iconst (pc := 85) (v := 1) B d_Exprs_endSigns_85 (by decide) ?_
          refine mv_icmp_le (pc := 86) (tgt := 105) B d_Exprs_endSigns_86 rfl (fun h86 => ?_) (fun h86 => ?_)
          · skip
            have hf := xif_t h86 hf
            refine mv_lpick [1, 2, 3, 0] rfl ?_
            exact jn105 _ _ _ _ r_g8 hf
          · skip
            have hf := xif_f h86 hf
            refine mv_aload_n (pc := 89) B d_Exprs_endSigns_89 rfl 1 rfl ?_
            refine mv_aload_n (pc := 90) B d_Exprs_endSigns_90 rfl 1 rfl ?_
            refine mv_getR (pc := 91) (ci := 6) (C := R_Exprs) (T := F_Exprs) (N := 11) B 5 rfl rfl (by decide) i_Exprs (B.2.2.2.1 _ k_199) rfl ((congrFun (congrFun r_g8 22) 5).trans (hb.1.1 22 5 _ rfl)) d_Exprs_endSigns_91 ?_
            refine mv_aload_n (pc := 94) B d_Exprs_endSigns_94 rfl 1 rfl ?_
            refine mv_getI (pc := 95) (ci := 6) (C := R_Exprs) (T := F_Exprs) (N := 11) B 8 rfl rfl (by decide) i_Exprs (B.2.2.2.1 _ k_202) rfl d_Exprs_endSigns_95 ?_
            obtain ⟨q10, hf⟩ := xvi_e hf
            refine mv_iald (pc := 98) B rfl q10 d_Exprs_endSigns_98 ?_
            refine mv_iconst (pc := 99) (v := 4) B d_Exprs_endSigns_99 (by decide) ?_
            obtain ⟨g11, eg11, hf⟩ := xhv_e hf
            refine mv_callVv (pc := 100) (n := 2) (ci := 6) (C := R_Exprs) B (mK_ok sk sv) hNs rfl rfl (ch_Exprs_tell l hi _ (xrw r_g8 hb.t) _ _ eg11) rfl (ma_goodc kc_Exprs_tell) (B.2.2.2.1 _ k_1427) (B.2.2.2.1 _ k_1429) (B.2.2.2.1 _ ks_50) (B.2.2.2.1 _ k_7) ⟨by decide +kernel, by decide +kernel, by decide +kernel⟩ rfl d_Exprs_endSigns_100 rfl (Nat.le_of_ble_eq_true rfl) ⟨by decide, by decide⟩ ⟨by decide, by decide⟩ ⟨by decide, by decide⟩ (mv_noH hno _) (fun σ100 h100 => ?_)
            obtain ⟨rfl, s_g11⟩ := h100
            have r_g11 : mv_r g11 = mv_r h := s_g11.trans r_g8
            refine mv_iconst (pc := 103) (v := 0) B d_Exprs_endSigns_103 (by decide) ?_
            refine mv_istore_n (pc := 104) B d_Exprs_endSigns_104 rfl (by decide) rfl ?_
            refine mv_lpick [1, 2, 3, 0] rfl ?_
            exact jn105 _ _ _ _ r_g11 hf
      have hf : fF_Exprs_endSigns_2 32 (f_Exprs_endSigns_2 32 nn2) x1 hz = some rg := hf
      unfold fF_Exprs_endSigns_2 at hf
      refine mv_iload_n (pc := 2) B d_Exprs_endSigns_2 rfl 1 rfl ?_
      refine mv_bipush (pc := 3) (v := 60) B d_Exprs_endSigns_3 (by decide) ?_
      refine mv_icmp_gt (pc := 5) (tgt := 129) B d_Exprs_endSigns_5 rfl (fun h5 => ?_) (fun h5 => ?_)
      · skip
        have hf := xif_t h5 hf
        exact mv_vret (pc := 129) B hr d_Exprs_endSigns_129 (Nat.le_refl _) (Nat.le_refl _) ⟨rfl, xrh_v hf r_hz⟩
      · skip
        have hf := xif_f h5 hf
        refine mv_aload_n (pc := 8) B d_Exprs_endSigns_8 rfl 0 rfl ?_
        refine mv_getI (pc := 9) (ci := 6) (C := R_Exprs) (T := F_Exprs) (N := 11) B 8 rfl rfl (by decide) i_Exprs (B.2.2.2.1 _ k_202) rfl d_Exprs_endSigns_9 ?_
        refine mv_if_le (pc := 12) (tgt := 129) B d_Exprs_endSigns_12 rfl (fun h12 => ?_) (fun h12 => ?_)
        · skip
          have hf := xif_t h12 hf
          exact mv_vret (pc := 129) B hr d_Exprs_endSigns_129 (Nat.le_refl _) (Nat.le_refl _) ⟨rfl, xrh_v hf r_hz⟩
        · skip
          have hf := xif_f h12 hf
          refine mv_aload_n (pc := 15) B d_Exprs_endSigns_15 rfl 0 rfl ?_
          refine mv_getR (pc := 16) (ci := 6) (C := R_Exprs) (T := F_Exprs) (N := 11) B 4 rfl rfl (by decide) i_Exprs (B.2.2.2.1 _ k_198) rfl ((congrFun (congrFun r_hz 22) 4).trans (hb.1.1 22 4 _ rfl)) d_Exprs_endSigns_16 ?_
          refine mv_aload_n (pc := 19) B d_Exprs_endSigns_19 rfl 0 rfl ?_
          refine mv_getI (pc := 20) (ci := 6) (C := R_Exprs) (T := F_Exprs) (N := 11) B 8 rfl rfl (by decide) i_Exprs (B.2.2.2.1 _ k_202) rfl d_Exprs_endSigns_20 ?_
          refine mv_iconst (pc := 23) (v := 1) B d_Exprs_endSigns_23 (by decide) ?_
          refine mv_isub (pc := 24) B d_Exprs_endSigns_24 ?_
          obtain ⟨q12, hf⟩ := xvi_e hf
          refine mv_iald (pc := 25) B rfl q12 d_Exprs_endSigns_25 ?_
          refine mv_istore_n (pc := 26) B d_Exprs_endSigns_26 rfl (by decide) rfl ?_
          refine mv_iload_n (pc := 27) B d_Exprs_endSigns_27 rfl 0 rfl ?_
          refine mv_sipush (pc := 28) (v := 305) B d_Exprs_endSigns_28 (by decide) ?_
          refine mv_icmp_eq (pc := 31) (tgt := 49) B d_Exprs_endSigns_31 rfl (fun h31 => ?_) (fun h31 => ?_)
          · skip
            have hf := xif_t h31 hf
            refine mv_lpick [1, 2, 0] rfl ?_
            exact jn49 _ _ _ r_hz hf
          · skip
            have hf := xif_f h31 hf
            refine mv_iload_n (pc := 34) B d_Exprs_endSigns_34 rfl 0 rfl ?_
            refine mv_sipush (pc := 35) (v := 306) B d_Exprs_endSigns_35 (by decide) ?_
            refine mv_icmp_eq (pc := 38) (tgt := 49) B d_Exprs_endSigns_38 rfl (fun h38 => ?_) (fun h38 => ?_)
            · skip
              have hf := xif_t h38 hf
              refine mv_lpick [1, 2, 0] rfl ?_
              exact jn49 _ _ _ r_hz hf
            · skip
              have hf := xif_f h38 hf
              refine mv_iload_n (pc := 41) B d_Exprs_endSigns_41 rfl 0 rfl ?_
              refine mv_sipush (pc := 42) (v := 307) B d_Exprs_endSigns_42 (by decide) ?_
              refine mv_icmp_eq (pc := 45) (tgt := 49) B d_Exprs_endSigns_45 rfl (fun h45 => ?_) (fun h45 => ?_)
              · skip
                have hf := xif_t h45 hf
                refine mv_lpick [1, 2, 0] rfl ?_
                exact jn49 _ _ _ r_hz hf
              · skip
                have hf := xif_f h45 hf
                exact mv_vret (pc := 48) B hr d_Exprs_endSigns_48 (Nat.le_refl _) (Nat.le_refl _) ⟨rfl, xrh_v hf r_hz⟩
  unfold f_Exprs_endSigns at hf
  refine mv_iconst (pc := 0) (v := 0) B d_Exprs_endSigns_0 (by decide) ?_
  refine mv_istore_n (pc := 1) B d_Exprs_endSigns_1 rfl (by decide) rfl ?_
  refine mv_lpick [1, 0] rfl ?_
  exact lp2 _ _ _ rfl hf
set_option maxHeartbeats 4000000 in
set_option maxRecDepth 100000 in
theorem ch_Exprs_endSigns_b (l : Launch) {dA : FieldType → ClassId} {D : va_G} {al : Nat → Nat} {ext : mv_Sh} {sk sv : Nat → Nat} (hi : mv_inj (mg dA D al ext)) (h : mv_H) (hb : xRP 48 (mv_r h))  {rg : mv_H} (hf : f_Exprs_endSigns 48 h = some rg) : mv_C l y_Exprs_endSigns (Cond.code y_Exprs_endSigns b_Exprs_endSigns 4 (Option.none : Option Jvm.ClassFile.FieldType) :: ma) ({ frames := 2, cells := 0, slots := 0, locals := 44 }) (mg dA D al ext) (mK sk sv) [.ref (al 22)] h (mv_Rv (fun σ1 => rg = σ1 ∧ mv_r σ1 = mv_r h)) := by
  refine mv_C.ofV (cc := b_Exprs_endSigns) (nL := 4) (ret := (Option.none : Option Jvm.ClassFile.FieldType)) (by decide +kernel) rfl hi (Nat.le_of_ble_eq_true rfl) ?_
  intro p e s m below meth c B hNs hr hnm hno
  have lp2 : ∀ (nn2 : Nat) (x1 : Int32) (hz : mv_H), mv_r hz = mv_r h → f_Exprs_endSigns_2 48 nn2 x1 hz = some rg → mv_V p l e ({ frames := 2, cells := 0, slots := 0, locals := 44 }) s m ([.ref (al 22)] : List Value).toArray below meth c (mg dA D al ext) 4 0 0 (mv_Q (mg dA D al ext) below s 0 0 (mv_Rv (fun σ1 => rg = σ1 ∧ mv_r σ1 = mv_r h))) hz 2 [(0, .ref (al 22)), (1, .int x1)] [] := by
    intro nn2
    induction nn2 with
    | zero => intro x1 hz r_hz hf; cases hf
    | succ nn2 ih2 =>
      intro x1 hz r_hz hf
      have jn105 : ∀ (x1 : Int32) (x2 : Int32) (x3 : Int32) (hz : mv_H), mv_r hz = mv_r h → f_Exprs_endSigns_105 48 (f_Exprs_endSigns_2 48 nn2) x1 x2 x3 hz = some rg → mv_V p l e ({ frames := 2, cells := 0, slots := 0, locals := 44 }) s m ([.ref (al 22)] : List Value).toArray below meth c (mg dA D al ext) 4 0 0 (mv_Q (mg dA D al ext) below s 0 0 (mv_Rv (fun σ1 => rg = σ1 ∧ mv_r σ1 = mv_r h))) hz 105 [(0, .ref (al 22)), (1, .int x1), (2, .int x2), (3, .int x3)] [] := by
        intro x1 x2 x3 hz r_hz hf
        unfold f_Exprs_endSigns_105 at hf
        refine mv_aload_n (pc := 105) B d_Exprs_endSigns_105 rfl 0 rfl ?_
        refine mv_getR (pc := 106) (ci := 6) (C := R_Exprs) (T := F_Exprs) (N := 11) B 3 rfl rfl (by decide) i_Exprs (B.2.2.2.1 _ k_197) rfl ((congrFun (congrFun r_hz 22) 3).trans hb.1.2.2.2) d_Exprs_endSigns_106 ?_
        refine mv_iload_n (pc := 109) B d_Exprs_endSigns_109 rfl 2 rfl ?_
        refine mv_iload_n (pc := 110) B d_Exprs_endSigns_110 rfl 3 rfl ?_
        obtain ⟨v2, g1, eg1, hf⟩ := xhb_e hf
        refine mv_callSl (pc := 111) (n := 1) B (mK_ok sk sv) hNs (ch_Bits_mask l hi _ _ eg1) rfl (ma_goodc kc_Bits_mask) (B.2.2.2.1 _ k_1436) (B.2.2.2.1 _ k_1437) (B.2.2.2.1 _ k_33) ⟨by decide +kernel, by decide +kernel, by decide +kernel⟩ rfl d_Exprs_endSigns_111 rfl (Nat.le_of_ble_eq_true rfl) ⟨by decide, by decide⟩ ⟨by decide, by decide⟩ ⟨by decide, by decide⟩ (mv_noH hno _) (fun w111 σ111 h111 => ?_)
        obtain ⟨rfl, rfl, s_g1⟩ := h111
        have r_g1 : mv_r g1 = mv_r h := s_g1.trans r_hz
        obtain ⟨v4, g3, eg3, hf⟩ := xhb_e hf
        refine mv_callVi (pc := 114) (n := 2) (ci := 7) (C := R_Program) B (mK_ok sk sv) hNs rfl rfl (ch_Program_emit_b l hi _ (xrw r_g1 hb) _ _ eg3) rfl (ma_goodc kc_Program_emit) (B.2.2.2.1 _ k_1425) (B.2.2.2.1 _ k_1385) (B.2.2.2.1 _ k_1386) (B.2.2.2.1 _ k_8) ⟨by decide +kernel, by decide +kernel, by decide +kernel⟩ rfl d_Exprs_endSigns_114 rfl (Nat.le_of_ble_eq_true rfl) ⟨by decide, by decide⟩ ⟨by decide, by decide⟩ ⟨by decide, by decide⟩ (mv_noH hno _) (fun w114 σ114 h114 => ?_)
        obtain ⟨rfl, rfl, s_g3⟩ := h114
        have r_g3 : mv_r g3 = mv_r h := s_g3.trans r_g1
        refine mv_pop (pc := 117) B d_Exprs_endSigns_117 rfl ?_
        refine mv_aload_n (pc := 118) B d_Exprs_endSigns_118 rfl 0 rfl ?_
        refine mv_iload_n (pc := 119) B d_Exprs_endSigns_119 rfl 3 rfl ?_
        obtain ⟨g5, eg5, hf⟩ := xhv_e hf
        refine mv_callVv (pc := 120) (n := 1) (ci := 6) (C := R_Exprs) B (mK_ok sk sv) hNs rfl rfl (ch_Exprs_hold l hi _ (xrw r_g3 hb.t) _ eg5) rfl (ma_goodc kc_Exprs_hold) (B.2.2.2.1 _ k_1432) (B.2.2.2.1 _ k_1434) (B.2.2.2.1 _ ks_51) (B.2.2.2.1 _ k_7) ⟨by decide +kernel, by decide +kernel, by decide +kernel⟩ rfl d_Exprs_endSigns_120 rfl (Nat.le_of_ble_eq_true rfl) ⟨by decide, by decide⟩ ⟨by decide, by decide⟩ ⟨by decide, by decide⟩ (mv_noH hno _) (fun σ120 h120 => ?_)
        obtain ⟨rfl, s_g5⟩ := h120
        have r_g5 : mv_r g5 = mv_r h := s_g5.trans r_g3
        refine mv_iinc (pc := 123) (j := 1) (v := 1) B d_Exprs_endSigns_123 rfl (by decide) (by decide) rfl ?_
        refine mv_goto (pc := 126) (tgt := 2) B d_Exprs_endSigns_126 rfl ?_
        refine mv_lpick [1, 0] rfl ?_
        exact ih2 _ _ r_g5 hf
      have jn49 : ∀ (x1 : Int32) (x2 : Int32) (hz : mv_H), mv_r hz = mv_r h → f_Exprs_endSigns_49 48 (f_Exprs_endSigns_2 48 nn2) x1 x2 hz = some rg → mv_V p l e ({ frames := 2, cells := 0, slots := 0, locals := 44 }) s m ([.ref (al 22)] : List Value).toArray below meth c (mg dA D al ext) 4 0 0 (mv_Q (mg dA D al ext) below s 0 0 (mv_Rv (fun σ1 => rg = σ1 ∧ mv_r σ1 = mv_r h))) hz 49 [(0, .ref (al 22)), (1, .int x1), (2, .int x2)] [] := by
        intro x1 x2 hz r_hz hf
        unfold f_Exprs_endSigns_49 at hf
        refine mv_aload_n (pc := 49) B d_Exprs_endSigns_49 rfl 0 rfl ?_
        refine mv_dup (pc := 50) B d_Exprs_endSigns_50 rfl ?_
        refine mv_getI (pc := 51) (ci := 6) (C := R_Exprs) (T := F_Exprs) (N := 11) B 8 rfl rfl (by decide) i_Exprs (B.2.2.2.1 _ k_202) rfl d_Exprs_endSigns_51 ?_
        refine mv_iconst (pc := 54) (v := 1) B d_Exprs_endSigns_54 (by decide) ?_
        refine mv_isub (pc := 55) B d_Exprs_endSigns_55 ?_
        refine mv_putI (pc := 56) (ci := 6) (C := R_Exprs) (T := F_Exprs) (N := 11) B 8 rfl rfl (by decide) i_Exprs t_Exprs_ok n_Exprs (B.2.2.2.1 _ k_202) rfl rfl rfl rfl d_Exprs_endSigns_56 ?_
        refine mvh_hp (R9 := mv_r h) hf r_hz (fun g6 hf r_g6 => ?_)
        refine mv_aload_n (pc := 59) B d_Exprs_endSigns_59 rfl 0 rfl ?_
        refine mv_getR (pc := 60) (ci := 6) (C := R_Exprs) (T := F_Exprs) (N := 11) B 0 rfl rfl (by decide) i_Exprs (B.2.2.2.1 _ k_193) rfl ((congrFun (congrFun r_g6 22) 0).trans (hb.1.1 22 0 _ rfl)) d_Exprs_endSigns_60 ?_
        refine mv_dup (pc := 63) B d_Exprs_endSigns_63 rfl ?_
        refine mv_getI (pc := 64) (ci := 2) (C := R_Tokens) (T := F_Tokens) (N := 10) B 8 rfl rfl (by decide) i_Tokens (B.2.2.2.1 _ k_104) rfl d_Exprs_endSigns_64 ?_
        refine mv_iconst (pc := 67) (v := 1) B d_Exprs_endSigns_67 (by decide) ?_
        refine mv_isub (pc := 68) B d_Exprs_endSigns_68 ?_
        refine mv_putI (pc := 69) (ci := 2) (C := R_Tokens) (T := F_Tokens) (N := 10) B 8 rfl rfl (by decide) i_Tokens t_Tokens_ok n_Tokens (B.2.2.2.1 _ k_104) rfl rfl rfl rfl d_Exprs_endSigns_69 ?_
        refine mvh_hp (R9 := mv_r h) hf r_g6 (fun g7 hf r_g7 => ?_)
        refine mv_aload_n (pc := 72) B d_Exprs_endSigns_72 rfl 0 rfl ?_
        obtain ⟨v9, g8, eg8, hf⟩ := xhb_e hf
        refine mv_callVi (pc := 73) (n := 0) (ci := 6) (C := R_Exprs) B (mK_ok sk sv) hNs rfl rfl (ch_Exprs_release l hi _ (xrw r_g7 hb.t) eg8) rfl (ma_goodc kc_Exprs_release) (B.2.2.2.1 _ k_1469) (B.2.2.2.1 _ k_1470) (B.2.2.2.1 _ k_1471) (B.2.2.2.1 _ k_7) ⟨by decide +kernel, by decide +kernel, by decide +kernel⟩ rfl d_Exprs_endSigns_73 rfl (Nat.le_of_ble_eq_true rfl) ⟨by decide, by decide⟩ ⟨by decide, by decide⟩ ⟨by decide, by decide⟩ (mv_noH hno _) (fun w73 σ73 h73 => ?_)
        obtain ⟨rfl, rfl, s_g8⟩ := h73
        have r_g8 : mv_r g8 = mv_r h := s_g8.trans r_g7
        refine mv_istore_n (pc := 76) B d_Exprs_endSigns_76 rfl (by decide) rfl ?_
        refine mv_iload_n (pc := 77) B d_Exprs_endSigns_77 rfl 3 rfl ?_
        refine mv_sipush (pc := 78) (v := 307) B d_Exprs_endSigns_78 (by decide) ?_
        refine mv_icmp_ne (pc := 81) (tgt := 105) B d_Exprs_endSigns_81 rfl (fun h81 => ?_) (fun h81 => ?_)
        · skip
          have hf := xif_f h81 hf
          refine mv_lpick [1, 2, 3, 0] rfl ?_
          exact jn105 _ _ _ _ r_g8 hf
        · skip
          have hf := xif_t h81 hf
          refine mv_iload_n (pc := 84) B d_Exprs_endSigns_84 rfl 0 rfl ?_
          refine mv_iconst (pc := 85) (v := 1) B d_Exprs_endSigns_85 (by decide) ?_
          refine mv_icmp_le (pc := 86) (tgt := 105) B d_Exprs_endSigns_86 rfl (fun h86 => ?_) (fun h86 => ?_)
          · skip
            have hf := xif_t h86 hf
            refine mv_lpick [1, 2, 3, 0] rfl ?_
            exact jn105 _ _ _ _ r_g8 hf
          · skip
            have hf := xif_f h86 hf
            refine mv_aload_n (pc := 89) B d_Exprs_endSigns_89 rfl 1 rfl ?_
            refine mv_aload_n (pc := 90) B d_Exprs_endSigns_90 rfl 1 rfl ?_
            refine mv_getR (pc := 91) (ci := 6) (C := R_Exprs) (T := F_Exprs) (N := 11) B 5 rfl rfl (by decide) i_Exprs (B.2.2.2.1 _ k_199) rfl ((congrFun (congrFun r_g8 22) 5).trans (hb.1.1 22 5 _ rfl)) d_Exprs_endSigns_91 ?_
            refine mv_aload_n (pc := 94) B d_Exprs_endSigns_94 rfl 1 rfl ?_
            refine mv_getI (pc := 95) (ci := 6) (C := R_Exprs) (T := F_Exprs) (N := 11) B 8 rfl rfl (by decide) i_Exprs (B.2.2.2.1 _ k_202) rfl d_Exprs_endSigns_95 ?_
            obtain ⟨q10, hf⟩ := xvi_e hf
            refine mv_iald (pc := 98) B rfl q10 d_Exprs_endSigns_98 ?_
            refine mv_iconst (pc := 99) (v := 4) B d_Exprs_endSigns_99 (by decide) ?_
            obtain ⟨g11, eg11, hf⟩ := xhv_e hf
            refine mv_callVv (pc := 100) (n := 2) (ci := 6) (C := R_Exprs) B (mK_ok sk sv) hNs rfl rfl (ch_Exprs_tell l hi _ (xrw r_g8 hb.t) _ _ eg11) rfl (ma_goodc kc_Exprs_tell) (B.2.2.2.1 _ k_1427) (B.2.2.2.1 _ k_1429) (B.2.2.2.1 _ ks_50) (B.2.2.2.1 _ k_7) ⟨by decide +kernel, by decide +kernel, by decide +kernel⟩ rfl d_Exprs_endSigns_100 rfl (Nat.le_of_ble_eq_true rfl) ⟨by decide, by decide⟩ ⟨by decide, by decide⟩ ⟨by decide, by decide⟩ (mv_noH hno _) (fun σ100 h100 => ?_)
            obtain ⟨rfl, s_g11⟩ := h100
            have r_g11 : mv_r g11 = mv_r h := s_g11.trans r_g8
            refine mv_iconst (pc := 103) (v := 0) B d_Exprs_endSigns_103 (by decide) ?_
            refine mv_istore_n (pc := 104) B d_Exprs_endSigns_104 rfl (by decide) rfl ?_
            refine mv_lpick [1, 2, 3, 0] rfl ?_
            exact jn105 _ _ _ _ r_g11 hf
      have hf : fF_Exprs_endSigns_2 48 (f_Exprs_endSigns_2 48 nn2) x1 hz = some rg := hf
      unfold fF_Exprs_endSigns_2 at hf
      refine mv_iload_n (pc := 2) B d_Exprs_endSigns_2 rfl 1 rfl ?_
      refine mv_bipush (pc := 3) (v := 60) B d_Exprs_endSigns_3 (by decide) ?_
      refine mv_icmp_gt (pc := 5) (tgt := 129) B d_Exprs_endSigns_5 rfl (fun h5 => ?_) (fun h5 => ?_)
      · skip
        have hf := xif_t h5 hf
        exact mv_vret (pc := 129) B hr d_Exprs_endSigns_129 (Nat.le_refl _) (Nat.le_refl _) ⟨rfl, xrh_v hf r_hz⟩
      · skip
        have hf := xif_f h5 hf
        refine mv_aload_n (pc := 8) B d_Exprs_endSigns_8 rfl 0 rfl ?_
        refine mv_getI (pc := 9) (ci := 6) (C := R_Exprs) (T := F_Exprs) (N := 11) B 8 rfl rfl (by decide) i_Exprs (B.2.2.2.1 _ k_202) rfl d_Exprs_endSigns_9 ?_
        refine mv_if_le (pc := 12) (tgt := 129) B d_Exprs_endSigns_12 rfl (fun h12 => ?_) (fun h12 => ?_)
        · skip
          have hf := xif_t h12 hf
          exact mv_vret (pc := 129) B hr d_Exprs_endSigns_129 (Nat.le_refl _) (Nat.le_refl _) ⟨rfl, xrh_v hf r_hz⟩
        · skip
          have hf := xif_f h12 hf
          refine mv_aload_n (pc := 15) B d_Exprs_endSigns_15 rfl 0 rfl ?_
          refine mv_getR (pc := 16) (ci := 6) (C := R_Exprs) (T := F_Exprs) (N := 11) B 4 rfl rfl (by decide) i_Exprs (B.2.2.2.1 _ k_198) rfl ((congrFun (congrFun r_hz 22) 4).trans (hb.1.1 22 4 _ rfl)) d_Exprs_endSigns_16 ?_
          refine mv_aload_n (pc := 19) B d_Exprs_endSigns_19 rfl 0 rfl ?_
          refine mv_getI (pc := 20) (ci := 6) (C := R_Exprs) (T := F_Exprs) (N := 11) B 8 rfl rfl (by decide) i_Exprs (B.2.2.2.1 _ k_202) rfl d_Exprs_endSigns_20 ?_
          refine mv_iconst (pc := 23) (v := 1) B d_Exprs_endSigns_23 (by decide) ?_
          refine mv_isub (pc := 24) B d_Exprs_endSigns_24 ?_
          obtain ⟨q12, hf⟩ := xvi_e hf
          refine mv_iald (pc := 25) B rfl q12 d_Exprs_endSigns_25 ?_
          refine mv_istore_n (pc := 26) B d_Exprs_endSigns_26 rfl (by decide) rfl ?_
          refine mv_iload_n (pc := 27) B d_Exprs_endSigns_27 rfl 0 rfl ?_
          refine mv_sipush (pc := 28) (v := 305) B d_Exprs_endSigns_28 (by decide) ?_
          refine mv_icmp_eq (pc := 31) (tgt := 49) B d_Exprs_endSigns_31 rfl (fun h31 => ?_) (fun h31 => ?_)
          · skip
            have hf := xif_t h31 hf
            refine mv_lpick [1, 2, 0] rfl ?_
            exact jn49 _ _ _ r_hz hf
          · skip
            have hf := xif_f h31 hf
            refine mv_iload_n (pc := 34) B d_Exprs_endSigns_34 rfl 0 rfl ?_
            refine mv_sipush (pc := 35) (v := 306) B d_Exprs_endSigns_35 (by decide) ?_
            refine mv_icmp_eq (pc := 38) (tgt := 49) B d_Exprs_endSigns_38 rfl (fun h38 => ?_) (fun h38 => ?_)
            · skip
              have hf := xif_t h38 hf
              refine mv_lpick [1, 2, 0] rfl ?_
              exact jn49 _ _ _ r_hz hf
            · skip
              have hf := xif_f h38 hf
              refine mv_iload_n (pc := 41) B d_Exprs_endSigns_41 rfl 0 rfl ?_
              refine mv_sipush (pc := 42) (v := 307) B d_Exprs_endSigns_42 (by decide) ?_
              refine mv_icmp_eq (pc := 45) (tgt := 49) B d_Exprs_endSigns_45 rfl (fun h45 => ?_) (fun h45 => ?_)
              · skip
                have hf := xif_t h45 hf
                refine mv_lpick [1, 2, 0] rfl ?_
                exact jn49 _ _ _ r_hz hf
              · skip
                have hf := xif_f h45 hf
                exact mv_vret (pc := 48) B hr d_Exprs_endSigns_48 (Nat.le_refl _) (Nat.le_refl _) ⟨rfl, xrh_v hf r_hz⟩
  unfold f_Exprs_endSigns at hf
  refine mv_iconst (pc := 0) (v := 0) B d_Exprs_endSigns_0 (by decide) ?_
  refine mv_istore_n (pc := 1) B d_Exprs_endSigns_1 rfl (by decide) rfl ?_
  refine mv_lpick [1, 0] rfl ?_
  exact lp2 _ _ _ rfl hf
def fF_Exprs_endBinaries_2 (P : Nat) (k2 : Int32 → Int32 → mv_H → Option mv_H) (x1 : Int32) (x2 : Int32) (hz : mv_H) : Option mv_H := if (1024 : Int32) ≤ x2 then (some hz) else (if (mv_i hz 22 8) ≤ (0 : Int32) then (some hz) else (bif xvi ((mv_i hz 22 8) - (1 : Int32)) 1024 then xhb (f_Exprs_levelOf hz (mv_a hz 23 (((mv_i hz 22 8) - (1 : Int32))).toNatClampNeg)) fun v3 g2 => if x1 ≤ v3 then (xk (mv_si g2 22 8 ((mv_i g2 22 8) - (1 : Int32))) fun g4 => bif xvi (mv_i g4 22 8) 1024 then xhv (f_Exprs_ofTwo P g4 (mv_a hz 23 (((mv_i hz 22 8) - (1 : Int32))).toNatClampNeg) (mv_a g4 24 ((mv_i g4 22 8)).toNatClampNeg)) fun g6 => k2 x1 (x2 + 1) g6 else none) else (some g2) else none))
def f_Exprs_endBinaries_2 (P : Nat) : Nat → Int32 → Int32 → mv_H → Option mv_H
  | 0 => fun _ _ _ => none
  | nn + 1 => fF_Exprs_endBinaries_2 P (f_Exprs_endBinaries_2 P nn)
def f_Exprs_endBinaries (P : Nat) (h : mv_H) (a0 : Int32) : Option mv_H := f_Exprs_endBinaries_2 P 200000 a0 (0 : Int32) h
set_option maxHeartbeats 4000000 in
set_option maxRecDepth 100000 in
theorem ch_Exprs_endBinaries_a (l : Launch) {dA : FieldType → ClassId} {D : va_G} {al : Nat → Nat} {ext : mv_Sh} {sk sv : Nat → Nat} (hi : mv_inj (mg dA D al ext)) (h : mv_H) (hb : xRP 32 (mv_r h))  (a0 : Int32) {rg : mv_H} (hf : f_Exprs_endBinaries 32 h a0 = some rg) : mv_C l y_Exprs_endBinaries (Cond.code y_Exprs_endBinaries b_Exprs_endBinaries 4 (Option.none : Option Jvm.ClassFile.FieldType) :: ma) ({ frames := 3, cells := 0, slots := 0, locals := 70 }) (mg dA D al ext) (mK sk sv) [.ref (al 22), .int a0] h (mv_Rv (fun σ1 => rg = σ1 ∧ mv_r σ1 = mv_r h)) := by
  refine mv_C.ofV (cc := b_Exprs_endBinaries) (nL := 4) (ret := (Option.none : Option Jvm.ClassFile.FieldType)) (by decide +kernel) rfl hi (Nat.le_of_ble_eq_true rfl) ?_
  intro p e s m below meth c B hNs hr hnm hno
  have lp2 : ∀ (nn2 : Nat) (x1 : Int32) (x2 : Int32) (hz : mv_H), mv_r hz = mv_r h → f_Exprs_endBinaries_2 32 nn2 x1 x2 hz = some rg → mv_V p l e ({ frames := 3, cells := 0, slots := 0, locals := 70 }) s m ([.ref (al 22), .int a0] : List Value).toArray below meth c (mg dA D al ext) 4 0 0 (mv_Q (mg dA D al ext) below s 0 0 (mv_Rv (fun σ1 => rg = σ1 ∧ mv_r σ1 = mv_r h))) hz 2 [(0, .ref (al 22)), (1, .int x1), (2, .int x2)] [] := by
    intro nn2
    induction nn2 with
    | zero => intro x1 x2 hz r_hz hf; cases hf
    | succ nn2 ih2 =>
      intro x1 x2 hz r_hz hf
      have hf : fF_Exprs_endBinaries_2 32 (f_Exprs_endBinaries_2 32 nn2) x1 x2 hz = some rg := hf
      unfold fF_Exprs_endBinaries_2 at hf
      refine mv_iload_n (pc := 2) B d_Exprs_endBinaries_2 rfl 2 rfl ?_
      refine mv_sipush (pc := 3) (v := 1024) B d_Exprs_endBinaries_3 (by decide) ?_
      refine mv_icmp_ge (pc := 6) (tgt := 67) B d_Exprs_endBinaries_6 rfl (fun h6 => ?_) (fun h6 => ?_)
      · skip
        have hf := xif_t h6 hf
        exact mv_vret (pc := 67) B hr d_Exprs_endBinaries_67 (Nat.le_refl _) (Nat.le_refl _) ⟨rfl, xrh_v hf r_hz⟩
      · skip
        have hf := xif_f h6 hf
        refine mv_aload_n (pc := 9) B d_Exprs_endBinaries_9 rfl 0 rfl ?_
        refine mv_getI (pc := 10) (ci := 6) (C := R_Exprs) (T := F_Exprs) (N := 11) B 8 rfl rfl (by decide) i_Exprs (B.2.2.2.1 _ k_202) rfl d_Exprs_endBinaries_10 ?_
        refine mv_if_le (pc := 13) (tgt := 67) B d_Exprs_endBinaries_13 rfl (fun h13 => ?_) (fun h13 => ?_)
        · skip
          have hf := xif_t h13 hf
          exact mv_vret (pc := 67) B hr d_Exprs_endBinaries_67 (Nat.le_refl _) (Nat.le_refl _) ⟨rfl, xrh_v hf r_hz⟩
        · skip
          have hf := xif_f h13 hf
          refine mv_aload_n (pc := 16) B d_Exprs_endBinaries_16 rfl 0 rfl ?_
          refine mv_getR (pc := 17) (ci := 6) (C := R_Exprs) (T := F_Exprs) (N := 11) B 4 rfl rfl (by decide) i_Exprs (B.2.2.2.1 _ k_198) rfl ((congrFun (congrFun r_hz 22) 4).trans (hb.1.1 22 4 _ rfl)) d_Exprs_endBinaries_17 ?_
          refine mv_aload_n (pc := 20) B d_Exprs_endBinaries_20 rfl 0 rfl ?_
          refine mv_getI (pc := 21) (ci := 6) (C := R_Exprs) (T := F_Exprs) (N := 11) B 8 rfl rfl (by decide) i_Exprs (B.2.2.2.1 _ k_202) rfl d_Exprs_endBinaries_21 ?_
          refine mv_iconst (pc := 24) (v := 1) B d_Exprs_endBinaries_24 (by decide) ?_
          refine mv_isub (pc := 25) B d_Exprs_endBinaries_25 ?_
          obtain ⟨q1, hf⟩ := xvi_e hf
          refine mv_iald (pc := 26) B rfl q1 d_Exprs_endBinaries_26 ?_
          refine mv_istore_n (pc := 27) B d_Exprs_endBinaries_27 rfl (by decide) rfl ?_
          refine mv_iload_n (pc := 28) B d_Exprs_endBinaries_28 rfl 0 rfl ?_
          obtain ⟨v3, g2, eg2, hf⟩ := xhb_e hf
          refine mv_callSi (pc := 29) (n := 1) B (mK_ok sk sv) hNs (ch_Exprs_levelOf l hi _ _ eg2) rfl (ma_goodc kc_Exprs_levelOf) (B.2.2.2.1 _ k_1482) (B.2.2.2.1 _ k_1483) (B.2.2.2.1 _ k_7) ⟨by decide +kernel, by decide +kernel, by decide +kernel⟩ rfl d_Exprs_endBinaries_29 rfl (Nat.le_of_ble_eq_true rfl) ⟨by decide, by decide⟩ ⟨by decide, by decide⟩ ⟨by decide, by decide⟩ (mv_noH hno _) (fun w29 σ29 h29 => ?_)
          obtain ⟨rfl, rfl, s_g2⟩ := h29
          have r_g2 : mv_r g2 = mv_r h := s_g2.trans r_hz
          refine mv_iload_n (pc := 32) B d_Exprs_endBinaries_32 rfl 2 rfl ?_
          refine mv_icmp_ge (pc := 33) (tgt := 37) B d_Exprs_endBinaries_33 rfl (fun h33 => ?_) (fun h33 => ?_)
          · skip
            have hf := xif_t h33 hf
            refine mv_aload_n (pc := 37) B d_Exprs_endBinaries_37 rfl 1 rfl ?_
            refine mv_dup (pc := 38) B d_Exprs_endBinaries_38 rfl ?_
            refine mv_getI (pc := 39) (ci := 6) (C := R_Exprs) (T := F_Exprs) (N := 11) B 8 rfl rfl (by decide) i_Exprs (B.2.2.2.1 _ k_202) rfl d_Exprs_endBinaries_39 ?_
            refine mv_iconst (pc := 42) (v := 1) B d_Exprs_endBinaries_42 (by decide) ?_
            refine mv_isub (pc := 43) B d_Exprs_endBinaries_43 ?_
            refine mv_putI (pc := 44) (ci := 6) (C := R_Exprs) (T := F_Exprs) (N := 11) B 8 rfl rfl (by decide) i_Exprs t_Exprs_ok n_Exprs (B.2.2.2.1 _ k_202) rfl rfl rfl rfl d_Exprs_endBinaries_44 ?_
            refine mvh_hp (R9 := mv_r h) hf r_g2 (fun g4 hf r_g4 => ?_)
            refine mv_aload_n (pc := 47) B d_Exprs_endBinaries_47 rfl 1 rfl ?_
            refine mv_iload_n (pc := 48) B d_Exprs_endBinaries_48 rfl 0 rfl ?_
            refine mv_aload_n (pc := 49) B d_Exprs_endBinaries_49 rfl 1 rfl ?_
            refine mv_getR (pc := 50) (ci := 6) (C := R_Exprs) (T := F_Exprs) (N := 11) B 5 rfl rfl (by decide) i_Exprs (B.2.2.2.1 _ k_199) rfl ((congrFun (congrFun r_g4 22) 5).trans (hb.1.1 22 5 _ rfl)) d_Exprs_endBinaries_50 ?_
            refine mv_aload_n (pc := 53) B d_Exprs_endBinaries_53 rfl 1 rfl ?_
            refine mv_getI (pc := 54) (ci := 6) (C := R_Exprs) (T := F_Exprs) (N := 11) B 8 rfl rfl (by decide) i_Exprs (B.2.2.2.1 _ k_202) rfl d_Exprs_endBinaries_54 ?_
            obtain ⟨q5, hf⟩ := xvi_e hf
            refine mv_iald (pc := 57) B rfl q5 d_Exprs_endBinaries_57 ?_
            obtain ⟨g6, eg6, hf⟩ := xhv_e hf
            refine mv_callVv (pc := 58) (n := 2) (ci := 6) (C := R_Exprs) B (mK_ok sk sv) hNs rfl rfl (ch_Exprs_ofTwo_a l hi _ (xrw r_g4 hb) _ _ eg6) rfl (ma_goodc kc_Exprs_ofTwo) (B.2.2.2.1 _ k_1489) (B.2.2.2.1 _ k_1491) (B.2.2.2.1 _ ks_57) (B.2.2.2.1 _ k_7) ⟨by decide +kernel, by decide +kernel, by decide +kernel⟩ rfl d_Exprs_endBinaries_58 rfl (Nat.le_of_ble_eq_true rfl) ⟨by decide, by decide⟩ ⟨by decide, by decide⟩ ⟨by decide, by decide⟩ (mv_noH hno _) (fun σ58 h58 => ?_)
            obtain ⟨rfl, s_g6⟩ := h58
            have r_g6 : mv_r g6 = mv_r h := s_g6.trans r_g4
            refine mv_iinc (pc := 61) (j := 3) (v := 1) B d_Exprs_endBinaries_61 rfl (by decide) (by decide) rfl ?_
            refine mv_goto (pc := 64) (tgt := 2) B d_Exprs_endBinaries_64 rfl ?_
            refine mv_lpick [2, 3, 0] rfl ?_
            exact ih2 _ _ _ r_g6 hf
          · skip
            have hf := xif_f h33 hf
            exact mv_vret (pc := 36) B hr d_Exprs_endBinaries_36 (Nat.le_refl _) (Nat.le_refl _) ⟨rfl, xrh_v hf r_g2⟩
  unfold f_Exprs_endBinaries at hf
  refine mv_iconst (pc := 0) (v := 0) B d_Exprs_endBinaries_0 (by decide) ?_
  refine mv_istore_n (pc := 1) B d_Exprs_endBinaries_1 rfl (by decide) rfl ?_
  refine mv_lpick [1, 2, 0] rfl ?_
  exact lp2 _ _ _ _ rfl hf
set_option maxHeartbeats 4000000 in
set_option maxRecDepth 100000 in
theorem ch_Exprs_endBinaries_b (l : Launch) {dA : FieldType → ClassId} {D : va_G} {al : Nat → Nat} {ext : mv_Sh} {sk sv : Nat → Nat} (hi : mv_inj (mg dA D al ext)) (h : mv_H) (hb : xRP 48 (mv_r h))  (a0 : Int32) {rg : mv_H} (hf : f_Exprs_endBinaries 48 h a0 = some rg) : mv_C l y_Exprs_endBinaries (Cond.code y_Exprs_endBinaries b_Exprs_endBinaries 4 (Option.none : Option Jvm.ClassFile.FieldType) :: ma) ({ frames := 3, cells := 0, slots := 0, locals := 70 }) (mg dA D al ext) (mK sk sv) [.ref (al 22), .int a0] h (mv_Rv (fun σ1 => rg = σ1 ∧ mv_r σ1 = mv_r h)) := by
  refine mv_C.ofV (cc := b_Exprs_endBinaries) (nL := 4) (ret := (Option.none : Option Jvm.ClassFile.FieldType)) (by decide +kernel) rfl hi (Nat.le_of_ble_eq_true rfl) ?_
  intro p e s m below meth c B hNs hr hnm hno
  have lp2 : ∀ (nn2 : Nat) (x1 : Int32) (x2 : Int32) (hz : mv_H), mv_r hz = mv_r h → f_Exprs_endBinaries_2 48 nn2 x1 x2 hz = some rg → mv_V p l e ({ frames := 3, cells := 0, slots := 0, locals := 70 }) s m ([.ref (al 22), .int a0] : List Value).toArray below meth c (mg dA D al ext) 4 0 0 (mv_Q (mg dA D al ext) below s 0 0 (mv_Rv (fun σ1 => rg = σ1 ∧ mv_r σ1 = mv_r h))) hz 2 [(0, .ref (al 22)), (1, .int x1), (2, .int x2)] [] := by
    intro nn2
    induction nn2 with
    | zero => intro x1 x2 hz r_hz hf; cases hf
    | succ nn2 ih2 =>
      intro x1 x2 hz r_hz hf
      have hf : fF_Exprs_endBinaries_2 48 (f_Exprs_endBinaries_2 48 nn2) x1 x2 hz = some rg := hf
      unfold fF_Exprs_endBinaries_2 at hf
      refine mv_iload_n (pc := 2) B d_Exprs_endBinaries_2 rfl 2 rfl ?_
      refine mv_sipush (pc := 3) (v := 1024) B d_Exprs_endBinaries_3 (by decide) ?_
      refine mv_icmp_ge (pc := 6) (tgt := 67) B d_Exprs_endBinaries_6 rfl (fun h6 => ?_) (fun h6 => ?_)
      · skip
        have hf := xif_t h6 hf
        exact mv_vret (pc := 67) B hr d_Exprs_endBinaries_67 (Nat.le_refl _) (Nat.le_refl _) ⟨rfl, xrh_v hf r_hz⟩
      · skip
        have hf := xif_f h6 hf
        refine mv_aload_n (pc := 9) B d_Exprs_endBinaries_9 rfl 0 rfl ?_
        refine mv_getI (pc := 10) (ci := 6) (C := R_Exprs) (T := F_Exprs) (N := 11) B 8 rfl rfl (by decide) i_Exprs (B.2.2.2.1 _ k_202) rfl d_Exprs_endBinaries_10 ?_
        refine mv_if_le (pc := 13) (tgt := 67) B d_Exprs_endBinaries_13 rfl (fun h13 => ?_) (fun h13 => ?_)
        · skip
          have hf := xif_t h13 hf
          exact mv_vret (pc := 67) B hr d_Exprs_endBinaries_67 (Nat.le_refl _) (Nat.le_refl _) ⟨rfl, xrh_v hf r_hz⟩
        · skip
          have hf := xif_f h13 hf
          refine mv_aload_n (pc := 16) B d_Exprs_endBinaries_16 rfl 0 rfl ?_
          refine mv_getR (pc := 17) (ci := 6) (C := R_Exprs) (T := F_Exprs) (N := 11) B 4 rfl rfl (by decide) i_Exprs (B.2.2.2.1 _ k_198) rfl ((congrFun (congrFun r_hz 22) 4).trans (hb.1.1 22 4 _ rfl)) d_Exprs_endBinaries_17 ?_
          refine mv_aload_n (pc := 20) B d_Exprs_endBinaries_20 rfl 0 rfl ?_
          refine mv_getI (pc := 21) (ci := 6) (C := R_Exprs) (T := F_Exprs) (N := 11) B 8 rfl rfl (by decide) i_Exprs (B.2.2.2.1 _ k_202) rfl d_Exprs_endBinaries_21 ?_
          refine mv_iconst (pc := 24) (v := 1) B d_Exprs_endBinaries_24 (by decide) ?_
          refine mv_isub (pc := 25) B d_Exprs_endBinaries_25 ?_
          obtain ⟨q1, hf⟩ := xvi_e hf
          refine mv_iald (pc := 26) B rfl q1 d_Exprs_endBinaries_26 ?_
          refine mv_istore_n (pc := 27) B d_Exprs_endBinaries_27 rfl (by decide) rfl ?_
          refine mv_iload_n (pc := 28) B d_Exprs_endBinaries_28 rfl 0 rfl ?_
          obtain ⟨v3, g2, eg2, hf⟩ := xhb_e hf
          refine mv_callSi (pc := 29) (n := 1) B (mK_ok sk sv) hNs (ch_Exprs_levelOf l hi _ _ eg2) rfl (ma_goodc kc_Exprs_levelOf) (B.2.2.2.1 _ k_1482) (B.2.2.2.1 _ k_1483) (B.2.2.2.1 _ k_7) ⟨by decide +kernel, by decide +kernel, by decide +kernel⟩ rfl d_Exprs_endBinaries_29 rfl (Nat.le_of_ble_eq_true rfl) ⟨by decide, by decide⟩ ⟨by decide, by decide⟩ ⟨by decide, by decide⟩ (mv_noH hno _) (fun w29 σ29 h29 => ?_)
          obtain ⟨rfl, rfl, s_g2⟩ := h29
          have r_g2 : mv_r g2 = mv_r h := s_g2.trans r_hz
          refine mv_iload_n (pc := 32) B d_Exprs_endBinaries_32 rfl 2 rfl ?_
          refine mv_icmp_ge (pc := 33) (tgt := 37) B d_Exprs_endBinaries_33 rfl (fun h33 => ?_) (fun h33 => ?_)
          · skip
            have hf := xif_t h33 hf
            refine mv_aload_n (pc := 37) B d_Exprs_endBinaries_37 rfl 1 rfl ?_
            refine mv_dup (pc := 38) B d_Exprs_endBinaries_38 rfl ?_
            refine mv_getI (pc := 39) (ci := 6) (C := R_Exprs) (T := F_Exprs) (N := 11) B 8 rfl rfl (by decide) i_Exprs (B.2.2.2.1 _ k_202) rfl d_Exprs_endBinaries_39 ?_
            refine mv_iconst (pc := 42) (v := 1) B d_Exprs_endBinaries_42 (by decide) ?_
            refine mv_isub (pc := 43) B d_Exprs_endBinaries_43 ?_
            refine mv_putI (pc := 44) (ci := 6) (C := R_Exprs) (T := F_Exprs) (N := 11) B 8 rfl rfl (by decide) i_Exprs t_Exprs_ok n_Exprs (B.2.2.2.1 _ k_202) rfl rfl rfl rfl d_Exprs_endBinaries_44 ?_
            refine mvh_hp (R9 := mv_r h) hf r_g2 (fun g4 hf r_g4 => ?_)
            refine mv_aload_n (pc := 47) B d_Exprs_endBinaries_47 rfl 1 rfl ?_
            refine mv_iload_n (pc := 48) B d_Exprs_endBinaries_48 rfl 0 rfl ?_
            refine mv_aload_n (pc := 49) B d_Exprs_endBinaries_49 rfl 1 rfl ?_
            refine mv_getR (pc := 50) (ci := 6) (C := R_Exprs) (T := F_Exprs) (N := 11) B 5 rfl rfl (by decide) i_Exprs (B.2.2.2.1 _ k_199) rfl ((congrFun (congrFun r_g4 22) 5).trans (hb.1.1 22 5 _ rfl)) d_Exprs_endBinaries_50 ?_
            refine mv_aload_n (pc := 53) B d_Exprs_endBinaries_53 rfl 1 rfl ?_
            refine mv_getI (pc := 54) (ci := 6) (C := R_Exprs) (T := F_Exprs) (N := 11) B 8 rfl rfl (by decide) i_Exprs (B.2.2.2.1 _ k_202) rfl d_Exprs_endBinaries_54 ?_
            obtain ⟨q5, hf⟩ := xvi_e hf
            refine mv_iald (pc := 57) B rfl q5 d_Exprs_endBinaries_57 ?_
            obtain ⟨g6, eg6, hf⟩ := xhv_e hf
            refine mv_callVv (pc := 58) (n := 2) (ci := 6) (C := R_Exprs) B (mK_ok sk sv) hNs rfl rfl (ch_Exprs_ofTwo_b l hi _ (xrw r_g4 hb) _ _ eg6) rfl (ma_goodc kc_Exprs_ofTwo) (B.2.2.2.1 _ k_1489) (B.2.2.2.1 _ k_1491) (B.2.2.2.1 _ ks_57) (B.2.2.2.1 _ k_7) ⟨by decide +kernel, by decide +kernel, by decide +kernel⟩ rfl d_Exprs_endBinaries_58 rfl (Nat.le_of_ble_eq_true rfl) ⟨by decide, by decide⟩ ⟨by decide, by decide⟩ ⟨by decide, by decide⟩ (mv_noH hno _) (fun σ58 h58 => ?_)
            obtain ⟨rfl, s_g6⟩ := h58
            have r_g6 : mv_r g6 = mv_r h := s_g6.trans r_g4
            refine mv_iinc (pc := 61) (j := 3) (v := 1) B d_Exprs_endBinaries_61 rfl (by decide) (by decide) rfl ?_
            refine mv_goto (pc := 64) (tgt := 2) B d_Exprs_endBinaries_64 rfl ?_
            refine mv_lpick [2, 3, 0] rfl ?_
            exact ih2 _ _ _ r_g6 hf
          · skip
            have hf := xif_f h33 hf
            exact mv_vret (pc := 36) B hr d_Exprs_endBinaries_36 (Nat.le_refl _) (Nat.le_refl _) ⟨rfl, xrh_v hf r_g2⟩
  unfold f_Exprs_endBinaries at hf
  refine mv_iconst (pc := 0) (v := 0) B d_Exprs_endBinaries_0 (by decide) ?_
  refine mv_istore_n (pc := 1) B d_Exprs_endBinaries_1 rfl (by decide) rfl ?_
  refine mv_lpick [1, 2, 0] rfl ?_
  exact lp2 _ _ _ _ rfl hf
def f_Exprs_choose (P : Nat) (h : mv_H) : Option mv_H := xhb (f_Tokens_open h (63 : Int32)) fun v2 g1 => xhv (f_Exprs_mark g1 (63 : Int32) v2) fun g3 => xhb (f_Exprs_release g3) fun v5 g4 => bif xvi ((mv_i g3 22 8) - (1 : Int32)) 1024 then xk (mv_sa g4 26 (((mv_i g3 22 8) - (1 : Int32))).toNatClampNeg v5) fun g7 => xhb (f_Program_emit P g7 (312 : Int32) (0 : Int64)) fun v9 g8 => bif xvi ((mv_i g7 22 8) - (1 : Int32)) 1024 then xk (mv_sa g8 25 (((mv_i g7 22 8) - (1 : Int32))).toNatClampNeg v9) fun g11 => some g11 else none else none
set_option maxHeartbeats 4000000 in
set_option maxRecDepth 100000 in
theorem ch_Exprs_choose_a (l : Launch) {dA : FieldType → ClassId} {D : va_G} {al : Nat → Nat} {ext : mv_Sh} {sk sv : Nat → Nat} (hi : mv_inj (mg dA D al ext)) (h : mv_H) (hb : xRP 32 (mv_r h))  {rg : mv_H} (hf : f_Exprs_choose 32 h = some rg) : mv_C l y_Exprs_choose (Cond.code y_Exprs_choose b_Exprs_choose 1 (Option.none : Option Jvm.ClassFile.FieldType) :: ma) ({ frames := 3, cells := 0, slots := 0, locals := 63 }) (mg dA D al ext) (mK sk sv) [.ref (al 22)] h (mv_Rv (fun σ1 => rg = σ1 ∧ mv_r σ1 = mv_r h)) := by
  refine mv_C.ofV (cc := b_Exprs_choose) (nL := 1) (ret := (Option.none : Option Jvm.ClassFile.FieldType)) (by decide +kernel) rfl hi (Nat.le_of_ble_eq_true rfl) ?_
  intro p e s m below meth c B hNs hr hnm hno
  unfold f_Exprs_choose at hf
  refine mv_aload_n (pc := 0) B d_Exprs_choose_0 rfl 0 rfl ?_
  refine mv_bipush (pc := 1) (v := 63) B d_Exprs_choose_1 (by decide) ?_
  refine mv_aload_n (pc := 3) B d_Exprs_choose_3 rfl 0 rfl ?_
  refine mv_getR (pc := 4) (ci := 6) (C := R_Exprs) (T := F_Exprs) (N := 11) B 0 rfl rfl (by decide) i_Exprs (B.2.2.2.1 _ k_193) rfl (hb.1.1 22 0 _ rfl) d_Exprs_choose_4 ?_
  refine mv_bipush (pc := 7) (v := 63) B d_Exprs_choose_7 (by decide) ?_
  obtain ⟨v2, g1, eg1, hf⟩ := xhb_e hf
  refine mv_callVi (pc := 9) (n := 1) (ci := 2) (C := R_Tokens) B (mK_ok sk sv) hNs rfl rfl (ch_Tokens_open l hi _ (hb.t) _ eg1) rfl (ma_goodc kc_Tokens_open) (B.2.2.2.1 _ k_1415) (B.2.2.2.1 _ k_1350) (B.2.2.2.1 _ k_1351) (B.2.2.2.1 _ k_3) ⟨by decide +kernel, by decide +kernel, by decide +kernel⟩ rfl d_Exprs_choose_9 rfl (Nat.le_of_ble_eq_true rfl) ⟨by decide, by decide⟩ ⟨by decide, by decide⟩ ⟨by decide, by decide⟩ (mv_noH hno _) (fun w9 σ9 h9 => ?_)
  obtain ⟨rfl, rfl, s_g1⟩ := h9
  have r_g1 : mv_r g1 = mv_r h := s_g1.trans rfl
  obtain ⟨g3, eg3, hf⟩ := xhv_e hf
  refine mv_callVv (pc := 12) (n := 2) (ci := 6) (C := R_Exprs) B (mK_ok sk sv) hNs rfl rfl (ch_Exprs_mark l hi _ (xrw r_g1 hb.t) _ _ eg3) rfl (ma_goodc kc_Exprs_mark) (B.2.2.2.1 _ k_1416) (B.2.2.2.1 _ k_1418) (B.2.2.2.1 _ ks_48) (B.2.2.2.1 _ k_7) ⟨by decide +kernel, by decide +kernel, by decide +kernel⟩ rfl d_Exprs_choose_12 rfl (Nat.le_of_ble_eq_true rfl) ⟨by decide, by decide⟩ ⟨by decide, by decide⟩ ⟨by decide, by decide⟩ (mv_noH hno _) (fun σ12 h12 => ?_)
  obtain ⟨rfl, s_g3⟩ := h12
  have r_g3 : mv_r g3 = mv_r h := s_g3.trans r_g1
  refine mv_aload_n (pc := 15) B d_Exprs_choose_15 rfl 0 rfl ?_
  refine mv_getR (pc := 16) (ci := 6) (C := R_Exprs) (T := F_Exprs) (N := 11) B 7 rfl rfl (by decide) i_Exprs (B.2.2.2.1 _ k_201) rfl ((congrFun (congrFun r_g3 22) 7).trans (hb.1.1 22 7 _ rfl)) d_Exprs_choose_16 ?_
  refine mv_aload_n (pc := 19) B d_Exprs_choose_19 rfl 0 rfl ?_
  refine mv_getI (pc := 20) (ci := 6) (C := R_Exprs) (T := F_Exprs) (N := 11) B 8 rfl rfl (by decide) i_Exprs (B.2.2.2.1 _ k_202) rfl d_Exprs_choose_20 ?_
  refine mv_iconst (pc := 23) (v := 1) B d_Exprs_choose_23 (by decide) ?_
  refine mv_isub (pc := 24) B d_Exprs_choose_24 ?_
  refine mv_aload_n (pc := 25) B d_Exprs_choose_25 rfl 0 rfl ?_
  obtain ⟨v5, g4, eg4, hf⟩ := xhb_e hf
  refine mv_callVi (pc := 26) (n := 0) (ci := 6) (C := R_Exprs) B (mK_ok sk sv) hNs rfl rfl (ch_Exprs_release l hi _ (xrw r_g3 hb.t) eg4) rfl (ma_goodc kc_Exprs_release) (B.2.2.2.1 _ k_1469) (B.2.2.2.1 _ k_1470) (B.2.2.2.1 _ k_1471) (B.2.2.2.1 _ k_7) ⟨by decide +kernel, by decide +kernel, by decide +kernel⟩ rfl d_Exprs_choose_26 rfl (Nat.le_of_ble_eq_true rfl) ⟨by decide, by decide⟩ ⟨by decide, by decide⟩ ⟨by decide, by decide⟩ (mv_noH hno _) (fun w26 σ26 h26 => ?_)
  obtain ⟨rfl, rfl, s_g4⟩ := h26
  have r_g4 : mv_r g4 = mv_r h := s_g4.trans r_g3
  obtain ⟨q6, hf⟩ := xvi_e hf
  refine mv_iast (pc := 29) B rfl q6 d_Exprs_choose_29 ?_
  refine mvh_hp (R9 := mv_r h) hf r_g4 (fun g7 hf r_g7 => ?_)
  refine mv_aload_n (pc := 30) B d_Exprs_choose_30 rfl 0 rfl ?_
  refine mv_getR (pc := 31) (ci := 6) (C := R_Exprs) (T := F_Exprs) (N := 11) B 6 rfl rfl (by decide) i_Exprs (B.2.2.2.1 _ k_200) rfl ((congrFun (congrFun r_g7 22) 6).trans (hb.1.1 22 6 _ rfl)) d_Exprs_choose_31 ?_
  refine mv_aload_n (pc := 34) B d_Exprs_choose_34 rfl 0 rfl ?_
  refine mv_getI (pc := 35) (ci := 6) (C := R_Exprs) (T := F_Exprs) (N := 11) B 8 rfl rfl (by decide) i_Exprs (B.2.2.2.1 _ k_202) rfl d_Exprs_choose_35 ?_
  refine mv_iconst (pc := 38) (v := 1) B d_Exprs_choose_38 (by decide) ?_
  refine mv_isub (pc := 39) B d_Exprs_choose_39 ?_
  refine mv_aload_n (pc := 40) B d_Exprs_choose_40 rfl 0 rfl ?_
  refine mv_getR (pc := 41) (ci := 6) (C := R_Exprs) (T := F_Exprs) (N := 11) B 3 rfl rfl (by decide) i_Exprs (B.2.2.2.1 _ k_197) rfl ((congrFun (congrFun r_g7 22) 3).trans hb.1.2.2.2) d_Exprs_choose_41 ?_
  refine mv_sipush (pc := 44) (v := 312) B d_Exprs_choose_44 (by decide) ?_
  refine mv_lconst (pc := 47) (v := 0) B d_Exprs_choose_47 (by decide) ?_
  obtain ⟨v9, g8, eg8, hf⟩ := xhb_e hf
  refine mv_callVi (pc := 48) (n := 2) (ci := 7) (C := R_Program) B (mK_ok sk sv) hNs rfl rfl (ch_Program_emit_a l hi _ (xrw r_g7 hb) _ _ eg8) rfl (ma_goodc kc_Program_emit) (B.2.2.2.1 _ k_1425) (B.2.2.2.1 _ k_1385) (B.2.2.2.1 _ k_1386) (B.2.2.2.1 _ k_8) ⟨by decide +kernel, by decide +kernel, by decide +kernel⟩ rfl d_Exprs_choose_48 rfl (Nat.le_of_ble_eq_true rfl) ⟨by decide, by decide⟩ ⟨by decide, by decide⟩ ⟨by decide, by decide⟩ (mv_noH hno _) (fun w48 σ48 h48 => ?_)
  obtain ⟨rfl, rfl, s_g8⟩ := h48
  have r_g8 : mv_r g8 = mv_r h := s_g8.trans r_g7
  obtain ⟨q10, hf⟩ := xvi_e hf
  refine mv_iast (pc := 51) B rfl q10 d_Exprs_choose_51 ?_
  refine mvh_hp (R9 := mv_r h) hf r_g8 (fun g11 hf r_g11 => ?_)
  exact mv_vret (pc := 52) B hr d_Exprs_choose_52 (Nat.le_refl _) (Nat.le_refl _) ⟨rfl, xrh_v hf r_g11⟩
set_option maxHeartbeats 4000000 in
set_option maxRecDepth 100000 in
theorem ch_Exprs_choose_b (l : Launch) {dA : FieldType → ClassId} {D : va_G} {al : Nat → Nat} {ext : mv_Sh} {sk sv : Nat → Nat} (hi : mv_inj (mg dA D al ext)) (h : mv_H) (hb : xRP 48 (mv_r h))  {rg : mv_H} (hf : f_Exprs_choose 48 h = some rg) : mv_C l y_Exprs_choose (Cond.code y_Exprs_choose b_Exprs_choose 1 (Option.none : Option Jvm.ClassFile.FieldType) :: ma) ({ frames := 3, cells := 0, slots := 0, locals := 63 }) (mg dA D al ext) (mK sk sv) [.ref (al 22)] h (mv_Rv (fun σ1 => rg = σ1 ∧ mv_r σ1 = mv_r h)) := by
  refine mv_C.ofV (cc := b_Exprs_choose) (nL := 1) (ret := (Option.none : Option Jvm.ClassFile.FieldType)) (by decide +kernel) rfl hi (Nat.le_of_ble_eq_true rfl) ?_
  intro p e s m below meth c B hNs hr hnm hno
  unfold f_Exprs_choose at hf
  refine mv_aload_n (pc := 0) B d_Exprs_choose_0 rfl 0 rfl ?_
  refine mv_bipush (pc := 1) (v := 63) B d_Exprs_choose_1 (by decide) ?_
  refine mv_aload_n (pc := 3) B d_Exprs_choose_3 rfl 0 rfl ?_
  refine mv_getR (pc := 4) (ci := 6) (C := R_Exprs) (T := F_Exprs) (N := 11) B 0 rfl rfl (by decide) i_Exprs (B.2.2.2.1 _ k_193) rfl (hb.1.1 22 0 _ rfl) d_Exprs_choose_4 ?_
  refine mv_bipush (pc := 7) (v := 63) B d_Exprs_choose_7 (by decide) ?_
  obtain ⟨v2, g1, eg1, hf⟩ := xhb_e hf
  refine mv_callVi (pc := 9) (n := 1) (ci := 2) (C := R_Tokens) B (mK_ok sk sv) hNs rfl rfl (ch_Tokens_open l hi _ (hb.t) _ eg1) rfl (ma_goodc kc_Tokens_open) (B.2.2.2.1 _ k_1415) (B.2.2.2.1 _ k_1350) (B.2.2.2.1 _ k_1351) (B.2.2.2.1 _ k_3) ⟨by decide +kernel, by decide +kernel, by decide +kernel⟩ rfl d_Exprs_choose_9 rfl (Nat.le_of_ble_eq_true rfl) ⟨by decide, by decide⟩ ⟨by decide, by decide⟩ ⟨by decide, by decide⟩ (mv_noH hno _) (fun w9 σ9 h9 => ?_)
  obtain ⟨rfl, rfl, s_g1⟩ := h9
  have r_g1 : mv_r g1 = mv_r h := s_g1.trans rfl
  obtain ⟨g3, eg3, hf⟩ := xhv_e hf
  refine mv_callVv (pc := 12) (n := 2) (ci := 6) (C := R_Exprs) B (mK_ok sk sv) hNs rfl rfl (ch_Exprs_mark l hi _ (xrw r_g1 hb.t) _ _ eg3) rfl (ma_goodc kc_Exprs_mark) (B.2.2.2.1 _ k_1416) (B.2.2.2.1 _ k_1418) (B.2.2.2.1 _ ks_48) (B.2.2.2.1 _ k_7) ⟨by decide +kernel, by decide +kernel, by decide +kernel⟩ rfl d_Exprs_choose_12 rfl (Nat.le_of_ble_eq_true rfl) ⟨by decide, by decide⟩ ⟨by decide, by decide⟩ ⟨by decide, by decide⟩ (mv_noH hno _) (fun σ12 h12 => ?_)
  obtain ⟨rfl, s_g3⟩ := h12
  have r_g3 : mv_r g3 = mv_r h := s_g3.trans r_g1
  refine mv_aload_n (pc := 15) B d_Exprs_choose_15 rfl 0 rfl ?_
  refine mv_getR (pc := 16) (ci := 6) (C := R_Exprs) (T := F_Exprs) (N := 11) B 7 rfl rfl (by decide) i_Exprs (B.2.2.2.1 _ k_201) rfl ((congrFun (congrFun r_g3 22) 7).trans (hb.1.1 22 7 _ rfl)) d_Exprs_choose_16 ?_
  refine mv_aload_n (pc := 19) B d_Exprs_choose_19 rfl 0 rfl ?_
  refine mv_getI (pc := 20) (ci := 6) (C := R_Exprs) (T := F_Exprs) (N := 11) B 8 rfl rfl (by decide) i_Exprs (B.2.2.2.1 _ k_202) rfl d_Exprs_choose_20 ?_
  refine mv_iconst (pc := 23) (v := 1) B d_Exprs_choose_23 (by decide) ?_
  refine mv_isub (pc := 24) B d_Exprs_choose_24 ?_
  refine mv_aload_n (pc := 25) B d_Exprs_choose_25 rfl 0 rfl ?_
  obtain ⟨v5, g4, eg4, hf⟩ := xhb_e hf
  refine mv_callVi (pc := 26) (n := 0) (ci := 6) (C := R_Exprs) B (mK_ok sk sv) hNs rfl rfl (ch_Exprs_release l hi _ (xrw r_g3 hb.t) eg4) rfl (ma_goodc kc_Exprs_release) (B.2.2.2.1 _ k_1469) (B.2.2.2.1 _ k_1470) (B.2.2.2.1 _ k_1471) (B.2.2.2.1 _ k_7) ⟨by decide +kernel, by decide +kernel, by decide +kernel⟩ rfl d_Exprs_choose_26 rfl (Nat.le_of_ble_eq_true rfl) ⟨by decide, by decide⟩ ⟨by decide, by decide⟩ ⟨by decide, by decide⟩ (mv_noH hno _) (fun w26 σ26 h26 => ?_)
  obtain ⟨rfl, rfl, s_g4⟩ := h26
  have r_g4 : mv_r g4 = mv_r h := s_g4.trans r_g3
  obtain ⟨q6, hf⟩ := xvi_e hf
  refine mv_iast (pc := 29) B rfl q6 d_Exprs_choose_29 ?_
  refine mvh_hp (R9 := mv_r h) hf r_g4 (fun g7 hf r_g7 => ?_)
  refine mv_aload_n (pc := 30) B d_Exprs_choose_30 rfl 0 rfl ?_
  refine mv_getR (pc := 31) (ci := 6) (C := R_Exprs) (T := F_Exprs) (N := 11) B 6 rfl rfl (by decide) i_Exprs (B.2.2.2.1 _ k_200) rfl ((congrFun (congrFun r_g7 22) 6).trans (hb.1.1 22 6 _ rfl)) d_Exprs_choose_31 ?_
  refine mv_aload_n (pc := 34) B d_Exprs_choose_34 rfl 0 rfl ?_
  refine mv_getI (pc := 35) (ci := 6) (C := R_Exprs) (T := F_Exprs) (N := 11) B 8 rfl rfl (by decide) i_Exprs (B.2.2.2.1 _ k_202) rfl d_Exprs_choose_35 ?_
  refine mv_iconst (pc := 38) (v := 1) B d_Exprs_choose_38 (by decide) ?_
  refine mv_isub (pc := 39) B d_Exprs_choose_39 ?_
  refine mv_aload_n (pc := 40) B d_Exprs_choose_40 rfl 0 rfl ?_
  refine mv_getR (pc := 41) (ci := 6) (C := R_Exprs) (T := F_Exprs) (N := 11) B 3 rfl rfl (by decide) i_Exprs (B.2.2.2.1 _ k_197) rfl ((congrFun (congrFun r_g7 22) 3).trans hb.1.2.2.2) d_Exprs_choose_41 ?_
  refine mv_sipush (pc := 44) (v := 312) B d_Exprs_choose_44 (by decide) ?_
  refine mv_lconst (pc := 47) (v := 0) B d_Exprs_choose_47 (by decide) ?_
  obtain ⟨v9, g8, eg8, hf⟩ := xhb_e hf
  refine mv_callVi (pc := 48) (n := 2) (ci := 7) (C := R_Program) B (mK_ok sk sv) hNs rfl rfl (ch_Program_emit_b l hi _ (xrw r_g7 hb) _ _ eg8) rfl (ma_goodc kc_Program_emit) (B.2.2.2.1 _ k_1425) (B.2.2.2.1 _ k_1385) (B.2.2.2.1 _ k_1386) (B.2.2.2.1 _ k_8) ⟨by decide +kernel, by decide +kernel, by decide +kernel⟩ rfl d_Exprs_choose_48 rfl (Nat.le_of_ble_eq_true rfl) ⟨by decide, by decide⟩ ⟨by decide, by decide⟩ ⟨by decide, by decide⟩ (mv_noH hno _) (fun w48 σ48 h48 => ?_)
  obtain ⟨rfl, rfl, s_g8⟩ := h48
  have r_g8 : mv_r g8 = mv_r h := s_g8.trans r_g7
  obtain ⟨q10, hf⟩ := xvi_e hf
  refine mv_iast (pc := 51) B rfl q10 d_Exprs_choose_51 ?_
  refine mvh_hp (R9 := mv_r h) hf r_g8 (fun g11 hf r_g11 => ?_)
  exact mv_vret (pc := 52) B hr d_Exprs_choose_52 (Nat.le_refl _) (Nat.le_refl _) ⟨rfl, xrh_v hf r_g11⟩
def f_Exprs_otherwise (P : Nat) (h : mv_H) : Option mv_H := xhb (f_Tokens_take h (58 : Int32)) fun v2 g1 => bif xvi ((mv_i g1 22 8) - (1 : Int32)) 1024 then bif xvi ((mv_i g1 22 8) - (1 : Int32)) 1024 then xk (mv_sa g1 23 (((mv_i g1 22 8) - (1 : Int32))).toNatClampNeg (58 : Int32)) fun g5 => xhb (f_Program_emit P g5 (311 : Int32) (0 : Int64)) fun v7 g6 => bif xvi ((mv_i g5 22 8) - (1 : Int32)) 1024 then xk (mv_sa g6 25 (((mv_i g5 22 8) - (1 : Int32))).toNatClampNeg v7) fun g9 => xhv (f_Program_aim P g9 (mv_a g1 25 (((mv_i g1 22 8) - (1 : Int32))).toNatClampNeg)) fun g10 => some g10 else none else none else none
set_option maxHeartbeats 4000000 in
set_option maxRecDepth 100000 in
theorem ch_Exprs_otherwise_a (l : Launch) {dA : FieldType → ClassId} {D : va_G} {al : Nat → Nat} {ext : mv_Sh} {sk sv : Nat → Nat} (hi : mv_inj (mg dA D al ext)) (h : mv_H) (hb : xRP 32 (mv_r h))  {rg : mv_H} (hf : f_Exprs_otherwise 32 h = some rg) : mv_C l y_Exprs_otherwise (Cond.code y_Exprs_otherwise b_Exprs_otherwise 2 (Option.none : Option Jvm.ClassFile.FieldType) :: ma) ({ frames := 2, cells := 0, slots := 0, locals := 42 }) (mg dA D al ext) (mK sk sv) [.ref (al 22)] h (mv_Rv (fun σ1 => rg = σ1 ∧ mv_r σ1 = mv_r h)) := by
  refine mv_C.ofV (cc := b_Exprs_otherwise) (nL := 2) (ret := (Option.none : Option Jvm.ClassFile.FieldType)) (by decide +kernel) rfl hi (Nat.le_of_ble_eq_true rfl) ?_
  intro p e s m below meth c B hNs hr hnm hno
  unfold f_Exprs_otherwise at hf
  refine mv_aload_n (pc := 0) B d_Exprs_otherwise_0 rfl 0 rfl ?_
  refine mv_getR (pc := 1) (ci := 6) (C := R_Exprs) (T := F_Exprs) (N := 11) B 0 rfl rfl (by decide) i_Exprs (B.2.2.2.1 _ k_193) rfl (hb.1.1 22 0 _ rfl) d_Exprs_otherwise_1 ?_
  refine mv_bipush (pc := 4) (v := 58) B d_Exprs_otherwise_4 (by decide) ?_
  obtain ⟨v2, g1, eg1, hf⟩ := xhb_e hf
  refine mv_callVi (pc := 6) (n := 1) (ci := 2) (C := R_Tokens) B (mK_ok sk sv) hNs rfl rfl (ch_Tokens_take l hi _ (hb.t) _ eg1) rfl (ma_goodc kc_Tokens_take) (B.2.2.2.1 _ k_1424) (B.2.2.2.1 _ k_1267) (B.2.2.2.1 _ k_1268) (B.2.2.2.1 _ k_3) ⟨by decide +kernel, by decide +kernel, by decide +kernel⟩ rfl d_Exprs_otherwise_6 rfl (Nat.le_of_ble_eq_true rfl) ⟨by decide, by decide⟩ ⟨by decide, by decide⟩ ⟨by decide, by decide⟩ (mv_noH hno _) (fun w6 σ6 h6 => ?_)
  obtain ⟨rfl, rfl, s_g1⟩ := h6
  have r_g1 : mv_r g1 = mv_r h := s_g1.trans rfl
  refine mv_pop (pc := 9) B d_Exprs_otherwise_9 rfl ?_
  refine mv_aload_n (pc := 10) B d_Exprs_otherwise_10 rfl 0 rfl ?_
  refine mv_getR (pc := 11) (ci := 6) (C := R_Exprs) (T := F_Exprs) (N := 11) B 6 rfl rfl (by decide) i_Exprs (B.2.2.2.1 _ k_200) rfl ((congrFun (congrFun r_g1 22) 6).trans (hb.1.1 22 6 _ rfl)) d_Exprs_otherwise_11 ?_
  refine mv_aload_n (pc := 14) B d_Exprs_otherwise_14 rfl 0 rfl ?_
  refine mv_getI (pc := 15) (ci := 6) (C := R_Exprs) (T := F_Exprs) (N := 11) B 8 rfl rfl (by decide) i_Exprs (B.2.2.2.1 _ k_202) rfl d_Exprs_otherwise_15 ?_
  refine mv_iconst (pc := 18) (v := 1) B d_Exprs_otherwise_18 (by decide) ?_
  refine mv_isub (pc := 19) B d_Exprs_otherwise_19 ?_
  obtain ⟨q3, hf⟩ := xvi_e hf
  refine mv_iald (pc := 20) B rfl q3 d_Exprs_otherwise_20 ?_
  refine mv_istore_n (pc := 21) B d_Exprs_otherwise_21 rfl (by decide) rfl ?_
  refine mv_aload_n (pc := 22) B d_Exprs_otherwise_22 rfl 1 rfl ?_
  refine mv_getR (pc := 23) (ci := 6) (C := R_Exprs) (T := F_Exprs) (N := 11) B 4 rfl rfl (by decide) i_Exprs (B.2.2.2.1 _ k_198) rfl ((congrFun (congrFun r_g1 22) 4).trans (hb.1.1 22 4 _ rfl)) d_Exprs_otherwise_23 ?_
  refine mv_aload_n (pc := 26) B d_Exprs_otherwise_26 rfl 1 rfl ?_
  refine mv_getI (pc := 27) (ci := 6) (C := R_Exprs) (T := F_Exprs) (N := 11) B 8 rfl rfl (by decide) i_Exprs (B.2.2.2.1 _ k_202) rfl d_Exprs_otherwise_27 ?_
  refine mv_iconst (pc := 30) (v := 1) B d_Exprs_otherwise_30 (by decide) ?_
  refine mv_isub (pc := 31) B d_Exprs_otherwise_31 ?_
  refine mv_bipush (pc := 32) (v := 58) B d_Exprs_otherwise_32 (by decide) ?_
  obtain ⟨q4, hf⟩ := xvi_e hf
  refine mv_iast (pc := 34) B rfl q4 d_Exprs_otherwise_34 ?_
  refine mvh_hp (R9 := mv_r h) hf r_g1 (fun g5 hf r_g5 => ?_)
  refine mv_aload_n (pc := 35) B d_Exprs_otherwise_35 rfl 1 rfl ?_
  refine mv_getR (pc := 36) (ci := 6) (C := R_Exprs) (T := F_Exprs) (N := 11) B 6 rfl rfl (by decide) i_Exprs (B.2.2.2.1 _ k_200) rfl ((congrFun (congrFun r_g5 22) 6).trans (hb.1.1 22 6 _ rfl)) d_Exprs_otherwise_36 ?_
  refine mv_aload_n (pc := 39) B d_Exprs_otherwise_39 rfl 1 rfl ?_
  refine mv_getI (pc := 40) (ci := 6) (C := R_Exprs) (T := F_Exprs) (N := 11) B 8 rfl rfl (by decide) i_Exprs (B.2.2.2.1 _ k_202) rfl d_Exprs_otherwise_40 ?_
  refine mv_iconst (pc := 43) (v := 1) B d_Exprs_otherwise_43 (by decide) ?_
  refine mv_isub (pc := 44) B d_Exprs_otherwise_44 ?_
  refine mv_aload_n (pc := 45) B d_Exprs_otherwise_45 rfl 1 rfl ?_
  refine mv_getR (pc := 46) (ci := 6) (C := R_Exprs) (T := F_Exprs) (N := 11) B 3 rfl rfl (by decide) i_Exprs (B.2.2.2.1 _ k_197) rfl ((congrFun (congrFun r_g5 22) 3).trans hb.1.2.2.2) d_Exprs_otherwise_46 ?_
  refine mv_sipush (pc := 49) (v := 311) B d_Exprs_otherwise_49 (by decide) ?_
  refine mv_lconst (pc := 52) (v := 0) B d_Exprs_otherwise_52 (by decide) ?_
  obtain ⟨v7, g6, eg6, hf⟩ := xhb_e hf
  refine mv_callVi (pc := 53) (n := 2) (ci := 7) (C := R_Program) B (mK_ok sk sv) hNs rfl rfl (ch_Program_emit_a l hi _ (xrw r_g5 hb) _ _ eg6) rfl (ma_goodc kc_Program_emit) (B.2.2.2.1 _ k_1425) (B.2.2.2.1 _ k_1385) (B.2.2.2.1 _ k_1386) (B.2.2.2.1 _ k_8) ⟨by decide +kernel, by decide +kernel, by decide +kernel⟩ rfl d_Exprs_otherwise_53 rfl (Nat.le_of_ble_eq_true rfl) ⟨by decide, by decide⟩ ⟨by decide, by decide⟩ ⟨by decide, by decide⟩ (mv_noH hno _) (fun w53 σ53 h53 => ?_)
  obtain ⟨rfl, rfl, s_g6⟩ := h53
  have r_g6 : mv_r g6 = mv_r h := s_g6.trans r_g5
  obtain ⟨q8, hf⟩ := xvi_e hf
  refine mv_iast (pc := 56) B rfl q8 d_Exprs_otherwise_56 ?_
  refine mvh_hp (R9 := mv_r h) hf r_g6 (fun g9 hf r_g9 => ?_)
  refine mv_aload_n (pc := 57) B d_Exprs_otherwise_57 rfl 1 rfl ?_
  refine mv_getR (pc := 58) (ci := 6) (C := R_Exprs) (T := F_Exprs) (N := 11) B 3 rfl rfl (by decide) i_Exprs (B.2.2.2.1 _ k_197) rfl ((congrFun (congrFun r_g9 22) 3).trans hb.1.2.2.2) d_Exprs_otherwise_58 ?_
  refine mv_iload_n (pc := 61) B d_Exprs_otherwise_61 rfl 0 rfl ?_
  obtain ⟨g10, eg10, hf⟩ := xhv_e hf
  refine mv_callVv (pc := 62) (n := 1) (ci := 7) (C := R_Program) B (mK_ok sk sv) hNs rfl rfl (ch_Program_aim_a l hi _ (xrw r_g9 hb) _ eg10) rfl (ma_goodc kc_Program_aim) (B.2.2.2.1 _ k_1501) (B.2.2.2.1 _ k_1403) (B.2.2.2.1 _ k_1404) (B.2.2.2.1 _ k_8) ⟨by decide +kernel, by decide +kernel, by decide +kernel⟩ rfl d_Exprs_otherwise_62 rfl (Nat.le_of_ble_eq_true rfl) ⟨by decide, by decide⟩ ⟨by decide, by decide⟩ ⟨by decide, by decide⟩ (mv_noH hno _) (fun σ62 h62 => ?_)
  obtain ⟨rfl, s_g10⟩ := h62
  have r_g10 : mv_r g10 = mv_r h := s_g10.trans r_g9
  exact mv_vret (pc := 65) B hr d_Exprs_otherwise_65 (Nat.le_refl _) (Nat.le_refl _) ⟨rfl, xrh_v hf r_g10⟩
set_option maxHeartbeats 4000000 in
set_option maxRecDepth 100000 in
theorem ch_Exprs_otherwise_b (l : Launch) {dA : FieldType → ClassId} {D : va_G} {al : Nat → Nat} {ext : mv_Sh} {sk sv : Nat → Nat} (hi : mv_inj (mg dA D al ext)) (h : mv_H) (hb : xRP 48 (mv_r h))  {rg : mv_H} (hf : f_Exprs_otherwise 48 h = some rg) : mv_C l y_Exprs_otherwise (Cond.code y_Exprs_otherwise b_Exprs_otherwise 2 (Option.none : Option Jvm.ClassFile.FieldType) :: ma) ({ frames := 2, cells := 0, slots := 0, locals := 42 }) (mg dA D al ext) (mK sk sv) [.ref (al 22)] h (mv_Rv (fun σ1 => rg = σ1 ∧ mv_r σ1 = mv_r h)) := by
  refine mv_C.ofV (cc := b_Exprs_otherwise) (nL := 2) (ret := (Option.none : Option Jvm.ClassFile.FieldType)) (by decide +kernel) rfl hi (Nat.le_of_ble_eq_true rfl) ?_
  intro p e s m below meth c B hNs hr hnm hno
  unfold f_Exprs_otherwise at hf
  refine mv_aload_n (pc := 0) B d_Exprs_otherwise_0 rfl 0 rfl ?_
  refine mv_getR (pc := 1) (ci := 6) (C := R_Exprs) (T := F_Exprs) (N := 11) B 0 rfl rfl (by decide) i_Exprs (B.2.2.2.1 _ k_193) rfl (hb.1.1 22 0 _ rfl) d_Exprs_otherwise_1 ?_
  refine mv_bipush (pc := 4) (v := 58) B d_Exprs_otherwise_4 (by decide) ?_
  obtain ⟨v2, g1, eg1, hf⟩ := xhb_e hf
  refine mv_callVi (pc := 6) (n := 1) (ci := 2) (C := R_Tokens) B (mK_ok sk sv) hNs rfl rfl (ch_Tokens_take l hi _ (hb.t) _ eg1) rfl (ma_goodc kc_Tokens_take) (B.2.2.2.1 _ k_1424) (B.2.2.2.1 _ k_1267) (B.2.2.2.1 _ k_1268) (B.2.2.2.1 _ k_3) ⟨by decide +kernel, by decide +kernel, by decide +kernel⟩ rfl d_Exprs_otherwise_6 rfl (Nat.le_of_ble_eq_true rfl) ⟨by decide, by decide⟩ ⟨by decide, by decide⟩ ⟨by decide, by decide⟩ (mv_noH hno _) (fun w6 σ6 h6 => ?_)
  obtain ⟨rfl, rfl, s_g1⟩ := h6
  have r_g1 : mv_r g1 = mv_r h := s_g1.trans rfl
  refine mv_pop (pc := 9) B d_Exprs_otherwise_9 rfl ?_
  refine mv_aload_n (pc := 10) B d_Exprs_otherwise_10 rfl 0 rfl ?_
  refine mv_getR (pc := 11) (ci := 6) (C := R_Exprs) (T := F_Exprs) (N := 11) B 6 rfl rfl (by decide) i_Exprs (B.2.2.2.1 _ k_200) rfl ((congrFun (congrFun r_g1 22) 6).trans (hb.1.1 22 6 _ rfl)) d_Exprs_otherwise_11 ?_
  refine mv_aload_n (pc := 14) B d_Exprs_otherwise_14 rfl 0 rfl ?_
  refine mv_getI (pc := 15) (ci := 6) (C := R_Exprs) (T := F_Exprs) (N := 11) B 8 rfl rfl (by decide) i_Exprs (B.2.2.2.1 _ k_202) rfl d_Exprs_otherwise_15 ?_
  refine mv_iconst (pc := 18) (v := 1) B d_Exprs_otherwise_18 (by decide) ?_
  refine mv_isub (pc := 19) B d_Exprs_otherwise_19 ?_
  obtain ⟨q3, hf⟩ := xvi_e hf
  refine mv_iald (pc := 20) B rfl q3 d_Exprs_otherwise_20 ?_
  refine mv_istore_n (pc := 21) B d_Exprs_otherwise_21 rfl (by decide) rfl ?_
  refine mv_aload_n (pc := 22) B d_Exprs_otherwise_22 rfl 1 rfl ?_
  refine mv_getR (pc := 23) (ci := 6) (C := R_Exprs) (T := F_Exprs) (N := 11) B 4 rfl rfl (by decide) i_Exprs (B.2.2.2.1 _ k_198) rfl ((congrFun (congrFun r_g1 22) 4).trans (hb.1.1 22 4 _ rfl)) d_Exprs_otherwise_23 ?_
  refine mv_aload_n (pc := 26) B d_Exprs_otherwise_26 rfl 1 rfl ?_
  refine mv_getI (pc := 27) (ci := 6) (C := R_Exprs) (T := F_Exprs) (N := 11) B 8 rfl rfl (by decide) i_Exprs (B.2.2.2.1 _ k_202) rfl d_Exprs_otherwise_27 ?_
  refine mv_iconst (pc := 30) (v := 1) B d_Exprs_otherwise_30 (by decide) ?_
  refine mv_isub (pc := 31) B d_Exprs_otherwise_31 ?_
  refine mv_bipush (pc := 32) (v := 58) B d_Exprs_otherwise_32 (by decide) ?_
  obtain ⟨q4, hf⟩ := xvi_e hf
  refine mv_iast (pc := 34) B rfl q4 d_Exprs_otherwise_34 ?_
  refine mvh_hp (R9 := mv_r h) hf r_g1 (fun g5 hf r_g5 => ?_)
  refine mv_aload_n (pc := 35) B d_Exprs_otherwise_35 rfl 1 rfl ?_
  refine mv_getR (pc := 36) (ci := 6) (C := R_Exprs) (T := F_Exprs) (N := 11) B 6 rfl rfl (by decide) i_Exprs (B.2.2.2.1 _ k_200) rfl ((congrFun (congrFun r_g5 22) 6).trans (hb.1.1 22 6 _ rfl)) d_Exprs_otherwise_36 ?_
  refine mv_aload_n (pc := 39) B d_Exprs_otherwise_39 rfl 1 rfl ?_
  refine mv_getI (pc := 40) (ci := 6) (C := R_Exprs) (T := F_Exprs) (N := 11) B 8 rfl rfl (by decide) i_Exprs (B.2.2.2.1 _ k_202) rfl d_Exprs_otherwise_40 ?_
  refine mv_iconst (pc := 43) (v := 1) B d_Exprs_otherwise_43 (by decide) ?_
  refine mv_isub (pc := 44) B d_Exprs_otherwise_44 ?_
  refine mv_aload_n (pc := 45) B d_Exprs_otherwise_45 rfl 1 rfl ?_
  refine mv_getR (pc := 46) (ci := 6) (C := R_Exprs) (T := F_Exprs) (N := 11) B 3 rfl rfl (by decide) i_Exprs (B.2.2.2.1 _ k_197) rfl ((congrFun (congrFun r_g5 22) 3).trans hb.1.2.2.2) d_Exprs_otherwise_46 ?_
  refine mv_sipush (pc := 49) (v := 311) B d_Exprs_otherwise_49 (by decide) ?_
  refine mv_lconst (pc := 52) (v := 0) B d_Exprs_otherwise_52 (by decide) ?_
  obtain ⟨v7, g6, eg6, hf⟩ := xhb_e hf
  refine mv_callVi (pc := 53) (n := 2) (ci := 7) (C := R_Program) B (mK_ok sk sv) hNs rfl rfl (ch_Program_emit_b l hi _ (xrw r_g5 hb) _ _ eg6) rfl (ma_goodc kc_Program_emit) (B.2.2.2.1 _ k_1425) (B.2.2.2.1 _ k_1385) (B.2.2.2.1 _ k_1386) (B.2.2.2.1 _ k_8) ⟨by decide +kernel, by decide +kernel, by decide +kernel⟩ rfl d_Exprs_otherwise_53 rfl (Nat.le_of_ble_eq_true rfl) ⟨by decide, by decide⟩ ⟨by decide, by decide⟩ ⟨by decide, by decide⟩ (mv_noH hno _) (fun w53 σ53 h53 => ?_)
  obtain ⟨rfl, rfl, s_g6⟩ := h53
  have r_g6 : mv_r g6 = mv_r h := s_g6.trans r_g5
  obtain ⟨q8, hf⟩ := xvi_e hf
  refine mv_iast (pc := 56) B rfl q8 d_Exprs_otherwise_56 ?_
  refine mvh_hp (R9 := mv_r h) hf r_g6 (fun g9 hf r_g9 => ?_)
  refine mv_aload_n (pc := 57) B d_Exprs_otherwise_57 rfl 1 rfl ?_
  refine mv_getR (pc := 58) (ci := 6) (C := R_Exprs) (T := F_Exprs) (N := 11) B 3 rfl rfl (by decide) i_Exprs (B.2.2.2.1 _ k_197) rfl ((congrFun (congrFun r_g9 22) 3).trans hb.1.2.2.2) d_Exprs_otherwise_58 ?_
  refine mv_iload_n (pc := 61) B d_Exprs_otherwise_61 rfl 0 rfl ?_
  obtain ⟨g10, eg10, hf⟩ := xhv_e hf
  refine mv_callVv (pc := 62) (n := 1) (ci := 7) (C := R_Program) B (mK_ok sk sv) hNs rfl rfl (ch_Program_aim_b l hi _ (xrw r_g9 hb) _ eg10) rfl (ma_goodc kc_Program_aim) (B.2.2.2.1 _ k_1501) (B.2.2.2.1 _ k_1403) (B.2.2.2.1 _ k_1404) (B.2.2.2.1 _ k_8) ⟨by decide +kernel, by decide +kernel, by decide +kernel⟩ rfl d_Exprs_otherwise_62 rfl (Nat.le_of_ble_eq_true rfl) ⟨by decide, by decide⟩ ⟨by decide, by decide⟩ ⟨by decide, by decide⟩ (mv_noH hno _) (fun σ62 h62 => ?_)
  obtain ⟨rfl, s_g10⟩ := h62
  have r_g10 : mv_r g10 = mv_r h := s_g10.trans r_g9
  exact mv_vret (pc := 65) B hr d_Exprs_otherwise_65 (Nat.le_refl _) (Nat.le_refl _) ⟨rfl, xrh_v hf r_g10⟩
def f_Exprs_endChoices_156 (P : Nat) (k2 : Int32 → mv_H → Option mv_H) (x1 : Int32) (y0 : Int32) (hz : mv_H) : Option mv_H := xhv (f_Exprs_hold hz y0) fun g1 => k2 (x1 + 1) g1
def f_Exprs_endChoices_145 (P : Nat) (k2 : Int32 → mv_H → Option mv_H) (x1 : Int32) (x3 : Int32) (x5 : Int32) (hz : mv_H) : Option mv_H := if x5 = (0 : Int32) then (f_Exprs_endChoices_156 P k2 x1 x3 hz) else (f_Exprs_endChoices_156 P k2 x1 (0 : Int32) hz)
def f_Exprs_endChoices_128 (P : Nat) (k2 : Int32 → mv_H → Option mv_H) (x1 : Int32) (x3 : Int32) (hz : mv_H) : Option mv_H := bif xvi (mv_i hz 22 8) 1024 then xhv (f_Exprs_tell hz (mv_a hz 24 ((mv_i hz 22 8)).toNatClampNeg) (4 : Int32)) fun g3 => f_Exprs_endChoices_145 P k2 x1 x3 (1 : Int32) g3 else none
def f_Exprs_endChoices_110 (P : Nat) (k2 : Int32 → mv_H → Option mv_H) (x1 : Int32) (x2 : Int32) (x3 : Int32) (x4 : Int32) (y0 : Int32) (hz : mv_H) : Option mv_H := if y0 = (0 : Int32) then (if x4 = (1 : Int32) then (if x3 = x2 then (f_Exprs_endChoices_145 P k2 x1 x3 y0 hz) else (f_Exprs_endChoices_128 P k2 x1 x3 hz)) else (f_Exprs_endChoices_128 P k2 x1 x3 hz)) else (f_Exprs_endChoices_145 P k2 x1 x3 y0 hz)
def f_Exprs_endChoices_105 (P : Nat) (k2 : Int32 → mv_H → Option mv_H) (x1 : Int32) (x2 : Int32) (x3 : Int32) (x4 : Int32) (hz : mv_H) : Option mv_H := f_Exprs_endChoices_110 P k2 x1 x2 x3 x4 (1 : Int32) hz
def fF_Exprs_endChoices_2 (P : Nat) (k2 : Int32 → mv_H → Option mv_H) (x1 : Int32) (hz : mv_H) : Option mv_H := if (60 : Int32) < x1 then (some hz) else (if (mv_i hz 22 8) ≤ (0 : Int32) then (some hz) else (bif xvi ((mv_i hz 22 8) - (1 : Int32)) 1024 then if (mv_a hz 23 (((mv_i hz 22 8) - (1 : Int32))).toNatClampNeg) = (58 : Int32) then (xk (mv_si hz 22 8 ((mv_i hz 22 8) - (1 : Int32))) fun g5 => xk (mv_si g5 3 8 ((mv_i g5 3 8) - (1 : Int32))) fun g6 => bif xvi (mv_i g6 22 8) 1024 then xhv (f_Program_aim P g6 (mv_a g6 25 ((mv_i g6 22 8)).toNatClampNeg)) fun g8 => xhb (f_Exprs_release g8) fun v10 g9 => xhb (f_Exprs_release g9) fun v12 g11 => bif xvi (mv_i g11 22 8) 1024 then if (mv_a g11 26 ((mv_i g11 22 8)).toNatClampNeg) = (0 : Int32) then (f_Exprs_endChoices_105 P k2 x1 v10 v12 (mv_a g11 26 ((mv_i g11 22 8)).toNatClampNeg) g11) else (if v12 = (0 : Int32) then (f_Exprs_endChoices_105 P k2 x1 v10 v12 (mv_a g11 26 ((mv_i g11 22 8)).toNatClampNeg) g11) else (if v10 = (0 : Int32) then (f_Exprs_endChoices_105 P k2 x1 v10 v12 (mv_a g11 26 ((mv_i g11 22 8)).toNatClampNeg) g11) else (f_Exprs_endChoices_110 P k2 x1 v10 v12 (mv_a g11 26 ((mv_i g11 22 8)).toNatClampNeg) (0 : Int32) g11))) else none else none) else (some hz) else none))
def f_Exprs_endChoices_2 (P : Nat) : Nat → Int32 → mv_H → Option mv_H
  | 0 => fun _ _ => none
  | nn + 1 => fF_Exprs_endChoices_2 P (f_Exprs_endChoices_2 P nn)
def f_Exprs_endChoices (P : Nat) (h : mv_H) : Option mv_H := f_Exprs_endChoices_2 P 200000 (0 : Int32) h
set_option maxHeartbeats 4000000 in
set_option maxRecDepth 100000 in
theorem ch_Exprs_endChoices_a (l : Launch) {dA : FieldType → ClassId} {D : va_G} {al : Nat → Nat} {ext : mv_Sh} {sk sv : Nat → Nat} (hi : mv_inj (mg dA D al ext)) (h : mv_H) (hb : xRP 32 (mv_r h))  {rg : mv_H} (hf : f_Exprs_endChoices 32 h = some rg) : mv_C l y_Exprs_endChoices (Cond.code y_Exprs_endChoices b_Exprs_endChoices 6 (Option.none : Option Jvm.ClassFile.FieldType) :: ma) ({ frames := 2, cells := 0, slots := 0, locals := 44 }) (mg dA D al ext) (mK sk sv) [.ref (al 22)] h (mv_Rv (fun σ1 => rg = σ1 ∧ mv_r σ1 = mv_r h)) := by
  refine mv_C.ofV (cc := b_Exprs_endChoices) (nL := 6) (ret := (Option.none : Option Jvm.ClassFile.FieldType)) (by decide +kernel) rfl hi (Nat.le_of_ble_eq_true rfl) ?_
  intro p e s m below meth c B hNs hr hnm hno
  have lp2 : ∀ (nn2 : Nat) (x1 : Int32) (hz : mv_H), mv_r hz = mv_r h → f_Exprs_endChoices_2 32 nn2 x1 hz = some rg → mv_V p l e ({ frames := 2, cells := 0, slots := 0, locals := 44 }) s m ([.ref (al 22)] : List Value).toArray below meth c (mg dA D al ext) 6 0 0 (mv_Q (mg dA D al ext) below s 0 0 (mv_Rv (fun σ1 => rg = σ1 ∧ mv_r σ1 = mv_r h))) hz 2 [(0, .ref (al 22)), (1, .int x1)] [] := by
    intro nn2
    induction nn2 with
    | zero => intro x1 hz r_hz hf; cases hf
    | succ nn2 ih2 =>
      intro x1 hz r_hz hf
      have jn156 : ∀ (x1 : Int32) (y0 : Int32) (hz : mv_H), mv_r hz = mv_r h → f_Exprs_endChoices_156 32 (f_Exprs_endChoices_2 32 nn2) x1 y0 hz = some rg → mv_V p l e ({ frames := 2, cells := 0, slots := 0, locals := 44 }) s m ([.ref (al 22)] : List Value).toArray below meth c (mg dA D al ext) 6 0 0 (mv_Q (mg dA D al ext) below s 0 0 (mv_Rv (fun σ1 => rg = σ1 ∧ mv_r σ1 = mv_r h))) hz 156 [(0, .ref (al 22)), (1, .int x1)] [.int y0, .ref (al 22)] := by
        intro x1 y0 hz r_hz hf
        unfold f_Exprs_endChoices_156 at hf
        obtain ⟨g1, eg1, hf⟩ := xhv_e hf
        refine mv_callVv (pc := 156) (n := 1) (ci := 6) (C := R_Exprs) B (mK_ok sk sv) hNs rfl rfl (ch_Exprs_hold l hi _ (xrw r_hz hb.t) _ eg1) rfl (ma_goodc kc_Exprs_hold) (B.2.2.2.1 _ k_1432) (B.2.2.2.1 _ k_1434) (B.2.2.2.1 _ ks_51) (B.2.2.2.1 _ k_7) ⟨by decide +kernel, by decide +kernel, by decide +kernel⟩ rfl d_Exprs_endChoices_156 rfl (Nat.le_of_ble_eq_true rfl) ⟨by decide, by decide⟩ ⟨by decide, by decide⟩ ⟨by decide, by decide⟩ (mv_noH hno _) (fun σ156 h156 => ?_)
        obtain ⟨rfl, s_g1⟩ := h156
        have r_g1 : mv_r g1 = mv_r h := s_g1.trans r_hz
        refine mv_iinc (pc := 159) (j := 1) (v := 1) B d_Exprs_endChoices_159 rfl (by decide) (by decide) rfl ?_
        refine mv_goto (pc := 162) (tgt := 2) B d_Exprs_endChoices_162 rfl ?_
        refine mv_lpick [1, 0] rfl ?_
        exact ih2 _ _ r_g1 hf
      have jn145 : ∀ (x1 : Int32) (x3 : Int32) (x5 : Int32) (hz : mv_H), mv_r hz = mv_r h → f_Exprs_endChoices_145 32 (f_Exprs_endChoices_2 32 nn2) x1 x3 x5 hz = some rg → mv_V p l e ({ frames := 2, cells := 0, slots := 0, locals := 44 }) s m ([.ref (al 22)] : List Value).toArray below meth c (mg dA D al ext) 6 0 0 (mv_Q (mg dA D al ext) below s 0 0 (mv_Rv (fun σ1 => rg = σ1 ∧ mv_r σ1 = mv_r h))) hz 145 [(0, .ref (al 22)), (1, .int x1), (3, .int x3), (5, .int x5)] [] := by
        intro x1 x3 x5 hz r_hz hf
        unfold f_Exprs_endChoices_145 at hf
        refine mv_aload_n (pc := 145) B d_Exprs_endChoices_145 rfl 0 rfl ?_
        refine mv_iload (pc := 146) B d_Exprs_endChoices_146 3 rfl ?_
        refine mv_if_eq (pc := 148) (tgt := 155) B d_Exprs_endChoices_148 rfl (fun h148 => ?_) (fun h148 => ?_)
        · skip
          have hf := xif_t h148 hf
          refine mv_iload_n (pc := 155) B d_Exprs_endChoices_155 rfl 2 rfl ?_
          refine mv_lpick [0, 1] rfl ?_
          exact jn156 _ _ _ r_hz hf
        · skip
          have hf := xif_f h148 hf
          refine mv_iconst (pc := 151) (v := 0) B d_Exprs_endChoices_151 (by decide) ?_
          refine mv_goto (pc := 152) (tgt := 156) B d_Exprs_endChoices_152 rfl ?_
          refine mv_lpick [0, 1] rfl ?_
          exact jn156 _ _ _ r_hz hf
      have jn128 : ∀ (x1 : Int32) (x3 : Int32) (hz : mv_H), mv_r hz = mv_r h → f_Exprs_endChoices_128 32 (f_Exprs_endChoices_2 32 nn2) x1 x3 hz = some rg → mv_V p l e ({ frames := 2, cells := 0, slots := 0, locals := 44 }) s m ([.ref (al 22)] : List Value).toArray below meth c (mg dA D al ext) 6 0 0 (mv_Q (mg dA D al ext) below s 0 0 (mv_Rv (fun σ1 => rg = σ1 ∧ mv_r σ1 = mv_r h))) hz 128 [(0, .ref (al 22)), (1, .int x1), (3, .int x3)] [] := by
        intro x1 x3 hz r_hz hf
        unfold f_Exprs_endChoices_128 at hf
        refine mv_aload_n (pc := 128) B d_Exprs_endChoices_128 rfl 0 rfl ?_
        refine mv_aload_n (pc := 129) B d_Exprs_endChoices_129 rfl 0 rfl ?_
        refine mv_getR (pc := 130) (ci := 6) (C := R_Exprs) (T := F_Exprs) (N := 11) B 5 rfl rfl (by decide) i_Exprs (B.2.2.2.1 _ k_199) rfl ((congrFun (congrFun r_hz 22) 5).trans (hb.1.1 22 5 _ rfl)) d_Exprs_endChoices_130 ?_
        refine mv_aload_n (pc := 133) B d_Exprs_endChoices_133 rfl 0 rfl ?_
        refine mv_getI (pc := 134) (ci := 6) (C := R_Exprs) (T := F_Exprs) (N := 11) B 8 rfl rfl (by decide) i_Exprs (B.2.2.2.1 _ k_202) rfl d_Exprs_endChoices_134 ?_
        obtain ⟨q2, hf⟩ := xvi_e hf
        refine mv_iald (pc := 137) B rfl q2 d_Exprs_endChoices_137 ?_
        refine mv_iconst (pc := 138) (v := 4) B d_Exprs_endChoices_138 (by decide) ?_
        obtain ⟨g3, eg3, hf⟩ := xhv_e hf
        refine mv_callVv (pc := 139) (n := 2) (ci := 6) (C := R_Exprs) B (mK_ok sk sv) hNs rfl rfl (ch_Exprs_tell l hi _ (xrw r_hz hb.t) _ _ eg3) rfl (ma_goodc kc_Exprs_tell) (B.2.2.2.1 _ k_1427) (B.2.2.2.1 _ k_1429) (B.2.2.2.1 _ ks_50) (B.2.2.2.1 _ k_7) ⟨by decide +kernel, by decide +kernel, by decide +kernel⟩ rfl d_Exprs_endChoices_139 rfl (Nat.le_of_ble_eq_true rfl) ⟨by decide, by decide⟩ ⟨by decide, by decide⟩ ⟨by decide, by decide⟩ (mv_noH hno _) (fun σ139 h139 => ?_)
        obtain ⟨rfl, s_g3⟩ := h139
        have r_g3 : mv_r g3 = mv_r h := s_g3.trans r_hz
        refine mv_iconst (pc := 142) (v := 1) B d_Exprs_endChoices_142 (by decide) ?_
        refine mv_istore (pc := 143) B d_Exprs_endChoices_143 (by decide) rfl ?_
        refine mv_lpick [1, 2, 3, 0] rfl ?_
        exact jn145 _ _ _ _ r_g3 hf
      have jn110 : ∀ (x1 : Int32) (x2 : Int32) (x3 : Int32) (x4 : Int32) (y0 : Int32) (hz : mv_H), mv_r hz = mv_r h → f_Exprs_endChoices_110 32 (f_Exprs_endChoices_2 32 nn2) x1 x2 x3 x4 y0 hz = some rg → mv_V p l e ({ frames := 2, cells := 0, slots := 0, locals := 44 }) s m ([.ref (al 22)] : List Value).toArray below meth c (mg dA D al ext) 6 0 0 (mv_Q (mg dA D al ext) below s 0 0 (mv_Rv (fun σ1 => rg = σ1 ∧ mv_r σ1 = mv_r h))) hz 110 [(0, .ref (al 22)), (1, .int x1), (2, .int x2), (3, .int x3), (4, .int x4)] [.int y0] := by
        intro x1 x2 x3 x4 y0 hz r_hz hf
        unfold f_Exprs_endChoices_110 at hf
        refine mv_istore (pc := 110) B d_Exprs_endChoices_110 (by decide) rfl ?_
        refine mv_iload (pc := 112) B d_Exprs_endChoices_112 0 rfl ?_
        refine mv_if_ne (pc := 114) (tgt := 145) B d_Exprs_endChoices_114 rfl (fun h114 => ?_) (fun h114 => ?_)
        · skip
          have hf := xif_f h114 hf
          refine mv_lpick [1, 2, 4, 0] rfl ?_
          exact jn145 _ _ _ _ r_hz hf
        · skip
          have hf := xif_t h114 hf
          refine mv_iload (pc := 117) B d_Exprs_endChoices_117 5 rfl ?_
          refine mv_iconst (pc := 119) (v := 1) B d_Exprs_endChoices_119 (by decide) ?_
          refine mv_icmp_ne (pc := 120) (tgt := 128) B d_Exprs_endChoices_120 rfl (fun h120 => ?_) (fun h120 => ?_)
          · skip
            have hf := xif_f h120 hf
            refine mv_lpick [1, 2, 4] rfl ?_
            exact jn128 _ _ _ r_hz hf
          · skip
            have hf := xif_t h120 hf
            refine mv_iload_n (pc := 123) B d_Exprs_endChoices_123 rfl 4 rfl ?_
            refine mv_iload_n (pc := 124) B d_Exprs_endChoices_124 rfl 3 rfl ?_
            refine mv_icmp_eq (pc := 125) (tgt := 145) B d_Exprs_endChoices_125 rfl (fun h125 => ?_) (fun h125 => ?_)
            · skip
              have hf := xif_t h125 hf
              refine mv_lpick [1, 2, 4, 0] rfl ?_
              exact jn145 _ _ _ _ r_hz hf
            · skip
              have hf := xif_f h125 hf
              refine mv_lpick [1, 2, 4] rfl ?_
              exact jn128 _ _ _ r_hz hf
      have jn105 : ∀ (x1 : Int32) (x2 : Int32) (x3 : Int32) (x4 : Int32) (hz : mv_H), mv_r hz = mv_r h → f_Exprs_endChoices_105 32 (f_Exprs_endChoices_2 32 nn2) x1 x2 x3 x4 hz = some rg → mv_V p l e ({ frames := 2, cells := 0, slots := 0, locals := 44 }) s m ([.ref (al 22)] : List Value).toArray below meth c (mg dA D al ext) 6 0 0 (mv_Q (mg dA D al ext) below s 0 0 (mv_Rv (fun σ1 => rg = σ1 ∧ mv_r σ1 = mv_r h))) hz 105 [(0, .ref (al 22)), (1, .int x1), (2, .int x2), (3, .int x3), (4, .int x4)] [] := by
        intro x1 x2 x3 x4 hz r_hz hf
        unfold f_Exprs_endChoices_105 at hf
        refine mv_iconst (pc := 105) (v := 1) B d_Exprs_endChoices_105 (by decide) ?_
        refine mv_goto (pc := 106) (tgt := 110) B d_Exprs_endChoices_106 rfl ?_
        refine mv_lpick [0, 1, 2, 3, 4] rfl ?_
        exact jn110 _ _ _ _ _ _ r_hz hf
      have hf : fF_Exprs_endChoices_2 32 (f_Exprs_endChoices_2 32 nn2) x1 hz = some rg := hf
      unfold fF_Exprs_endChoices_2 at hf
      refine mv_iload_n (pc := 2) B d_Exprs_endChoices_2 rfl 1 rfl ?_
      refine mv_bipush (pc := 3) (v := 60) B d_Exprs_endChoices_3 (by decide) ?_
      refine mv_icmp_gt (pc := 5) (tgt := 165) B d_Exprs_endChoices_5 rfl (fun h5 => ?_) (fun h5 => ?_)
      · skip
        have hf := xif_t h5 hf
        exact mv_vret (pc := 165) B hr d_Exprs_endChoices_165 (Nat.le_refl _) (Nat.le_refl _) ⟨rfl, xrh_v hf r_hz⟩
      · skip
        have hf := xif_f h5 hf
        refine mv_aload_n (pc := 8) B d_Exprs_endChoices_8 rfl 0 rfl ?_
        refine mv_getI (pc := 9) (ci := 6) (C := R_Exprs) (T := F_Exprs) (N := 11) B 8 rfl rfl (by decide) i_Exprs (B.2.2.2.1 _ k_202) rfl d_Exprs_endChoices_9 ?_
        refine mv_if_le (pc := 12) (tgt := 165) B d_Exprs_endChoices_12 rfl (fun h12 => ?_) (fun h12 => ?_)
        · skip
          have hf := xif_t h12 hf
          exact mv_vret (pc := 165) B hr d_Exprs_endChoices_165 (Nat.le_refl _) (Nat.le_refl _) ⟨rfl, xrh_v hf r_hz⟩
        · skip
          have hf := xif_f h12 hf
          refine mv_aload_n (pc := 15) B d_Exprs_endChoices_15 rfl 0 rfl ?_
          refine mv_getR (pc := 16) (ci := 6) (C := R_Exprs) (T := F_Exprs) (N := 11) B 4 rfl rfl (by decide) i_Exprs (B.2.2.2.1 _ k_198) rfl ((congrFun (congrFun r_hz 22) 4).trans (hb.1.1 22 4 _ rfl)) d_Exprs_endChoices_16 ?_
          refine mv_aload_n (pc := 19) B d_Exprs_endChoices_19 rfl 0 rfl ?_
          refine mv_getI (pc := 20) (ci := 6) (C := R_Exprs) (T := F_Exprs) (N := 11) B 8 rfl rfl (by decide) i_Exprs (B.2.2.2.1 _ k_202) rfl d_Exprs_endChoices_20 ?_
          refine mv_iconst (pc := 23) (v := 1) B d_Exprs_endChoices_23 (by decide) ?_
          refine mv_isub (pc := 24) B d_Exprs_endChoices_24 ?_
          obtain ⟨q4, hf⟩ := xvi_e hf
          refine mv_iald (pc := 25) B rfl q4 d_Exprs_endChoices_25 ?_
          refine mv_bipush (pc := 26) (v := 58) B d_Exprs_endChoices_26 (by decide) ?_
          refine mv_icmp_eq (pc := 28) (tgt := 32) B d_Exprs_endChoices_28 rfl (fun h28 => ?_) (fun h28 => ?_)
          · skip
            have hf := xif_t h28 hf
            refine mv_aload_n (pc := 32) B d_Exprs_endChoices_32 rfl 0 rfl ?_
            refine mv_dup (pc := 33) B d_Exprs_endChoices_33 rfl ?_
            refine mv_getI (pc := 34) (ci := 6) (C := R_Exprs) (T := F_Exprs) (N := 11) B 8 rfl rfl (by decide) i_Exprs (B.2.2.2.1 _ k_202) rfl d_Exprs_endChoices_34 ?_
            refine mv_iconst (pc := 37) (v := 1) B d_Exprs_endChoices_37 (by decide) ?_
            refine mv_isub (pc := 38) B d_Exprs_endChoices_38 ?_
            refine mv_putI (pc := 39) (ci := 6) (C := R_Exprs) (T := F_Exprs) (N := 11) B 8 rfl rfl (by decide) i_Exprs t_Exprs_ok n_Exprs (B.2.2.2.1 _ k_202) rfl rfl rfl rfl d_Exprs_endChoices_39 ?_
            refine mvh_hp (R9 := mv_r h) hf r_hz (fun g5 hf r_g5 => ?_)
            refine mv_aload_n (pc := 42) B d_Exprs_endChoices_42 rfl 0 rfl ?_
            refine mv_getR (pc := 43) (ci := 6) (C := R_Exprs) (T := F_Exprs) (N := 11) B 0 rfl rfl (by decide) i_Exprs (B.2.2.2.1 _ k_193) rfl ((congrFun (congrFun r_g5 22) 0).trans (hb.1.1 22 0 _ rfl)) d_Exprs_endChoices_43 ?_
            refine mv_dup (pc := 46) B d_Exprs_endChoices_46 rfl ?_
            refine mv_getI (pc := 47) (ci := 2) (C := R_Tokens) (T := F_Tokens) (N := 10) B 8 rfl rfl (by decide) i_Tokens (B.2.2.2.1 _ k_104) rfl d_Exprs_endChoices_47 ?_
            refine mv_iconst (pc := 50) (v := 1) B d_Exprs_endChoices_50 (by decide) ?_
            refine mv_isub (pc := 51) B d_Exprs_endChoices_51 ?_
            refine mv_putI (pc := 52) (ci := 2) (C := R_Tokens) (T := F_Tokens) (N := 10) B 8 rfl rfl (by decide) i_Tokens t_Tokens_ok n_Tokens (B.2.2.2.1 _ k_104) rfl rfl rfl rfl d_Exprs_endChoices_52 ?_
            refine mvh_hp (R9 := mv_r h) hf r_g5 (fun g6 hf r_g6 => ?_)
            refine mv_aload_n (pc := 55) B d_Exprs_endChoices_55 rfl 0 rfl ?_
            refine mv_getR (pc := 56) (ci := 6) (C := R_Exprs) (T := F_Exprs) (N := 11) B 3 rfl rfl (by decide) i_Exprs (B.2.2.2.1 _ k_197) rfl ((congrFun (congrFun r_g6 22) 3).trans hb.1.2.2.2) d_Exprs_endChoices_56 ?_
            refine mv_aload_n (pc := 59) B d_Exprs_endChoices_59 rfl 0 rfl ?_
            refine mv_getR (pc := 60) (ci := 6) (C := R_Exprs) (T := F_Exprs) (N := 11) B 6 rfl rfl (by decide) i_Exprs (B.2.2.2.1 _ k_200) rfl ((congrFun (congrFun r_g6 22) 6).trans (hb.1.1 22 6 _ rfl)) d_Exprs_endChoices_60 ?_
            refine mv_aload_n (pc := 63) B d_Exprs_endChoices_63 rfl 0 rfl ?_
            refine mv_getI (pc := 64) (ci := 6) (C := R_Exprs) (T := F_Exprs) (N := 11) B 8 rfl rfl (by decide) i_Exprs (B.2.2.2.1 _ k_202) rfl d_Exprs_endChoices_64 ?_
            obtain ⟨q7, hf⟩ := xvi_e hf
            refine mv_iald (pc := 67) B rfl q7 d_Exprs_endChoices_67 ?_
            obtain ⟨g8, eg8, hf⟩ := xhv_e hf
            refine mv_callVv (pc := 68) (n := 1) (ci := 7) (C := R_Program) B (mK_ok sk sv) hNs rfl rfl (ch_Program_aim_a l hi _ (xrw r_g6 hb) _ eg8) rfl (ma_goodc kc_Program_aim) (B.2.2.2.1 _ k_1501) (B.2.2.2.1 _ k_1403) (B.2.2.2.1 _ k_1404) (B.2.2.2.1 _ k_8) ⟨by decide +kernel, by decide +kernel, by decide +kernel⟩ rfl d_Exprs_endChoices_68 rfl (Nat.le_of_ble_eq_true rfl) ⟨by decide, by decide⟩ ⟨by decide, by decide⟩ ⟨by decide, by decide⟩ (mv_noH hno _) (fun σ68 h68 => ?_)
            obtain ⟨rfl, s_g8⟩ := h68
            have r_g8 : mv_r g8 = mv_r h := s_g8.trans r_g6
            refine mv_aload_n (pc := 71) B d_Exprs_endChoices_71 rfl 0 rfl ?_
            obtain ⟨v10, g9, eg9, hf⟩ := xhb_e hf
            refine mv_callVi (pc := 72) (n := 0) (ci := 6) (C := R_Exprs) B (mK_ok sk sv) hNs rfl rfl (ch_Exprs_release l hi _ (xrw r_g8 hb.t) eg9) rfl (ma_goodc kc_Exprs_release) (B.2.2.2.1 _ k_1469) (B.2.2.2.1 _ k_1470) (B.2.2.2.1 _ k_1471) (B.2.2.2.1 _ k_7) ⟨by decide +kernel, by decide +kernel, by decide +kernel⟩ rfl d_Exprs_endChoices_72 rfl (Nat.le_of_ble_eq_true rfl) ⟨by decide, by decide⟩ ⟨by decide, by decide⟩ ⟨by decide, by decide⟩ (mv_noH hno _) (fun w72 σ72 h72 => ?_)
            obtain ⟨rfl, rfl, s_g9⟩ := h72
            have r_g9 : mv_r g9 = mv_r h := s_g9.trans r_g8
            refine mv_istore_n (pc := 75) B d_Exprs_endChoices_75 rfl (by decide) rfl ?_
            refine mv_aload_n (pc := 76) B d_Exprs_endChoices_76 rfl 1 rfl ?_
            obtain ⟨v12, g11, eg11, hf⟩ := xhb_e hf
            refine mv_callVi (pc := 77) (n := 0) (ci := 6) (C := R_Exprs) B (mK_ok sk sv) hNs rfl rfl (ch_Exprs_release l hi _ (xrw r_g9 hb.t) eg11) rfl (ma_goodc kc_Exprs_release) (B.2.2.2.1 _ k_1469) (B.2.2.2.1 _ k_1470) (B.2.2.2.1 _ k_1471) (B.2.2.2.1 _ k_7) ⟨by decide +kernel, by decide +kernel, by decide +kernel⟩ rfl d_Exprs_endChoices_77 rfl (Nat.le_of_ble_eq_true rfl) ⟨by decide, by decide⟩ ⟨by decide, by decide⟩ ⟨by decide, by decide⟩ (mv_noH hno _) (fun w77 σ77 h77 => ?_)
            obtain ⟨rfl, rfl, s_g11⟩ := h77
            have r_g11 : mv_r g11 = mv_r h := s_g11.trans r_g9
            refine mv_istore_n (pc := 80) B d_Exprs_endChoices_80 rfl (by decide) rfl ?_
            refine mv_aload_n (pc := 81) B d_Exprs_endChoices_81 rfl 2 rfl ?_
            refine mv_getR (pc := 82) (ci := 6) (C := R_Exprs) (T := F_Exprs) (N := 11) B 7 rfl rfl (by decide) i_Exprs (B.2.2.2.1 _ k_201) rfl ((congrFun (congrFun r_g11 22) 7).trans (hb.1.1 22 7 _ rfl)) d_Exprs_endChoices_82 ?_
            refine mv_aload_n (pc := 85) B d_Exprs_endChoices_85 rfl 2 rfl ?_
            refine mv_getI (pc := 86) (ci := 6) (C := R_Exprs) (T := F_Exprs) (N := 11) B 8 rfl rfl (by decide) i_Exprs (B.2.2.2.1 _ k_202) rfl d_Exprs_endChoices_86 ?_
            obtain ⟨q13, hf⟩ := xvi_e hf
            refine mv_iald (pc := 89) B rfl q13 d_Exprs_endChoices_89 ?_
            refine mv_istore (pc := 90) B d_Exprs_endChoices_90 (by decide) rfl ?_
            refine mv_iload (pc := 92) B d_Exprs_endChoices_92 0 rfl ?_
            refine mv_if_eq (pc := 94) (tgt := 105) B d_Exprs_endChoices_94 rfl (fun h94 => ?_) (fun h94 => ?_)
            · skip
              have hf := xif_t h94 hf
              refine mv_lpick [3, 4, 2, 1, 0] rfl ?_
              exact jn105 _ _ _ _ _ r_g11 hf
            · skip
              have hf := xif_f h94 hf
              refine mv_iload_n (pc := 97) B d_Exprs_endChoices_97 rfl 1 rfl ?_
              refine mv_if_eq (pc := 98) (tgt := 105) B d_Exprs_endChoices_98 rfl (fun h98 => ?_) (fun h98 => ?_)
              · skip
                have hf := xif_t h98 hf
                refine mv_lpick [3, 4, 2, 1, 0] rfl ?_
                exact jn105 _ _ _ _ _ r_g11 hf
              · skip
                have hf := xif_f h98 hf
                refine mv_iload_n (pc := 101) B d_Exprs_endChoices_101 rfl 2 rfl ?_
                refine mv_if_ne (pc := 102) (tgt := 109) B d_Exprs_endChoices_102 rfl (fun h102 => ?_) (fun h102 => ?_)
                · skip
                  have hf := xif_f h102 hf
                  refine mv_iconst (pc := 109) (v := 0) B d_Exprs_endChoices_109 (by decide) ?_
                  refine mv_lpick [3, 4, 2, 1, 0] rfl ?_
                  exact jn110 _ _ _ _ _ _ r_g11 hf
                · skip
                  have hf := xif_t h102 hf
                  refine mv_lpick [3, 4, 2, 1, 0] rfl ?_
                  exact jn105 _ _ _ _ _ r_g11 hf
          · skip
            have hf := xif_f h28 hf
            exact mv_vret (pc := 31) B hr d_Exprs_endChoices_31 (Nat.le_refl _) (Nat.le_refl _) ⟨rfl, xrh_v hf r_hz⟩
  unfold f_Exprs_endChoices at hf
  refine mv_iconst (pc := 0) (v := 0) B d_Exprs_endChoices_0 (by decide) ?_
  refine mv_istore_n (pc := 1) B d_Exprs_endChoices_1 rfl (by decide) rfl ?_
  refine mv_lpick [1, 0] rfl ?_
  exact lp2 _ _ _ rfl hf
set_option maxHeartbeats 4000000 in
set_option maxRecDepth 100000 in
theorem ch_Exprs_endChoices_b (l : Launch) {dA : FieldType → ClassId} {D : va_G} {al : Nat → Nat} {ext : mv_Sh} {sk sv : Nat → Nat} (hi : mv_inj (mg dA D al ext)) (h : mv_H) (hb : xRP 48 (mv_r h))  {rg : mv_H} (hf : f_Exprs_endChoices 48 h = some rg) : mv_C l y_Exprs_endChoices (Cond.code y_Exprs_endChoices b_Exprs_endChoices 6 (Option.none : Option Jvm.ClassFile.FieldType) :: ma) ({ frames := 2, cells := 0, slots := 0, locals := 44 }) (mg dA D al ext) (mK sk sv) [.ref (al 22)] h (mv_Rv (fun σ1 => rg = σ1 ∧ mv_r σ1 = mv_r h)) := by
  refine mv_C.ofV (cc := b_Exprs_endChoices) (nL := 6) (ret := (Option.none : Option Jvm.ClassFile.FieldType)) (by decide +kernel) rfl hi (Nat.le_of_ble_eq_true rfl) ?_
  intro p e s m below meth c B hNs hr hnm hno
  have lp2 : ∀ (nn2 : Nat) (x1 : Int32) (hz : mv_H), mv_r hz = mv_r h → f_Exprs_endChoices_2 48 nn2 x1 hz = some rg → mv_V p l e ({ frames := 2, cells := 0, slots := 0, locals := 44 }) s m ([.ref (al 22)] : List Value).toArray below meth c (mg dA D al ext) 6 0 0 (mv_Q (mg dA D al ext) below s 0 0 (mv_Rv (fun σ1 => rg = σ1 ∧ mv_r σ1 = mv_r h))) hz 2 [(0, .ref (al 22)), (1, .int x1)] [] := by
    intro nn2
    induction nn2 with
    | zero => intro x1 hz r_hz hf; cases hf
    | succ nn2 ih2 =>
      intro x1 hz r_hz hf
      have jn156 : ∀ (x1 : Int32) (y0 : Int32) (hz : mv_H), mv_r hz = mv_r h → f_Exprs_endChoices_156 48 (f_Exprs_endChoices_2 48 nn2) x1 y0 hz = some rg → mv_V p l e ({ frames := 2, cells := 0, slots := 0, locals := 44 }) s m ([.ref (al 22)] : List Value).toArray below meth c (mg dA D al ext) 6 0 0 (mv_Q (mg dA D al ext) below s 0 0 (mv_Rv (fun σ1 => rg = σ1 ∧ mv_r σ1 = mv_r h))) hz 156 [(0, .ref (al 22)), (1, .int x1)] [.int y0, .ref (al 22)] := by
        intro x1 y0 hz r_hz hf
        unfold f_Exprs_endChoices_156 at hf
        obtain ⟨g1, eg1, hf⟩ := xhv_e hf
        refine mv_callVv (pc := 156) (n := 1) (ci := 6) (C := R_Exprs) B (mK_ok sk sv) hNs rfl rfl (ch_Exprs_hold l hi _ (xrw r_hz hb.t) _ eg1) rfl (ma_goodc kc_Exprs_hold) (B.2.2.2.1 _ k_1432) (B.2.2.2.1 _ k_1434) (B.2.2.2.1 _ ks_51) (B.2.2.2.1 _ k_7) ⟨by decide +kernel, by decide +kernel, by decide +kernel⟩ rfl d_Exprs_endChoices_156 rfl (Nat.le_of_ble_eq_true rfl) ⟨by decide, by decide⟩ ⟨by decide, by decide⟩ ⟨by decide, by decide⟩ (mv_noH hno _) (fun σ156 h156 => ?_)
        obtain ⟨rfl, s_g1⟩ := h156
        have r_g1 : mv_r g1 = mv_r h := s_g1.trans r_hz
        refine mv_iinc (pc := 159) (j := 1) (v := 1) B d_Exprs_endChoices_159 rfl (by decide) (by decide) rfl ?_
        refine mv_goto (pc := 162) (tgt := 2) B d_Exprs_endChoices_162 rfl ?_
        refine mv_lpick [1, 0] rfl ?_
        exact ih2 _ _ r_g1 hf
      have jn145 : ∀ (x1 : Int32) (x3 : Int32) (x5 : Int32) (hz : mv_H), mv_r hz = mv_r h → f_Exprs_endChoices_145 48 (f_Exprs_endChoices_2 48 nn2) x1 x3 x5 hz = some rg → mv_V p l e ({ frames := 2, cells := 0, slots := 0, locals := 44 }) s m ([.ref (al 22)] : List Value).toArray below meth c (mg dA D al ext) 6 0 0 (mv_Q (mg dA D al ext) below s 0 0 (mv_Rv (fun σ1 => rg = σ1 ∧ mv_r σ1 = mv_r h))) hz 145 [(0, .ref (al 22)), (1, .int x1), (3, .int x3), (5, .int x5)] [] := by
        intro x1 x3 x5 hz r_hz hf
        unfold f_Exprs_endChoices_145 at hf
        refine mv_aload_n (pc := 145) B d_Exprs_endChoices_145 rfl 0 rfl ?_
        refine mv_iload (pc := 146) B d_Exprs_endChoices_146 3 rfl ?_
        refine mv_if_eq (pc := 148) (tgt := 155) B d_Exprs_endChoices_148 rfl (fun h148 => ?_) (fun h148 => ?_)
        · skip
          have hf := xif_t h148 hf
          refine mv_iload_n (pc := 155) B d_Exprs_endChoices_155 rfl 2 rfl ?_
          refine mv_lpick [0, 1] rfl ?_
          exact jn156 _ _ _ r_hz hf
        · skip
          have hf := xif_f h148 hf
          refine mv_iconst (pc := 151) (v := 0) B d_Exprs_endChoices_151 (by decide) ?_
          refine mv_goto (pc := 152) (tgt := 156) B d_Exprs_endChoices_152 rfl ?_
          refine mv_lpick [0, 1] rfl ?_
          exact jn156 _ _ _ r_hz hf
      have jn128 : ∀ (x1 : Int32) (x3 : Int32) (hz : mv_H), mv_r hz = mv_r h → f_Exprs_endChoices_128 48 (f_Exprs_endChoices_2 48 nn2) x1 x3 hz = some rg → mv_V p l e ({ frames := 2, cells := 0, slots := 0, locals := 44 }) s m ([.ref (al 22)] : List Value).toArray below meth c (mg dA D al ext) 6 0 0 (mv_Q (mg dA D al ext) below s 0 0 (mv_Rv (fun σ1 => rg = σ1 ∧ mv_r σ1 = mv_r h))) hz 128 [(0, .ref (al 22)), (1, .int x1), (3, .int x3)] [] := by
        intro x1 x3 hz r_hz hf
        unfold f_Exprs_endChoices_128 at hf
        refine mv_aload_n (pc := 128) B d_Exprs_endChoices_128 rfl 0 rfl ?_
        refine mv_aload_n (pc := 129) B d_Exprs_endChoices_129 rfl 0 rfl ?_
        refine mv_getR (pc := 130) (ci := 6) (C := R_Exprs) (T := F_Exprs) (N := 11) B 5 rfl rfl (by decide) i_Exprs (B.2.2.2.1 _ k_199) rfl ((congrFun (congrFun r_hz 22) 5).trans (hb.1.1 22 5 _ rfl)) d_Exprs_endChoices_130 ?_
        refine mv_aload_n (pc := 133) B d_Exprs_endChoices_133 rfl 0 rfl ?_
        refine mv_getI (pc := 134) (ci := 6) (C := R_Exprs) (T := F_Exprs) (N := 11) B 8 rfl rfl (by decide) i_Exprs (B.2.2.2.1 _ k_202) rfl d_Exprs_endChoices_134 ?_
        obtain ⟨q2, hf⟩ := xvi_e hf
        refine mv_iald (pc := 137) B rfl q2 d_Exprs_endChoices_137 ?_
        refine mv_iconst (pc := 138) (v := 4) B d_Exprs_endChoices_138 (by decide) ?_
        obtain ⟨g3, eg3, hf⟩ := xhv_e hf
        refine mv_callVv (pc := 139) (n := 2) (ci := 6) (C := R_Exprs) B (mK_ok sk sv) hNs rfl rfl (ch_Exprs_tell l hi _ (xrw r_hz hb.t) _ _ eg3) rfl (ma_goodc kc_Exprs_tell) (B.2.2.2.1 _ k_1427) (B.2.2.2.1 _ k_1429) (B.2.2.2.1 _ ks_50) (B.2.2.2.1 _ k_7) ⟨by decide +kernel, by decide +kernel, by decide +kernel⟩ rfl d_Exprs_endChoices_139 rfl (Nat.le_of_ble_eq_true rfl) ⟨by decide, by decide⟩ ⟨by decide, by decide⟩ ⟨by decide, by decide⟩ (mv_noH hno _) (fun σ139 h139 => ?_)
        obtain ⟨rfl, s_g3⟩ := h139
        have r_g3 : mv_r g3 = mv_r h := s_g3.trans r_hz
        refine mv_iconst (pc := 142) (v := 1) B d_Exprs_endChoices_142 (by decide) ?_
        refine mv_istore (pc := 143) B d_Exprs_endChoices_143 (by decide) rfl ?_
        refine mv_lpick [1, 2, 3, 0] rfl ?_
        exact jn145 _ _ _ _ r_g3 hf
      have jn110 : ∀ (x1 : Int32) (x2 : Int32) (x3 : Int32) (x4 : Int32) (y0 : Int32) (hz : mv_H), mv_r hz = mv_r h → f_Exprs_endChoices_110 48 (f_Exprs_endChoices_2 48 nn2) x1 x2 x3 x4 y0 hz = some rg → mv_V p l e ({ frames := 2, cells := 0, slots := 0, locals := 44 }) s m ([.ref (al 22)] : List Value).toArray below meth c (mg dA D al ext) 6 0 0 (mv_Q (mg dA D al ext) below s 0 0 (mv_Rv (fun σ1 => rg = σ1 ∧ mv_r σ1 = mv_r h))) hz 110 [(0, .ref (al 22)), (1, .int x1), (2, .int x2), (3, .int x3), (4, .int x4)] [.int y0] := by
        intro x1 x2 x3 x4 y0 hz r_hz hf
        unfold f_Exprs_endChoices_110 at hf
        refine mv_istore (pc := 110) B d_Exprs_endChoices_110 (by decide) rfl ?_
        refine mv_iload (pc := 112) B d_Exprs_endChoices_112 0 rfl ?_
        refine mv_if_ne (pc := 114) (tgt := 145) B d_Exprs_endChoices_114 rfl (fun h114 => ?_) (fun h114 => ?_)
        · skip
          have hf := xif_f h114 hf
          refine mv_lpick [1, 2, 4, 0] rfl ?_
          exact jn145 _ _ _ _ r_hz hf
        · skip
          have hf := xif_t h114 hf
          refine mv_iload (pc := 117) B d_Exprs_endChoices_117 5 rfl ?_
          refine mv_iconst (pc := 119) (v := 1) B d_Exprs_endChoices_119 (by decide) ?_
          refine mv_icmp_ne (pc := 120) (tgt := 128) B d_Exprs_endChoices_120 rfl (fun h120 => ?_) (fun h120 => ?_)
          · skip
            have hf := xif_f h120 hf
            refine mv_lpick [1, 2, 4] rfl ?_
            exact jn128 _ _ _ r_hz hf
          · skip
            have hf := xif_t h120 hf
            refine mv_iload_n (pc := 123) B d_Exprs_endChoices_123 rfl 4 rfl ?_
            refine mv_iload_n (pc := 124) B d_Exprs_endChoices_124 rfl 3 rfl ?_
            refine mv_icmp_eq (pc := 125) (tgt := 145) B d_Exprs_endChoices_125 rfl (fun h125 => ?_) (fun h125 => ?_)
            · skip
              have hf := xif_t h125 hf
              refine mv_lpick [1, 2, 4, 0] rfl ?_
              exact jn145 _ _ _ _ r_hz hf
            · skip
              have hf := xif_f h125 hf
              refine mv_lpick [1, 2, 4] rfl ?_
              exact jn128 _ _ _ r_hz hf
      have jn105 : ∀ (x1 : Int32) (x2 : Int32) (x3 : Int32) (x4 : Int32) (hz : mv_H), mv_r hz = mv_r h → f_Exprs_endChoices_105 48 (f_Exprs_endChoices_2 48 nn2) x1 x2 x3 x4 hz = some rg → mv_V p l e ({ frames := 2, cells := 0, slots := 0, locals := 44 }) s m ([.ref (al 22)] : List Value).toArray below meth c (mg dA D al ext) 6 0 0 (mv_Q (mg dA D al ext) below s 0 0 (mv_Rv (fun σ1 => rg = σ1 ∧ mv_r σ1 = mv_r h))) hz 105 [(0, .ref (al 22)), (1, .int x1), (2, .int x2), (3, .int x3), (4, .int x4)] [] := by
        intro x1 x2 x3 x4 hz r_hz hf
        unfold f_Exprs_endChoices_105 at hf
        refine mv_iconst (pc := 105) (v := 1) B d_Exprs_endChoices_105 (by decide) ?_
        refine mv_goto (pc := 106) (tgt := 110) B d_Exprs_endChoices_106 rfl ?_
        refine mv_lpick [0, 1, 2, 3, 4] rfl ?_
        exact jn110 _ _ _ _ _ _ r_hz hf
      have hf : fF_Exprs_endChoices_2 48 (f_Exprs_endChoices_2 48 nn2) x1 hz = some rg := hf
      unfold fF_Exprs_endChoices_2 at hf
      refine mv_iload_n (pc := 2) B d_Exprs_endChoices_2 rfl 1 rfl ?_
      refine mv_bipush (pc := 3) (v := 60) B d_Exprs_endChoices_3 (by decide) ?_
      refine mv_icmp_gt (pc := 5) (tgt := 165) B d_Exprs_endChoices_5 rfl (fun h5 => ?_) (fun h5 => ?_)
      · skip
        have hf := xif_t h5 hf
        exact mv_vret (pc := 165) B hr d_Exprs_endChoices_165 (Nat.le_refl _) (Nat.le_refl _) ⟨rfl, xrh_v hf r_hz⟩
      · skip
        have hf := xif_f h5 hf
        refine mv_aload_n (pc := 8) B d_Exprs_endChoices_8 rfl 0 rfl ?_
        refine mv_getI (pc := 9) (ci := 6) (C := R_Exprs) (T := F_Exprs) (N := 11) B 8 rfl rfl (by decide) i_Exprs (B.2.2.2.1 _ k_202) rfl d_Exprs_endChoices_9 ?_
        refine mv_if_le (pc := 12) (tgt := 165) B d_Exprs_endChoices_12 rfl (fun h12 => ?_) (fun h12 => ?_)
        · skip
          have hf := xif_t h12 hf
          exact mv_vret (pc := 165) B hr d_Exprs_endChoices_165 (Nat.le_refl _) (Nat.le_refl _) ⟨rfl, xrh_v hf r_hz⟩
        · skip
          have hf := xif_f h12 hf
          refine mv_aload_n (pc := 15) B d_Exprs_endChoices_15 rfl 0 rfl ?_
          refine mv_getR (pc := 16) (ci := 6) (C := R_Exprs) (T := F_Exprs) (N := 11) B 4 rfl rfl (by decide) i_Exprs (B.2.2.2.1 _ k_198) rfl ((congrFun (congrFun r_hz 22) 4).trans (hb.1.1 22 4 _ rfl)) d_Exprs_endChoices_16 ?_
          refine mv_aload_n (pc := 19) B d_Exprs_endChoices_19 rfl 0 rfl ?_
          refine mv_getI (pc := 20) (ci := 6) (C := R_Exprs) (T := F_Exprs) (N := 11) B 8 rfl rfl (by decide) i_Exprs (B.2.2.2.1 _ k_202) rfl d_Exprs_endChoices_20 ?_
          refine mv_iconst (pc := 23) (v := 1) B d_Exprs_endChoices_23 (by decide) ?_
          refine mv_isub (pc := 24) B d_Exprs_endChoices_24 ?_
          obtain ⟨q4, hf⟩ := xvi_e hf
          refine mv_iald (pc := 25) B rfl q4 d_Exprs_endChoices_25 ?_
          refine mv_bipush (pc := 26) (v := 58) B d_Exprs_endChoices_26 (by decide) ?_
          refine mv_icmp_eq (pc := 28) (tgt := 32) B d_Exprs_endChoices_28 rfl (fun h28 => ?_) (fun h28 => ?_)
          · skip
            have hf := xif_t h28 hf
            refine mv_aload_n (pc := 32) B d_Exprs_endChoices_32 rfl 0 rfl ?_
            refine mv_dup (pc := 33) B d_Exprs_endChoices_33 rfl ?_
            refine mv_getI (pc := 34) (ci := 6) (C := R_Exprs) (T := F_Exprs) (N := 11) B 8 rfl rfl (by decide) i_Exprs (B.2.2.2.1 _ k_202) rfl d_Exprs_endChoices_34 ?_
            refine mv_iconst (pc := 37) (v := 1) B d_Exprs_endChoices_37 (by decide) ?_
            refine mv_isub (pc := 38) B d_Exprs_endChoices_38 ?_
            refine mv_putI (pc := 39) (ci := 6) (C := R_Exprs) (T := F_Exprs) (N := 11) B 8 rfl rfl (by decide) i_Exprs t_Exprs_ok n_Exprs (B.2.2.2.1 _ k_202) rfl rfl rfl rfl d_Exprs_endChoices_39 ?_
            refine mvh_hp (R9 := mv_r h) hf r_hz (fun g5 hf r_g5 => ?_)
            refine mv_aload_n (pc := 42) B d_Exprs_endChoices_42 rfl 0 rfl ?_
            refine mv_getR (pc := 43) (ci := 6) (C := R_Exprs) (T := F_Exprs) (N := 11) B 0 rfl rfl (by decide) i_Exprs (B.2.2.2.1 _ k_193) rfl ((congrFun (congrFun r_g5 22) 0).trans (hb.1.1 22 0 _ rfl)) d_Exprs_endChoices_43 ?_
            refine mv_dup (pc := 46) B d_Exprs_endChoices_46 rfl ?_
            refine mv_getI (pc := 47) (ci := 2) (C := R_Tokens) (T := F_Tokens) (N := 10) B 8 rfl rfl (by decide) i_Tokens (B.2.2.2.1 _ k_104) rfl d_Exprs_endChoices_47 ?_
            refine mv_iconst (pc := 50) (v := 1) B d_Exprs_endChoices_50 (by decide) ?_
            refine mv_isub (pc := 51) B d_Exprs_endChoices_51 ?_
            refine mv_putI (pc := 52) (ci := 2) (C := R_Tokens) (T := F_Tokens) (N := 10) B 8 rfl rfl (by decide) i_Tokens t_Tokens_ok n_Tokens (B.2.2.2.1 _ k_104) rfl rfl rfl rfl d_Exprs_endChoices_52 ?_
            refine mvh_hp (R9 := mv_r h) hf r_g5 (fun g6 hf r_g6 => ?_)
            refine mv_aload_n (pc := 55) B d_Exprs_endChoices_55 rfl 0 rfl ?_
            refine mv_getR (pc := 56) (ci := 6) (C := R_Exprs) (T := F_Exprs) (N := 11) B 3 rfl rfl (by decide) i_Exprs (B.2.2.2.1 _ k_197) rfl ((congrFun (congrFun r_g6 22) 3).trans hb.1.2.2.2) d_Exprs_endChoices_56 ?_
            refine mv_aload_n (pc := 59) B d_Exprs_endChoices_59 rfl 0 rfl ?_
            refine mv_getR (pc := 60) (ci := 6) (C := R_Exprs) (T := F_Exprs) (N := 11) B 6 rfl rfl (by decide) i_Exprs (B.2.2.2.1 _ k_200) rfl ((congrFun (congrFun r_g6 22) 6).trans (hb.1.1 22 6 _ rfl)) d_Exprs_endChoices_60 ?_
            refine mv_aload_n (pc := 63) B d_Exprs_endChoices_63 rfl 0 rfl ?_
            refine mv_getI (pc := 64) (ci := 6) (C := R_Exprs) (T := F_Exprs) (N := 11) B 8 rfl rfl (by decide) i_Exprs (B.2.2.2.1 _ k_202) rfl d_Exprs_endChoices_64 ?_
            obtain ⟨q7, hf⟩ := xvi_e hf
            refine mv_iald (pc := 67) B rfl q7 d_Exprs_endChoices_67 ?_
            obtain ⟨g8, eg8, hf⟩ := xhv_e hf
            refine mv_callVv (pc := 68) (n := 1) (ci := 7) (C := R_Program) B (mK_ok sk sv) hNs rfl rfl (ch_Program_aim_b l hi _ (xrw r_g6 hb) _ eg8) rfl (ma_goodc kc_Program_aim) (B.2.2.2.1 _ k_1501) (B.2.2.2.1 _ k_1403) (B.2.2.2.1 _ k_1404) (B.2.2.2.1 _ k_8) ⟨by decide +kernel, by decide +kernel, by decide +kernel⟩ rfl d_Exprs_endChoices_68 rfl (Nat.le_of_ble_eq_true rfl) ⟨by decide, by decide⟩ ⟨by decide, by decide⟩ ⟨by decide, by decide⟩ (mv_noH hno _) (fun σ68 h68 => ?_)
            obtain ⟨rfl, s_g8⟩ := h68
            have r_g8 : mv_r g8 = mv_r h := s_g8.trans r_g6
            refine mv_aload_n (pc := 71) B d_Exprs_endChoices_71 rfl 0 rfl ?_
            obtain ⟨v10, g9, eg9, hf⟩ := xhb_e hf
            refine mv_callVi (pc := 72) (n := 0) (ci := 6) (C := R_Exprs) B (mK_ok sk sv) hNs rfl rfl (ch_Exprs_release l hi _ (xrw r_g8 hb.t) eg9) rfl (ma_goodc kc_Exprs_release) (B.2.2.2.1 _ k_1469) (B.2.2.2.1 _ k_1470) (B.2.2.2.1 _ k_1471) (B.2.2.2.1 _ k_7) ⟨by decide +kernel, by decide +kernel, by decide +kernel⟩ rfl d_Exprs_endChoices_72 rfl (Nat.le_of_ble_eq_true rfl) ⟨by decide, by decide⟩ ⟨by decide, by decide⟩ ⟨by decide, by decide⟩ (mv_noH hno _) (fun w72 σ72 h72 => ?_)
            obtain ⟨rfl, rfl, s_g9⟩ := h72
            have r_g9 : mv_r g9 = mv_r h := s_g9.trans r_g8
            refine mv_istore_n (pc := 75) B d_Exprs_endChoices_75 rfl (by decide) rfl ?_
            refine mv_aload_n (pc := 76) B d_Exprs_endChoices_76 rfl 1 rfl ?_
            obtain ⟨v12, g11, eg11, hf⟩ := xhb_e hf
            refine mv_callVi (pc := 77) (n := 0) (ci := 6) (C := R_Exprs) B (mK_ok sk sv) hNs rfl rfl (ch_Exprs_release l hi _ (xrw r_g9 hb.t) eg11) rfl (ma_goodc kc_Exprs_release) (B.2.2.2.1 _ k_1469) (B.2.2.2.1 _ k_1470) (B.2.2.2.1 _ k_1471) (B.2.2.2.1 _ k_7) ⟨by decide +kernel, by decide +kernel, by decide +kernel⟩ rfl d_Exprs_endChoices_77 rfl (Nat.le_of_ble_eq_true rfl) ⟨by decide, by decide⟩ ⟨by decide, by decide⟩ ⟨by decide, by decide⟩ (mv_noH hno _) (fun w77 σ77 h77 => ?_)
            obtain ⟨rfl, rfl, s_g11⟩ := h77
            have r_g11 : mv_r g11 = mv_r h := s_g11.trans r_g9
            refine mv_istore_n (pc := 80) B d_Exprs_endChoices_80 rfl (by decide) rfl ?_
            refine mv_aload_n (pc := 81) B d_Exprs_endChoices_81 rfl 2 rfl ?_
            refine mv_getR (pc := 82) (ci := 6) (C := R_Exprs) (T := F_Exprs) (N := 11) B 7 rfl rfl (by decide) i_Exprs (B.2.2.2.1 _ k_201) rfl ((congrFun (congrFun r_g11 22) 7).trans (hb.1.1 22 7 _ rfl)) d_Exprs_endChoices_82 ?_
            refine mv_aload_n (pc := 85) B d_Exprs_endChoices_85 rfl 2 rfl ?_
            refine mv_getI (pc := 86) (ci := 6) (C := R_Exprs) (T := F_Exprs) (N := 11) B 8 rfl rfl (by decide) i_Exprs (B.2.2.2.1 _ k_202) rfl d_Exprs_endChoices_86 ?_
            obtain ⟨q13, hf⟩ := xvi_e hf
            refine mv_iald (pc := 89) B rfl q13 d_Exprs_endChoices_89 ?_
            refine mv_istore (pc := 90) B d_Exprs_endChoices_90 (by decide) rfl ?_
            refine mv_iload (pc := 92) B d_Exprs_endChoices_92 0 rfl ?_
            refine mv_if_eq (pc := 94) (tgt := 105) B d_Exprs_endChoices_94 rfl (fun h94 => ?_) (fun h94 => ?_)
            · skip
              have hf := xif_t h94 hf
              refine mv_lpick [3, 4, 2, 1, 0] rfl ?_
              exact jn105 _ _ _ _ _ r_g11 hf
            · skip
              have hf := xif_f h94 hf
              refine mv_iload_n (pc := 97) B d_Exprs_endChoices_97 rfl 1 rfl ?_
              refine mv_if_eq (pc := 98) (tgt := 105) B d_Exprs_endChoices_98 rfl (fun h98 => ?_) (fun h98 => ?_)
              · skip
                have hf := xif_t h98 hf
                refine mv_lpick [3, 4, 2, 1, 0] rfl ?_
                exact jn105 _ _ _ _ _ r_g11 hf
              · skip
                have hf := xif_f h98 hf
                refine mv_iload_n (pc := 101) B d_Exprs_endChoices_101 rfl 2 rfl ?_
                refine mv_if_ne (pc := 102) (tgt := 109) B d_Exprs_endChoices_102 rfl (fun h102 => ?_) (fun h102 => ?_)
                · skip
                  have hf := xif_f h102 hf
                  refine mv_iconst (pc := 109) (v := 0) B d_Exprs_endChoices_109 (by decide) ?_
                  refine mv_lpick [3, 4, 2, 1, 0] rfl ?_
                  exact jn110 _ _ _ _ _ _ r_g11 hf
                · skip
                  have hf := xif_t h102 hf
                  refine mv_lpick [3, 4, 2, 1, 0] rfl ?_
                  exact jn105 _ _ _ _ _ r_g11 hf
          · skip
            have hf := xif_f h28 hf
            exact mv_vret (pc := 31) B hr d_Exprs_endChoices_31 (Nat.le_refl _) (Nat.le_refl _) ⟨rfl, xrh_v hf r_hz⟩
  unfold f_Exprs_endChoices at hf
  refine mv_iconst (pc := 0) (v := 0) B d_Exprs_endChoices_0 (by decide) ?_
  refine mv_istore_n (pc := 1) B d_Exprs_endChoices_1 rfl (by decide) rfl ?_
  refine mv_lpick [1, 0] rfl ?_
  exact lp2 _ _ _ rfl hf
def f_Exprs_join_136 (P : Nat) (x3 : Int32) (hz : mv_H) : Option (Int32 × mv_H) := xhv (f_Exprs_hold hz x3) fun g1 => some ((1 : Int32), g1)
def f_Exprs_join_61 (P : Nat) (x1 : Int32) (x2 : Int32) (hz : mv_H) : Option (Int32 × mv_H) := bif xvi x2 1024 then bif xvi x2 1024 then xk (mv_sa hz 25 (x2).toNatClampNeg ((mv_a hz 25 (x2).toNatClampNeg) + (1 : Int32))) fun g4 => if x1 = (44 : Int32) then (xhb (f_Tokens_take g4 (44 : Int32)) fun v13 g12 => some ((0 : Int32), g12)) else (xhb (f_Tokens_close g4 (125 : Int32)) fun v6 g5 => xk (mv_si g5 22 8 ((mv_i g5 22 8) - (1 : Int32))) fun g7 => xhb (f_Exprs_release g7) fun v9 g8 => if v9 ≤ (64 : Int32) then (f_Exprs_join_136 P v9 g8) else (bif xvi (mv_i g8 22 8) 1024 then xhv (f_Exprs_tell g8 (mv_a g8 24 ((mv_i g8 22 8)).toNatClampNeg) (4 : Int32)) fun g11 => f_Exprs_join_136 P (0 : Int32) g11 else none)) else none else none
def f_Exprs_join_58 (P : Nat) (x1 : Int32) (x2 : Int32) (y0 : Int32) (hz : mv_H) : Option (Int32 × mv_H) := xhv (f_Exprs_hold hz y0) fun g14 => f_Exprs_join_61 P x1 x2 g14
def f_Exprs_join_50 (P : Nat) (x1 : Int32) (x2 : Int32) (hz : mv_H) : Option (Int32 × mv_H) := f_Exprs_join_58 P x1 x2 (0 : Int32) hz
def f_Exprs_join (P : Nat) (h : mv_H) (a0 : Int32) : Option (Int32 × mv_H) := bif xvi ((mv_i h 22 8) - (1 : Int32)) 1024 then if (mv_a h 25 (((mv_i h 22 8) - (1 : Int32))).toNatClampNeg) ≤ (0 : Int32) then (f_Exprs_join_61 P a0 ((mv_i h 22 8) - (1 : Int32)) h) else (xhb (f_Exprs_release h) fun v17 g16 => xhb (f_Exprs_release g16) fun v19 g18 => xhb (f_Program_emit P g18 (309 : Int32) ((v17).toInt64)) fun v21 g20 => if v19 = (0 : Int32) then (f_Exprs_join_50 P a0 ((mv_i h 22 8) - (1 : Int32)) g20) else (if v17 = (0 : Int32) then (f_Exprs_join_50 P a0 ((mv_i h 22 8) - (1 : Int32)) g20) else (f_Exprs_join_58 P a0 ((mv_i h 22 8) - (1 : Int32)) (v19 + v17) g20))) else none
set_option maxHeartbeats 4000000 in
set_option maxRecDepth 100000 in
theorem ch_Exprs_join_a (l : Launch) {dA : FieldType → ClassId} {D : va_G} {al : Nat → Nat} {ext : mv_Sh} {sk sv : Nat → Nat} (hi : mv_inj (mg dA D al ext)) (h : mv_H) (hb : xRP 32 (mv_r h))  (a0 : Int32) {rv : Int32} {rg : mv_H} (hf : f_Exprs_join 32 h a0 = some (rv, rg)) : mv_C l y_Exprs_join (Cond.code y_Exprs_join b_Exprs_join 5 (Option.some Jvm.ClassFile.FieldType.int) :: ma) ({ frames := 3, cells := 0, slots := 0, locals := 63 }) (mg dA D al ext) (mK sk sv) [.ref (al 22), .int a0] h (mv_Ri (fun v σ1 => rv = v ∧ rg = σ1 ∧ mv_r σ1 = mv_r h)) := by
  refine mv_C.ofV (cc := b_Exprs_join) (nL := 5) (ret := (Option.some Jvm.ClassFile.FieldType.int)) (by decide +kernel) rfl hi (Nat.le_of_ble_eq_true rfl) ?_
  intro p e s m below meth c B hNs hr hnm hno
  have jn136 : ∀ (x3 : Int32) (hz : mv_H), mv_r hz = mv_r h → f_Exprs_join_136 32 x3 hz = some (rv, rg) → mv_V p l e ({ frames := 3, cells := 0, slots := 0, locals := 63 }) s m ([.ref (al 22), .int a0] : List Value).toArray below meth c (mg dA D al ext) 5 0 0 (mv_Q (mg dA D al ext) below s 0 0 (mv_Ri (fun v σ1 => rv = v ∧ rg = σ1 ∧ mv_r σ1 = mv_r h))) hz 136 [(0, .ref (al 22)), (3, .int x3)] [] := by
    intro x3 hz r_hz hf
    unfold f_Exprs_join_136 at hf
    refine mv_aload_n (pc := 136) B d_Exprs_join_136 rfl 0 rfl ?_
    refine mv_iload_n (pc := 137) B d_Exprs_join_137 rfl 1 rfl ?_
    obtain ⟨g1, eg1, hf⟩ := xhv_e hf
    refine mv_callVv (pc := 138) (n := 1) (ci := 6) (C := R_Exprs) B (mK_ok sk sv) hNs rfl rfl (ch_Exprs_hold l hi _ (xrw r_hz hb.t) _ eg1) rfl (ma_goodc kc_Exprs_hold) (B.2.2.2.1 _ k_1432) (B.2.2.2.1 _ k_1434) (B.2.2.2.1 _ ks_51) (B.2.2.2.1 _ k_7) ⟨by decide +kernel, by decide +kernel, by decide +kernel⟩ rfl d_Exprs_join_138 rfl (Nat.le_of_ble_eq_true rfl) ⟨by decide, by decide⟩ ⟨by decide, by decide⟩ ⟨by decide, by decide⟩ (mv_noH hno _) (fun σ138 h138 => ?_)
    obtain ⟨rfl, s_g1⟩ := h138
    have r_g1 : mv_r g1 = mv_r h := s_g1.trans r_hz
    refine mv_iconst (pc := 141) (v := 1) B d_Exprs_join_141 (by decide) ?_
    exact mv_iret (pc := 142) B hr rfl d_Exprs_join_142 (Nat.le_refl _) (Nat.le_refl _) ⟨_, rfl, xrh_i hf r_g1⟩
  have jn61 : ∀ (x1 : Int32) (x2 : Int32) (hz : mv_H), mv_r hz = mv_r h → f_Exprs_join_61 32 x1 x2 hz = some (rv, rg) → mv_V p l e ({ frames := 3, cells := 0, slots := 0, locals := 63 }) s m ([.ref (al 22), .int a0] : List Value).toArray below meth c (mg dA D al ext) 5 0 0 (mv_Q (mg dA D al ext) below s 0 0 (mv_Ri (fun v σ1 => rv = v ∧ rg = σ1 ∧ mv_r σ1 = mv_r h))) hz 61 [(0, .ref (al 22)), (1, .int x1), (2, .int x2)] [] := by
    intro x1 x2 hz r_hz hf
    unfold f_Exprs_join_61 at hf
    refine mv_aload_n (pc := 61) B d_Exprs_join_61 rfl 0 rfl ?_
    refine mv_getR (pc := 62) (ci := 6) (C := R_Exprs) (T := F_Exprs) (N := 11) B 6 rfl rfl (by decide) i_Exprs (B.2.2.2.1 _ k_200) rfl ((congrFun (congrFun r_hz 22) 6).trans (hb.1.1 22 6 _ rfl)) d_Exprs_join_62 ?_
    refine mv_iload_n (pc := 65) B d_Exprs_join_65 rfl 2 rfl ?_
    refine mv_dup2_11 (pc := 66) B d_Exprs_join_66 rfl rfl ?_
    obtain ⟨q2, hf⟩ := xvi_e hf
    refine mv_iald (pc := 67) B rfl q2 d_Exprs_join_67 ?_
    refine mv_iconst (pc := 68) (v := 1) B d_Exprs_join_68 (by decide) ?_
    refine mv_iadd (pc := 69) B d_Exprs_join_69 ?_
    obtain ⟨q3, hf⟩ := xvi_e hf
    refine mv_iast (pc := 70) B rfl q3 d_Exprs_join_70 ?_
    refine mvh_hp (R9 := mv_r h) hf r_hz (fun g4 hf r_g4 => ?_)
    refine mv_iload_n (pc := 71) B d_Exprs_join_71 rfl 1 rfl ?_
    refine mv_bipush (pc := 72) (v := 44) B d_Exprs_join_72 (by decide) ?_
    refine mv_icmp_ne (pc := 74) (tgt := 89) B d_Exprs_join_74 rfl (fun h74 => ?_) (fun h74 => ?_)
    · skip
      have hf := xif_f h74 hf
      refine mv_aload_n (pc := 89) B d_Exprs_join_89 rfl 0 rfl ?_
      refine mv_getR (pc := 90) (ci := 6) (C := R_Exprs) (T := F_Exprs) (N := 11) B 0 rfl rfl (by decide) i_Exprs (B.2.2.2.1 _ k_193) rfl ((congrFun (congrFun r_g4 22) 0).trans (hb.1.1 22 0 _ rfl)) d_Exprs_join_90 ?_
      refine mv_bipush (pc := 93) (v := 125) B d_Exprs_join_93 (by decide) ?_
      obtain ⟨v6, g5, eg5, hf⟩ := xhb_e hf
      refine mv_callVi (pc := 95) (n := 1) (ci := 2) (C := R_Tokens) B (mK_ok sk sv) hNs rfl rfl (ch_Tokens_close l hi _ (xrw r_g4 hb.t) _ eg5) rfl (ma_goodc kc_Tokens_close) (B.2.2.2.1 _ k_1468) (B.2.2.2.1 _ k_1397) (B.2.2.2.1 _ k_1398) (B.2.2.2.1 _ k_3) ⟨by decide +kernel, by decide +kernel, by decide +kernel⟩ rfl d_Exprs_join_95 rfl (Nat.le_of_ble_eq_true rfl) ⟨by decide, by decide⟩ ⟨by decide, by decide⟩ ⟨by decide, by decide⟩ (mv_noH hno _) (fun w95 σ95 h95 => ?_)
      obtain ⟨rfl, rfl, s_g5⟩ := h95
      have r_g5 : mv_r g5 = mv_r h := s_g5.trans r_g4
      refine mv_pop (pc := 98) B d_Exprs_join_98 rfl ?_
      refine mv_aload_n (pc := 99) B d_Exprs_join_99 rfl 0 rfl ?_
      refine mv_dup (pc := 100) B d_Exprs_join_100 rfl ?_
      refine mv_getI (pc := 101) (ci := 6) (C := R_Exprs) (T := F_Exprs) (N := 11) B 8 rfl rfl (by decide) i_Exprs (B.2.2.2.1 _ k_202) rfl d_Exprs_join_101 ?_
      refine mv_iconst (pc := 104) (v := 1) B d_Exprs_join_104 (by decide) ?_
      refine mv_isub (pc := 105) B d_Exprs_join_105 ?_
      refine mv_putI (pc := 106) (ci := 6) (C := R_Exprs) (T := F_Exprs) (N := 11) B 8 rfl rfl (by decide) i_Exprs t_Exprs_ok n_Exprs (B.2.2.2.1 _ k_202) rfl rfl rfl rfl d_Exprs_join_106 ?_
      refine mvh_hp (R9 := mv_r h) hf r_g5 (fun g7 hf r_g7 => ?_)
      refine mv_aload_n (pc := 109) B d_Exprs_join_109 rfl 0 rfl ?_
      obtain ⟨v9, g8, eg8, hf⟩ := xhb_e hf
      refine mv_callVi (pc := 110) (n := 0) (ci := 6) (C := R_Exprs) B (mK_ok sk sv) hNs rfl rfl (ch_Exprs_release l hi _ (xrw r_g7 hb.t) eg8) rfl (ma_goodc kc_Exprs_release) (B.2.2.2.1 _ k_1469) (B.2.2.2.1 _ k_1470) (B.2.2.2.1 _ k_1471) (B.2.2.2.1 _ k_7) ⟨by decide +kernel, by decide +kernel, by decide +kernel⟩ rfl d_Exprs_join_110 rfl (Nat.le_of_ble_eq_true rfl) ⟨by decide, by decide⟩ ⟨by decide, by decide⟩ ⟨by decide, by decide⟩ (mv_noH hno _) (fun w110 σ110 h110 => ?_)
      obtain ⟨rfl, rfl, s_g8⟩ := h110
      have r_g8 : mv_r g8 = mv_r h := s_g8.trans r_g7
      refine mv_istore_n (pc := 113) B d_Exprs_join_113 rfl (by decide) rfl ?_
      refine mv_iload_n (pc := 114) B d_Exprs_join_114 rfl 0 rfl ?_
      refine mv_bipush (pc := 115) (v := 64) B d_Exprs_join_115 (by decide) ?_
      refine mv_icmp_le (pc := 117) (tgt := 136) B d_Exprs_join_117 rfl (fun h117 => ?_) (fun h117 => ?_)
      · skip
        have hf := xif_t h117 hf
        refine mv_lpick [1, 0] rfl ?_
        exact jn136 _ _ r_g8 hf
      · skip
        have hf := xif_f h117 hf
        refine mv_aload_n (pc := 120) B d_Exprs_join_120 rfl 1 rfl ?_
        refine mv_aload_n (pc := 121) B d_Exprs_join_121 rfl 1 rfl ?_
        refine mv_getR (pc := 122) (ci := 6) (C := R_Exprs) (T := F_Exprs) (N := 11) B 5 rfl rfl (by decide) i_Exprs (B.2.2.2.1 _ k_199) rfl ((congrFun (congrFun r_g8 22) 5).trans (hb.1.1 22 5 _ rfl)) d_Exprs_join_122 ?_
        refine mv_aload_n (pc := 125) B d_Exprs_join_125 rfl 1 rfl ?_
        refine mv_getI (pc := 126) (ci := 6) (C := R_Exprs) (T := F_Exprs) (N := 11) B 8 rfl rfl (by decide) i_Exprs (B.2.2.2.1 _ k_202) rfl d_Exprs_join_126 ?_
        obtain ⟨q10, hf⟩ := xvi_e hf
        refine mv_iald (pc := 129) B rfl q10 d_Exprs_join_129 ?_
        refine mv_iconst (pc := 130) (v := 4) B d_Exprs_join_130 (by decide) ?_
        obtain ⟨g11, eg11, hf⟩ := xhv_e hf
        refine mv_callVv (pc := 131) (n := 2) (ci := 6) (C := R_Exprs) B (mK_ok sk sv) hNs rfl rfl (ch_Exprs_tell l hi _ (xrw r_g8 hb.t) _ _ eg11) rfl (ma_goodc kc_Exprs_tell) (B.2.2.2.1 _ k_1427) (B.2.2.2.1 _ k_1429) (B.2.2.2.1 _ ks_50) (B.2.2.2.1 _ k_7) ⟨by decide +kernel, by decide +kernel, by decide +kernel⟩ rfl d_Exprs_join_131 rfl (Nat.le_of_ble_eq_true rfl) ⟨by decide, by decide⟩ ⟨by decide, by decide⟩ ⟨by decide, by decide⟩ (mv_noH hno _) (fun σ131 h131 => ?_)
        obtain ⟨rfl, s_g11⟩ := h131
        have r_g11 : mv_r g11 = mv_r h := s_g11.trans r_g8
        refine mv_iconst (pc := 134) (v := 0) B d_Exprs_join_134 (by decide) ?_
        refine mv_istore_n (pc := 135) B d_Exprs_join_135 rfl (by decide) rfl ?_
        refine mv_lpick [1, 0] rfl ?_
        exact jn136 _ _ r_g11 hf
    · skip
      have hf := xif_t h74 hf
      refine mv_aload_n (pc := 77) B d_Exprs_join_77 rfl 0 rfl ?_
      refine mv_getR (pc := 78) (ci := 6) (C := R_Exprs) (T := F_Exprs) (N := 11) B 0 rfl rfl (by decide) i_Exprs (B.2.2.2.1 _ k_193) rfl ((congrFun (congrFun r_g4 22) 0).trans (hb.1.1 22 0 _ rfl)) d_Exprs_join_78 ?_
      refine mv_bipush (pc := 81) (v := 44) B d_Exprs_join_81 (by decide) ?_
      obtain ⟨v13, g12, eg12, hf⟩ := xhb_e hf
      refine mv_callVi (pc := 83) (n := 1) (ci := 2) (C := R_Tokens) B (mK_ok sk sv) hNs rfl rfl (ch_Tokens_take l hi _ (xrw r_g4 hb.t) _ eg12) rfl (ma_goodc kc_Tokens_take) (B.2.2.2.1 _ k_1424) (B.2.2.2.1 _ k_1267) (B.2.2.2.1 _ k_1268) (B.2.2.2.1 _ k_3) ⟨by decide +kernel, by decide +kernel, by decide +kernel⟩ rfl d_Exprs_join_83 rfl (Nat.le_of_ble_eq_true rfl) ⟨by decide, by decide⟩ ⟨by decide, by decide⟩ ⟨by decide, by decide⟩ (mv_noH hno _) (fun w83 σ83 h83 => ?_)
      obtain ⟨rfl, rfl, s_g12⟩ := h83
      have r_g12 : mv_r g12 = mv_r h := s_g12.trans r_g4
      refine mv_pop (pc := 86) B d_Exprs_join_86 rfl ?_
      refine mv_iconst (pc := 87) (v := 0) B d_Exprs_join_87 (by decide) ?_
      exact mv_iret (pc := 88) B hr rfl d_Exprs_join_88 (Nat.le_refl _) (Nat.le_refl _) ⟨_, rfl, xrh_i hf r_g12⟩
  have jn58 : ∀ (x1 : Int32) (x2 : Int32) (y0 : Int32) (hz : mv_H), mv_r hz = mv_r h → f_Exprs_join_58 32 x1 x2 y0 hz = some (rv, rg) → mv_V p l e ({ frames := 3, cells := 0, slots := 0, locals := 63 }) s m ([.ref (al 22), .int a0] : List Value).toArray below meth c (mg dA D al ext) 5 0 0 (mv_Q (mg dA D al ext) below s 0 0 (mv_Ri (fun v σ1 => rv = v ∧ rg = σ1 ∧ mv_r σ1 = mv_r h))) hz 58 [(0, .ref (al 22)), (1, .int x1), (2, .int x2)] [.int y0, .ref (al 22)] := by
    intro x1 x2 y0 hz r_hz hf
    unfold f_Exprs_join_58 at hf
    obtain ⟨g14, eg14, hf⟩ := xhv_e hf
    refine mv_callVv (pc := 58) (n := 1) (ci := 6) (C := R_Exprs) B (mK_ok sk sv) hNs rfl rfl (ch_Exprs_hold l hi _ (xrw r_hz hb.t) _ eg14) rfl (ma_goodc kc_Exprs_hold) (B.2.2.2.1 _ k_1432) (B.2.2.2.1 _ k_1434) (B.2.2.2.1 _ ks_51) (B.2.2.2.1 _ k_7) ⟨by decide +kernel, by decide +kernel, by decide +kernel⟩ rfl d_Exprs_join_58 rfl (Nat.le_of_ble_eq_true rfl) ⟨by decide, by decide⟩ ⟨by decide, by decide⟩ ⟨by decide, by decide⟩ (mv_noH hno _) (fun σ58 h58 => ?_)
    obtain ⟨rfl, s_g14⟩ := h58
    have r_g14 : mv_r g14 = mv_r h := s_g14.trans r_hz
    refine mv_lpick [0, 1, 2] rfl ?_
    exact jn61 _ _ _ r_g14 hf
  have jn50 : ∀ (x1 : Int32) (x2 : Int32) (hz : mv_H), mv_r hz = mv_r h → f_Exprs_join_50 32 x1 x2 hz = some (rv, rg) → mv_V p l e ({ frames := 3, cells := 0, slots := 0, locals := 63 }) s m ([.ref (al 22), .int a0] : List Value).toArray below meth c (mg dA D al ext) 5 0 0 (mv_Q (mg dA D al ext) below s 0 0 (mv_Ri (fun v σ1 => rv = v ∧ rg = σ1 ∧ mv_r σ1 = mv_r h))) hz 50 [(0, .ref (al 22)), (1, .int x1), (2, .int x2)] [.ref (al 22)] := by
    intro x1 x2 hz r_hz hf
    unfold f_Exprs_join_50 at hf
    refine mv_iconst (pc := 50) (v := 0) B d_Exprs_join_50 (by decide) ?_
    refine mv_goto (pc := 51) (tgt := 58) B d_Exprs_join_51 rfl ?_
    refine mv_lpick [0, 1, 2] rfl ?_
    exact jn58 _ _ _ _ r_hz hf
  unfold f_Exprs_join at hf
  refine mv_aload_n (pc := 0) B d_Exprs_join_0 rfl 0 rfl ?_
  refine mv_getI (pc := 1) (ci := 6) (C := R_Exprs) (T := F_Exprs) (N := 11) B 8 rfl rfl (by decide) i_Exprs (B.2.2.2.1 _ k_202) rfl d_Exprs_join_1 ?_
  refine mv_iconst (pc := 4) (v := 1) B d_Exprs_join_4 (by decide) ?_
  refine mv_isub (pc := 5) B d_Exprs_join_5 ?_
  refine mv_istore_n (pc := 6) B d_Exprs_join_6 rfl (by decide) rfl ?_
  refine mv_aload_n (pc := 7) B d_Exprs_join_7 rfl 1 rfl ?_
  refine mv_getR (pc := 8) (ci := 6) (C := R_Exprs) (T := F_Exprs) (N := 11) B 6 rfl rfl (by decide) i_Exprs (B.2.2.2.1 _ k_200) rfl (hb.1.1 22 6 _ rfl) d_Exprs_join_8 ?_
  refine mv_iload_n (pc := 11) B d_Exprs_join_11 rfl 0 rfl ?_
  obtain ⟨q15, hf⟩ := xvi_e hf
  refine mv_iald (pc := 12) B rfl q15 d_Exprs_join_12 ?_
  refine mv_if_le (pc := 13) (tgt := 61) B d_Exprs_join_13 rfl (fun h13 => ?_) (fun h13 => ?_)
  · skip
    have hf := xif_t h13 hf
    refine mv_lpick [1, 2, 0] rfl ?_
    exact jn61 _ _ _ rfl hf
  · skip
    have hf := xif_f h13 hf
    refine mv_aload_n (pc := 16) B d_Exprs_join_16 rfl 1 rfl ?_
    obtain ⟨v17, g16, eg16, hf⟩ := xhb_e hf
    refine mv_callVi (pc := 17) (n := 0) (ci := 6) (C := R_Exprs) B (mK_ok sk sv) hNs rfl rfl (ch_Exprs_release l hi _ (hb.t) eg16) rfl (ma_goodc kc_Exprs_release) (B.2.2.2.1 _ k_1469) (B.2.2.2.1 _ k_1470) (B.2.2.2.1 _ k_1471) (B.2.2.2.1 _ k_7) ⟨by decide +kernel, by decide +kernel, by decide +kernel⟩ rfl d_Exprs_join_17 rfl (Nat.le_of_ble_eq_true rfl) ⟨by decide, by decide⟩ ⟨by decide, by decide⟩ ⟨by decide, by decide⟩ (mv_noH hno _) (fun w17 σ17 h17 => ?_)
    obtain ⟨rfl, rfl, s_g16⟩ := h17
    have r_g16 : mv_r g16 = mv_r h := s_g16.trans rfl
    refine mv_istore_n (pc := 20) B d_Exprs_join_20 rfl (by decide) rfl ?_
    refine mv_aload_n (pc := 21) B d_Exprs_join_21 rfl 2 rfl ?_
    obtain ⟨v19, g18, eg18, hf⟩ := xhb_e hf
    refine mv_callVi (pc := 22) (n := 0) (ci := 6) (C := R_Exprs) B (mK_ok sk sv) hNs rfl rfl (ch_Exprs_release l hi _ (xrw r_g16 hb.t) eg18) rfl (ma_goodc kc_Exprs_release) (B.2.2.2.1 _ k_1469) (B.2.2.2.1 _ k_1470) (B.2.2.2.1 _ k_1471) (B.2.2.2.1 _ k_7) ⟨by decide +kernel, by decide +kernel, by decide +kernel⟩ rfl d_Exprs_join_22 rfl (Nat.le_of_ble_eq_true rfl) ⟨by decide, by decide⟩ ⟨by decide, by decide⟩ ⟨by decide, by decide⟩ (mv_noH hno _) (fun w22 σ22 h22 => ?_)
    obtain ⟨rfl, rfl, s_g18⟩ := h22
    have r_g18 : mv_r g18 = mv_r h := s_g18.trans r_g16
    refine mv_istore (pc := 25) B d_Exprs_join_25 (by decide) rfl ?_
    refine mv_aload_n (pc := 27) B d_Exprs_join_27 rfl 3 rfl ?_
    refine mv_getR (pc := 28) (ci := 6) (C := R_Exprs) (T := F_Exprs) (N := 11) B 3 rfl rfl (by decide) i_Exprs (B.2.2.2.1 _ k_197) rfl ((congrFun (congrFun r_g18 22) 3).trans hb.1.2.2.2) d_Exprs_join_28 ?_
    refine mv_sipush (pc := 31) (v := 309) B d_Exprs_join_31 (by decide) ?_
    refine mv_iload_n (pc := 34) B d_Exprs_join_34 rfl 1 rfl ?_
    refine mv_i2l (pc := 35) B d_Exprs_join_35 ?_
    obtain ⟨v21, g20, eg20, hf⟩ := xhb_e hf
    refine mv_callVi (pc := 36) (n := 2) (ci := 7) (C := R_Program) B (mK_ok sk sv) hNs rfl rfl (ch_Program_emit_a l hi _ (xrw r_g18 hb) _ _ eg20) rfl (ma_goodc kc_Program_emit) (B.2.2.2.1 _ k_1425) (B.2.2.2.1 _ k_1385) (B.2.2.2.1 _ k_1386) (B.2.2.2.1 _ k_8) ⟨by decide +kernel, by decide +kernel, by decide +kernel⟩ rfl d_Exprs_join_36 rfl (Nat.le_of_ble_eq_true rfl) ⟨by decide, by decide⟩ ⟨by decide, by decide⟩ ⟨by decide, by decide⟩ (mv_noH hno _) (fun w36 σ36 h36 => ?_)
    obtain ⟨rfl, rfl, s_g20⟩ := h36
    have r_g20 : mv_r g20 = mv_r h := s_g20.trans r_g18
    refine mv_pop (pc := 39) B d_Exprs_join_39 rfl ?_
    refine mv_aload_n (pc := 40) B d_Exprs_join_40 rfl 3 rfl ?_
    refine mv_iload (pc := 41) B d_Exprs_join_41 0 rfl ?_
    refine mv_if_eq (pc := 43) (tgt := 50) B d_Exprs_join_43 rfl (fun h43 => ?_) (fun h43 => ?_)
    · skip
      have hf := xif_t h43 hf
      refine mv_lpick [3, 4, 2] rfl ?_
      exact jn50 _ _ _ r_g20 hf
    · skip
      have hf := xif_f h43 hf
      refine mv_iload_n (pc := 46) B d_Exprs_join_46 rfl 1 rfl ?_
      refine mv_if_ne (pc := 47) (tgt := 54) B d_Exprs_join_47 rfl (fun h47 => ?_) (fun h47 => ?_)
      · skip
        have hf := xif_f h47 hf
        refine mv_iload (pc := 54) B d_Exprs_join_54 0 rfl ?_
        refine mv_iload_n (pc := 56) B d_Exprs_join_56 rfl 1 rfl ?_
        refine mv_iadd (pc := 57) B d_Exprs_join_57 ?_
        refine mv_lpick [3, 4, 2] rfl ?_
        exact jn58 _ _ _ _ r_g20 hf
      · skip
        have hf := xif_t h47 hf
        refine mv_lpick [3, 4, 2] rfl ?_
        exact jn50 _ _ _ r_g20 hf
set_option maxHeartbeats 4000000 in
set_option maxRecDepth 100000 in
theorem ch_Exprs_join_b (l : Launch) {dA : FieldType → ClassId} {D : va_G} {al : Nat → Nat} {ext : mv_Sh} {sk sv : Nat → Nat} (hi : mv_inj (mg dA D al ext)) (h : mv_H) (hb : xRP 48 (mv_r h))  (a0 : Int32) {rv : Int32} {rg : mv_H} (hf : f_Exprs_join 48 h a0 = some (rv, rg)) : mv_C l y_Exprs_join (Cond.code y_Exprs_join b_Exprs_join 5 (Option.some Jvm.ClassFile.FieldType.int) :: ma) ({ frames := 3, cells := 0, slots := 0, locals := 63 }) (mg dA D al ext) (mK sk sv) [.ref (al 22), .int a0] h (mv_Ri (fun v σ1 => rv = v ∧ rg = σ1 ∧ mv_r σ1 = mv_r h)) := by
  refine mv_C.ofV (cc := b_Exprs_join) (nL := 5) (ret := (Option.some Jvm.ClassFile.FieldType.int)) (by decide +kernel) rfl hi (Nat.le_of_ble_eq_true rfl) ?_
  intro p e s m below meth c B hNs hr hnm hno
  have jn136 : ∀ (x3 : Int32) (hz : mv_H), mv_r hz = mv_r h → f_Exprs_join_136 48 x3 hz = some (rv, rg) → mv_V p l e ({ frames := 3, cells := 0, slots := 0, locals := 63 }) s m ([.ref (al 22), .int a0] : List Value).toArray below meth c (mg dA D al ext) 5 0 0 (mv_Q (mg dA D al ext) below s 0 0 (mv_Ri (fun v σ1 => rv = v ∧ rg = σ1 ∧ mv_r σ1 = mv_r h))) hz 136 [(0, .ref (al 22)), (3, .int x3)] [] := by
    intro x3 hz r_hz hf
    unfold f_Exprs_join_136 at hf
    refine mv_aload_n (pc := 136) B d_Exprs_join_136 rfl 0 rfl ?_
    refine mv_iload_n (pc := 137) B d_Exprs_join_137 rfl 1 rfl ?_
    obtain ⟨g1, eg1, hf⟩ := xhv_e hf
    refine mv_callVv (pc := 138) (n := 1) (ci := 6) (C := R_Exprs) B (mK_ok sk sv) hNs rfl rfl (ch_Exprs_hold l hi _ (xrw r_hz hb.t) _ eg1) rfl (ma_goodc kc_Exprs_hold) (B.2.2.2.1 _ k_1432) (B.2.2.2.1 _ k_1434) (B.2.2.2.1 _ ks_51) (B.2.2.2.1 _ k_7) ⟨by decide +kernel, by decide +kernel, by decide +kernel⟩ rfl d_Exprs_join_138 rfl (Nat.le_of_ble_eq_true rfl) ⟨by decide, by decide⟩ ⟨by decide, by decide⟩ ⟨by decide, by decide⟩ (mv_noH hno _) (fun σ138 h138 => ?_)
    obtain ⟨rfl, s_g1⟩ := h138
    have r_g1 : mv_r g1 = mv_r h := s_g1.trans r_hz
    refine mv_iconst (pc := 141) (v := 1) B d_Exprs_join_141 (by decide) ?_
    exact mv_iret (pc := 142) B hr rfl d_Exprs_join_142 (Nat.le_refl _) (Nat.le_refl _) ⟨_, rfl, xrh_i hf r_g1⟩
  have jn61 : ∀ (x1 : Int32) (x2 : Int32) (hz : mv_H), mv_r hz = mv_r h → f_Exprs_join_61 48 x1 x2 hz = some (rv, rg) → mv_V p l e ({ frames := 3, cells := 0, slots := 0, locals := 63 }) s m ([.ref (al 22), .int a0] : List Value).toArray below meth c (mg dA D al ext) 5 0 0 (mv_Q (mg dA D al ext) below s 0 0 (mv_Ri (fun v σ1 => rv = v ∧ rg = σ1 ∧ mv_r σ1 = mv_r h))) hz 61 [(0, .ref (al 22)), (1, .int x1), (2, .int x2)] [] := by
    intro x1 x2 hz r_hz hf
    unfold f_Exprs_join_61 at hf
    refine mv_aload_n (pc := 61) B d_Exprs_join_61 rfl 0 rfl ?_
    refine mv_getR (pc := 62) (ci := 6) (C := R_Exprs) (T := F_Exprs) (N := 11) B 6 rfl rfl (by decide) i_Exprs (B.2.2.2.1 _ k_200) rfl ((congrFun (congrFun r_hz 22) 6).trans (hb.1.1 22 6 _ rfl)) d_Exprs_join_62 ?_
    refine mv_iload_n (pc := 65) B d_Exprs_join_65 rfl 2 rfl ?_
    refine mv_dup2_11 (pc := 66) B d_Exprs_join_66 rfl rfl ?_
    obtain ⟨q2, hf⟩ := xvi_e hf
    refine mv_iald (pc := 67) B rfl q2 d_Exprs_join_67 ?_
    refine mv_iconst (pc := 68) (v := 1) B d_Exprs_join_68 (by decide) ?_
    refine mv_iadd (pc := 69) B d_Exprs_join_69 ?_
    obtain ⟨q3, hf⟩ := xvi_e hf
    refine mv_iast (pc := 70) B rfl q3 d_Exprs_join_70 ?_
    refine mvh_hp (R9 := mv_r h) hf r_hz (fun g4 hf r_g4 => ?_)
    refine mv_iload_n (pc := 71) B d_Exprs_join_71 rfl 1 rfl ?_
    refine mv_bipush (pc := 72) (v := 44) B d_Exprs_join_72 (by decide) ?_
    refine mv_icmp_ne (pc := 74) (tgt := 89) B d_Exprs_join_74 rfl (fun h74 => ?_) (fun h74 => ?_)
    · skip
      have hf := xif_f h74 hf
      refine mv_aload_n (pc := 89) B d_Exprs_join_89 rfl 0 rfl ?_
      refine mv_getR (pc := 90) (ci := 6) (C := R_Exprs) (T := F_Exprs) (N := 11) B 0 rfl rfl (by decide) i_Exprs (B.2.2.2.1 _ k_193) rfl ((congrFun (congrFun r_g4 22) 0).trans (hb.1.1 22 0 _ rfl)) d_Exprs_join_90 ?_
      refine mv_bipush (pc := 93) (v := 125) B d_Exprs_join_93 (by decide) ?_
      obtain ⟨v6, g5, eg5, hf⟩ := xhb_e hf
      refine mv_callVi (pc := 95) (n := 1) (ci := 2) (C := R_Tokens) B (mK_ok sk sv) hNs rfl rfl (ch_Tokens_close l hi _ (xrw r_g4 hb.t) _ eg5) rfl (ma_goodc kc_Tokens_close) (B.2.2.2.1 _ k_1468) (B.2.2.2.1 _ k_1397) (B.2.2.2.1 _ k_1398) (B.2.2.2.1 _ k_3) ⟨by decide +kernel, by decide +kernel, by decide +kernel⟩ rfl d_Exprs_join_95 rfl (Nat.le_of_ble_eq_true rfl) ⟨by decide, by decide⟩ ⟨by decide, by decide⟩ ⟨by decide, by decide⟩ (mv_noH hno _) (fun w95 σ95 h95 => ?_)
      obtain ⟨rfl, rfl, s_g5⟩ := h95
      have r_g5 : mv_r g5 = mv_r h := s_g5.trans r_g4
      refine mv_pop (pc := 98) B d_Exprs_join_98 rfl ?_
      refine mv_aload_n (pc := 99) B d_Exprs_join_99 rfl 0 rfl ?_
      refine mv_dup (pc := 100) B d_Exprs_join_100 rfl ?_
      refine mv_getI (pc := 101) (ci := 6) (C := R_Exprs) (T := F_Exprs) (N := 11) B 8 rfl rfl (by decide) i_Exprs (B.2.2.2.1 _ k_202) rfl d_Exprs_join_101 ?_
      refine mv_iconst (pc := 104) (v := 1) B d_Exprs_join_104 (by decide) ?_
      refine mv_isub (pc := 105) B d_Exprs_join_105 ?_
      refine mv_putI (pc := 106) (ci := 6) (C := R_Exprs) (T := F_Exprs) (N := 11) B 8 rfl rfl (by decide) i_Exprs t_Exprs_ok n_Exprs (B.2.2.2.1 _ k_202) rfl rfl rfl rfl d_Exprs_join_106 ?_
      refine mvh_hp (R9 := mv_r h) hf r_g5 (fun g7 hf r_g7 => ?_)
      refine mv_aload_n (pc := 109) B d_Exprs_join_109 rfl 0 rfl ?_
      obtain ⟨v9, g8, eg8, hf⟩ := xhb_e hf
      refine mv_callVi (pc := 110) (n := 0) (ci := 6) (C := R_Exprs) B (mK_ok sk sv) hNs rfl rfl (ch_Exprs_release l hi _ (xrw r_g7 hb.t) eg8) rfl (ma_goodc kc_Exprs_release) (B.2.2.2.1 _ k_1469) (B.2.2.2.1 _ k_1470) (B.2.2.2.1 _ k_1471) (B.2.2.2.1 _ k_7) ⟨by decide +kernel, by decide +kernel, by decide +kernel⟩ rfl d_Exprs_join_110 rfl (Nat.le_of_ble_eq_true rfl) ⟨by decide, by decide⟩ ⟨by decide, by decide⟩ ⟨by decide, by decide⟩ (mv_noH hno _) (fun w110 σ110 h110 => ?_)
      obtain ⟨rfl, rfl, s_g8⟩ := h110
      have r_g8 : mv_r g8 = mv_r h := s_g8.trans r_g7
      refine mv_istore_n (pc := 113) B d_Exprs_join_113 rfl (by decide) rfl ?_
      refine mv_iload_n (pc := 114) B d_Exprs_join_114 rfl 0 rfl ?_
      refine mv_bipush (pc := 115) (v := 64) B d_Exprs_join_115 (by decide) ?_
      refine mv_icmp_le (pc := 117) (tgt := 136) B d_Exprs_join_117 rfl (fun h117 => ?_) (fun h117 => ?_)
      · skip
        have hf := xif_t h117 hf
        refine mv_lpick [1, 0] rfl ?_
        exact jn136 _ _ r_g8 hf
      · skip
        have hf := xif_f h117 hf
        refine mv_aload_n (pc := 120) B d_Exprs_join_120 rfl 1 rfl ?_
        refine mv_aload_n (pc := 121) B d_Exprs_join_121 rfl 1 rfl ?_
        refine mv_getR (pc := 122) (ci := 6) (C := R_Exprs) (T := F_Exprs) (N := 11) B 5 rfl rfl (by decide) i_Exprs (B.2.2.2.1 _ k_199) rfl ((congrFun (congrFun r_g8 22) 5).trans (hb.1.1 22 5 _ rfl)) d_Exprs_join_122 ?_
        refine mv_aload_n (pc := 125) B d_Exprs_join_125 rfl 1 rfl ?_
        refine mv_getI (pc := 126) (ci := 6) (C := R_Exprs) (T := F_Exprs) (N := 11) B 8 rfl rfl (by decide) i_Exprs (B.2.2.2.1 _ k_202) rfl d_Exprs_join_126 ?_
        obtain ⟨q10, hf⟩ := xvi_e hf
        refine mv_iald (pc := 129) B rfl q10 d_Exprs_join_129 ?_
        refine mv_iconst (pc := 130) (v := 4) B d_Exprs_join_130 (by decide) ?_
        obtain ⟨g11, eg11, hf⟩ := xhv_e hf
        refine mv_callVv (pc := 131) (n := 2) (ci := 6) (C := R_Exprs) B (mK_ok sk sv) hNs rfl rfl (ch_Exprs_tell l hi _ (xrw r_g8 hb.t) _ _ eg11) rfl (ma_goodc kc_Exprs_tell) (B.2.2.2.1 _ k_1427) (B.2.2.2.1 _ k_1429) (B.2.2.2.1 _ ks_50) (B.2.2.2.1 _ k_7) ⟨by decide +kernel, by decide +kernel, by decide +kernel⟩ rfl d_Exprs_join_131 rfl (Nat.le_of_ble_eq_true rfl) ⟨by decide, by decide⟩ ⟨by decide, by decide⟩ ⟨by decide, by decide⟩ (mv_noH hno _) (fun σ131 h131 => ?_)
        obtain ⟨rfl, s_g11⟩ := h131
        have r_g11 : mv_r g11 = mv_r h := s_g11.trans r_g8
        refine mv_iconst (pc := 134) (v := 0) B d_Exprs_join_134 (by decide) ?_
        refine mv_istore_n (pc := 135) B d_Exprs_join_135 rfl (by decide) rfl ?_
        refine mv_lpick [1, 0] rfl ?_
        exact jn136 _ _ r_g11 hf
    · skip
      have hf := xif_t h74 hf
      refine mv_aload_n (pc := 77) B d_Exprs_join_77 rfl 0 rfl ?_
      refine mv_getR (pc := 78) (ci := 6) (C := R_Exprs) (T := F_Exprs) (N := 11) B 0 rfl rfl (by decide) i_Exprs (B.2.2.2.1 _ k_193) rfl ((congrFun (congrFun r_g4 22) 0).trans (hb.1.1 22 0 _ rfl)) d_Exprs_join_78 ?_
      refine mv_bipush (pc := 81) (v := 44) B d_Exprs_join_81 (by decide) ?_
      obtain ⟨v13, g12, eg12, hf⟩ := xhb_e hf
      refine mv_callVi (pc := 83) (n := 1) (ci := 2) (C := R_Tokens) B (mK_ok sk sv) hNs rfl rfl (ch_Tokens_take l hi _ (xrw r_g4 hb.t) _ eg12) rfl (ma_goodc kc_Tokens_take) (B.2.2.2.1 _ k_1424) (B.2.2.2.1 _ k_1267) (B.2.2.2.1 _ k_1268) (B.2.2.2.1 _ k_3) ⟨by decide +kernel, by decide +kernel, by decide +kernel⟩ rfl d_Exprs_join_83 rfl (Nat.le_of_ble_eq_true rfl) ⟨by decide, by decide⟩ ⟨by decide, by decide⟩ ⟨by decide, by decide⟩ (mv_noH hno _) (fun w83 σ83 h83 => ?_)
      obtain ⟨rfl, rfl, s_g12⟩ := h83
      have r_g12 : mv_r g12 = mv_r h := s_g12.trans r_g4
      refine mv_pop (pc := 86) B d_Exprs_join_86 rfl ?_
      refine mv_iconst (pc := 87) (v := 0) B d_Exprs_join_87 (by decide) ?_
      exact mv_iret (pc := 88) B hr rfl d_Exprs_join_88 (Nat.le_refl _) (Nat.le_refl _) ⟨_, rfl, xrh_i hf r_g12⟩
  have jn58 : ∀ (x1 : Int32) (x2 : Int32) (y0 : Int32) (hz : mv_H), mv_r hz = mv_r h → f_Exprs_join_58 48 x1 x2 y0 hz = some (rv, rg) → mv_V p l e ({ frames := 3, cells := 0, slots := 0, locals := 63 }) s m ([.ref (al 22), .int a0] : List Value).toArray below meth c (mg dA D al ext) 5 0 0 (mv_Q (mg dA D al ext) below s 0 0 (mv_Ri (fun v σ1 => rv = v ∧ rg = σ1 ∧ mv_r σ1 = mv_r h))) hz 58 [(0, .ref (al 22)), (1, .int x1), (2, .int x2)] [.int y0, .ref (al 22)] := by
    intro x1 x2 y0 hz r_hz hf
    unfold f_Exprs_join_58 at hf
    obtain ⟨g14, eg14, hf⟩ := xhv_e hf
    refine mv_callVv (pc := 58) (n := 1) (ci := 6) (C := R_Exprs) B (mK_ok sk sv) hNs rfl rfl (ch_Exprs_hold l hi _ (xrw r_hz hb.t) _ eg14) rfl (ma_goodc kc_Exprs_hold) (B.2.2.2.1 _ k_1432) (B.2.2.2.1 _ k_1434) (B.2.2.2.1 _ ks_51) (B.2.2.2.1 _ k_7) ⟨by decide +kernel, by decide +kernel, by decide +kernel⟩ rfl d_Exprs_join_58 rfl (Nat.le_of_ble_eq_true rfl) ⟨by decide, by decide⟩ ⟨by decide, by decide⟩ ⟨by decide, by decide⟩ (mv_noH hno _) (fun σ58 h58 => ?_)
    obtain ⟨rfl, s_g14⟩ := h58
    have r_g14 : mv_r g14 = mv_r h := s_g14.trans r_hz
    refine mv_lpick [0, 1, 2] rfl ?_
    exact jn61 _ _ _ r_g14 hf
  have jn50 : ∀ (x1 : Int32) (x2 : Int32) (hz : mv_H), mv_r hz = mv_r h → f_Exprs_join_50 48 x1 x2 hz = some (rv, rg) → mv_V p l e ({ frames := 3, cells := 0, slots := 0, locals := 63 }) s m ([.ref (al 22), .int a0] : List Value).toArray below meth c (mg dA D al ext) 5 0 0 (mv_Q (mg dA D al ext) below s 0 0 (mv_Ri (fun v σ1 => rv = v ∧ rg = σ1 ∧ mv_r σ1 = mv_r h))) hz 50 [(0, .ref (al 22)), (1, .int x1), (2, .int x2)] [.ref (al 22)] := by
    intro x1 x2 hz r_hz hf
    unfold f_Exprs_join_50 at hf
    refine mv_iconst (pc := 50) (v := 0) B d_Exprs_join_50 (by decide) ?_
    refine mv_goto (pc := 51) (tgt := 58) B d_Exprs_join_51 rfl ?_
    refine mv_lpick [0, 1, 2] rfl ?_
    exact jn58 _ _ _ _ r_hz hf
  unfold f_Exprs_join at hf
  refine mv_aload_n (pc := 0) B d_Exprs_join_0 rfl 0 rfl ?_
  refine mv_getI (pc := 1) (ci := 6) (C := R_Exprs) (T := F_Exprs) (N := 11) B 8 rfl rfl (by decide) i_Exprs (B.2.2.2.1 _ k_202) rfl d_Exprs_join_1 ?_
  refine mv_iconst (pc := 4) (v := 1) B d_Exprs_join_4 (by decide) ?_
  refine mv_isub (pc := 5) B d_Exprs_join_5 ?_
  refine mv_istore_n (pc := 6) B d_Exprs_join_6 rfl (by decide) rfl ?_
  refine mv_aload_n (pc := 7) B d_Exprs_join_7 rfl 1 rfl ?_
  refine mv_getR (pc := 8) (ci := 6) (C := R_Exprs) (T := F_Exprs) (N := 11) B 6 rfl rfl (by decide) i_Exprs (B.2.2.2.1 _ k_200) rfl (hb.1.1 22 6 _ rfl) d_Exprs_join_8 ?_
  refine mv_iload_n (pc := 11) B d_Exprs_join_11 rfl 0 rfl ?_
  obtain ⟨q15, hf⟩ := xvi_e hf
  refine mv_iald (pc := 12) B rfl q15 d_Exprs_join_12 ?_
  refine mv_if_le (pc := 13) (tgt := 61) B d_Exprs_join_13 rfl (fun h13 => ?_) (fun h13 => ?_)
  · skip
    have hf := xif_t h13 hf
    refine mv_lpick [1, 2, 0] rfl ?_
    exact jn61 _ _ _ rfl hf
  · skip
    have hf := xif_f h13 hf
    refine mv_aload_n (pc := 16) B d_Exprs_join_16 rfl 1 rfl ?_
    obtain ⟨v17, g16, eg16, hf⟩ := xhb_e hf
    refine mv_callVi (pc := 17) (n := 0) (ci := 6) (C := R_Exprs) B (mK_ok sk sv) hNs rfl rfl (ch_Exprs_release l hi _ (hb.t) eg16) rfl (ma_goodc kc_Exprs_release) (B.2.2.2.1 _ k_1469) (B.2.2.2.1 _ k_1470) (B.2.2.2.1 _ k_1471) (B.2.2.2.1 _ k_7) ⟨by decide +kernel, by decide +kernel, by decide +kernel⟩ rfl d_Exprs_join_17 rfl (Nat.le_of_ble_eq_true rfl) ⟨by decide, by decide⟩ ⟨by decide, by decide⟩ ⟨by decide, by decide⟩ (mv_noH hno _) (fun w17 σ17 h17 => ?_)
    obtain ⟨rfl, rfl, s_g16⟩ := h17
    have r_g16 : mv_r g16 = mv_r h := s_g16.trans rfl
    refine mv_istore_n (pc := 20) B d_Exprs_join_20 rfl (by decide) rfl ?_
    refine mv_aload_n (pc := 21) B d_Exprs_join_21 rfl 2 rfl ?_
    obtain ⟨v19, g18, eg18, hf⟩ := xhb_e hf
    refine mv_callVi (pc := 22) (n := 0) (ci := 6) (C := R_Exprs) B (mK_ok sk sv) hNs rfl rfl (ch_Exprs_release l hi _ (xrw r_g16 hb.t) eg18) rfl (ma_goodc kc_Exprs_release) (B.2.2.2.1 _ k_1469) (B.2.2.2.1 _ k_1470) (B.2.2.2.1 _ k_1471) (B.2.2.2.1 _ k_7) ⟨by decide +kernel, by decide +kernel, by decide +kernel⟩ rfl d_Exprs_join_22 rfl (Nat.le_of_ble_eq_true rfl) ⟨by decide, by decide⟩ ⟨by decide, by decide⟩ ⟨by decide, by decide⟩ (mv_noH hno _) (fun w22 σ22 h22 => ?_)
    obtain ⟨rfl, rfl, s_g18⟩ := h22
    have r_g18 : mv_r g18 = mv_r h := s_g18.trans r_g16
    refine mv_istore (pc := 25) B d_Exprs_join_25 (by decide) rfl ?_
    refine mv_aload_n (pc := 27) B d_Exprs_join_27 rfl 3 rfl ?_
    refine mv_getR (pc := 28) (ci := 6) (C := R_Exprs) (T := F_Exprs) (N := 11) B 3 rfl rfl (by decide) i_Exprs (B.2.2.2.1 _ k_197) rfl ((congrFun (congrFun r_g18 22) 3).trans hb.1.2.2.2) d_Exprs_join_28 ?_
    refine mv_sipush (pc := 31) (v := 309) B d_Exprs_join_31 (by decide) ?_
    refine mv_iload_n (pc := 34) B d_Exprs_join_34 rfl 1 rfl ?_
    refine mv_i2l (pc := 35) B d_Exprs_join_35 ?_
    obtain ⟨v21, g20, eg20, hf⟩ := xhb_e hf
    refine mv_callVi (pc := 36) (n := 2) (ci := 7) (C := R_Program) B (mK_ok sk sv) hNs rfl rfl (ch_Program_emit_b l hi _ (xrw r_g18 hb) _ _ eg20) rfl (ma_goodc kc_Program_emit) (B.2.2.2.1 _ k_1425) (B.2.2.2.1 _ k_1385) (B.2.2.2.1 _ k_1386) (B.2.2.2.1 _ k_8) ⟨by decide +kernel, by decide +kernel, by decide +kernel⟩ rfl d_Exprs_join_36 rfl (Nat.le_of_ble_eq_true rfl) ⟨by decide, by decide⟩ ⟨by decide, by decide⟩ ⟨by decide, by decide⟩ (mv_noH hno _) (fun w36 σ36 h36 => ?_)
    obtain ⟨rfl, rfl, s_g20⟩ := h36
    have r_g20 : mv_r g20 = mv_r h := s_g20.trans r_g18
    refine mv_pop (pc := 39) B d_Exprs_join_39 rfl ?_
    refine mv_aload_n (pc := 40) B d_Exprs_join_40 rfl 3 rfl ?_
    refine mv_iload (pc := 41) B d_Exprs_join_41 0 rfl ?_
    refine mv_if_eq (pc := 43) (tgt := 50) B d_Exprs_join_43 rfl (fun h43 => ?_) (fun h43 => ?_)
    · skip
      have hf := xif_t h43 hf
      refine mv_lpick [3, 4, 2] rfl ?_
      exact jn50 _ _ _ r_g20 hf
    · skip
      have hf := xif_f h43 hf
      refine mv_iload_n (pc := 46) B d_Exprs_join_46 rfl 1 rfl ?_
      refine mv_if_ne (pc := 47) (tgt := 54) B d_Exprs_join_47 rfl (fun h47 => ?_) (fun h47 => ?_)
      · skip
        have hf := xif_f h47 hf
        refine mv_iload (pc := 54) B d_Exprs_join_54 0 rfl ?_
        refine mv_iload_n (pc := 56) B d_Exprs_join_56 rfl 1 rfl ?_
        refine mv_iadd (pc := 57) B d_Exprs_join_57 ?_
        refine mv_lpick [3, 4, 2] rfl ?_
        exact jn58 _ _ _ _ r_g20 hf
      · skip
        have hf := xif_t h47 hf
        refine mv_lpick [3, 4, 2] rfl ?_
        exact jn50 _ _ _ r_g20 hf
def f_Exprs_cell_66 (P : Nat) (y0 : Int32) (hz : mv_H) : Option mv_H := xhv (f_Exprs_hold hz y0) fun g1 => some g1
def f_Exprs_cell (P : Nat) (h : mv_H) : Option mv_H := xhb (f_Tokens_close h (93 : Int32)) fun v3 g2 => xk (mv_si g2 22 8 ((mv_i g2 22 8) - (1 : Int32))) fun g4 => bif xvi (mv_i g4 22 8) 1024 then xhb (f_Program_emit P g4 (304 : Int32) (((mv_a g4 25 ((mv_i g4 22 8)).toNatClampNeg)).toInt64)) fun v7 g6 => xhb (f_Exprs_release g6) fun v9 g8 => if v9 = (0 : Int32) then (f_Exprs_cell_66 P (0 : Int32) g8) else (bif xvi (mv_a g4 25 ((mv_i g4 22 8)).toNatClampNeg) 64 then f_Exprs_cell_66 P (mv_a g8 (P + 1) ((mv_a g4 25 ((mv_i g4 22 8)).toNatClampNeg)).toNatClampNeg) g8 else none) else none
set_option maxHeartbeats 4000000 in
set_option maxRecDepth 100000 in
theorem ch_Exprs_cell_a (l : Launch) {dA : FieldType → ClassId} {D : va_G} {al : Nat → Nat} {ext : mv_Sh} {sk sv : Nat → Nat} (hi : mv_inj (mg dA D al ext)) (h : mv_H) (hb : xRP 32 (mv_r h))  {rg : mv_H} (hf : f_Exprs_cell 32 h = some rg) : mv_C l y_Exprs_cell (Cond.code y_Exprs_cell b_Exprs_cell 3 (Option.none : Option Jvm.ClassFile.FieldType) :: ma) ({ frames := 3, cells := 0, slots := 0, locals := 63 }) (mg dA D al ext) (mK sk sv) [.ref (al 22)] h (mv_Rv (fun σ1 => rg = σ1 ∧ mv_r σ1 = mv_r h)) := by
  refine mv_C.ofV (cc := b_Exprs_cell) (nL := 3) (ret := (Option.none : Option Jvm.ClassFile.FieldType)) (by decide +kernel) rfl hi (Nat.le_of_ble_eq_true rfl) ?_
  intro p e s m below meth c B hNs hr hnm hno
  have jn66 : ∀ (y0 : Int32) (hz : mv_H), mv_r hz = mv_r h → f_Exprs_cell_66 32 y0 hz = some rg → mv_V p l e ({ frames := 3, cells := 0, slots := 0, locals := 63 }) s m ([.ref (al 22)] : List Value).toArray below meth c (mg dA D al ext) 3 0 0 (mv_Q (mg dA D al ext) below s 0 0 (mv_Rv (fun σ1 => rg = σ1 ∧ mv_r σ1 = mv_r h))) hz 66 [] [.int y0, .ref (al 22)] := by
    intro y0 hz r_hz hf
    unfold f_Exprs_cell_66 at hf
    obtain ⟨g1, eg1, hf⟩ := xhv_e hf
    refine mv_callVv (pc := 66) (n := 1) (ci := 6) (C := R_Exprs) B (mK_ok sk sv) hNs rfl rfl (ch_Exprs_hold l hi _ (xrw r_hz hb.t) _ eg1) rfl (ma_goodc kc_Exprs_hold) (B.2.2.2.1 _ k_1432) (B.2.2.2.1 _ k_1434) (B.2.2.2.1 _ ks_51) (B.2.2.2.1 _ k_7) ⟨by decide +kernel, by decide +kernel, by decide +kernel⟩ rfl d_Exprs_cell_66 rfl (Nat.le_of_ble_eq_true rfl) ⟨by decide, by decide⟩ ⟨by decide, by decide⟩ ⟨by decide, by decide⟩ (mv_noH hno _) (fun σ66 h66 => ?_)
    obtain ⟨rfl, s_g1⟩ := h66
    have r_g1 : mv_r g1 = mv_r h := s_g1.trans r_hz
    exact mv_vret (pc := 69) B hr d_Exprs_cell_69 (Nat.le_refl _) (Nat.le_refl _) ⟨rfl, xrh_v hf r_g1⟩
  unfold f_Exprs_cell at hf
  refine mv_aload_n (pc := 0) B d_Exprs_cell_0 rfl 0 rfl ?_
  refine mv_getR (pc := 1) (ci := 6) (C := R_Exprs) (T := F_Exprs) (N := 11) B 0 rfl rfl (by decide) i_Exprs (B.2.2.2.1 _ k_193) rfl (hb.1.1 22 0 _ rfl) d_Exprs_cell_1 ?_
  refine mv_bipush (pc := 4) (v := 93) B d_Exprs_cell_4 (by decide) ?_
  obtain ⟨v3, g2, eg2, hf⟩ := xhb_e hf
  refine mv_callVi (pc := 6) (n := 1) (ci := 2) (C := R_Tokens) B (mK_ok sk sv) hNs rfl rfl (ch_Tokens_close l hi _ (hb.t) _ eg2) rfl (ma_goodc kc_Tokens_close) (B.2.2.2.1 _ k_1468) (B.2.2.2.1 _ k_1397) (B.2.2.2.1 _ k_1398) (B.2.2.2.1 _ k_3) ⟨by decide +kernel, by decide +kernel, by decide +kernel⟩ rfl d_Exprs_cell_6 rfl (Nat.le_of_ble_eq_true rfl) ⟨by decide, by decide⟩ ⟨by decide, by decide⟩ ⟨by decide, by decide⟩ (mv_noH hno _) (fun w6 σ6 h6 => ?_)
  obtain ⟨rfl, rfl, s_g2⟩ := h6
  have r_g2 : mv_r g2 = mv_r h := s_g2.trans rfl
  refine mv_pop (pc := 9) B d_Exprs_cell_9 rfl ?_
  refine mv_aload_n (pc := 10) B d_Exprs_cell_10 rfl 0 rfl ?_
  refine mv_dup (pc := 11) B d_Exprs_cell_11 rfl ?_
  refine mv_getI (pc := 12) (ci := 6) (C := R_Exprs) (T := F_Exprs) (N := 11) B 8 rfl rfl (by decide) i_Exprs (B.2.2.2.1 _ k_202) rfl d_Exprs_cell_12 ?_
  refine mv_iconst (pc := 15) (v := 1) B d_Exprs_cell_15 (by decide) ?_
  refine mv_isub (pc := 16) B d_Exprs_cell_16 ?_
  refine mv_putI (pc := 17) (ci := 6) (C := R_Exprs) (T := F_Exprs) (N := 11) B 8 rfl rfl (by decide) i_Exprs t_Exprs_ok n_Exprs (B.2.2.2.1 _ k_202) rfl rfl rfl rfl d_Exprs_cell_17 ?_
  refine mvh_hp (R9 := mv_r h) hf r_g2 (fun g4 hf r_g4 => ?_)
  refine mv_aload_n (pc := 20) B d_Exprs_cell_20 rfl 0 rfl ?_
  refine mv_getR (pc := 21) (ci := 6) (C := R_Exprs) (T := F_Exprs) (N := 11) B 6 rfl rfl (by decide) i_Exprs (B.2.2.2.1 _ k_200) rfl ((congrFun (congrFun r_g4 22) 6).trans (hb.1.1 22 6 _ rfl)) d_Exprs_cell_21 ?_
  refine mv_aload_n (pc := 24) B d_Exprs_cell_24 rfl 0 rfl ?_
  refine mv_getI (pc := 25) (ci := 6) (C := R_Exprs) (T := F_Exprs) (N := 11) B 8 rfl rfl (by decide) i_Exprs (B.2.2.2.1 _ k_202) rfl d_Exprs_cell_25 ?_
  obtain ⟨q5, hf⟩ := xvi_e hf
  refine mv_iald (pc := 28) B rfl q5 d_Exprs_cell_28 ?_
  refine mv_istore_n (pc := 29) B d_Exprs_cell_29 rfl (by decide) rfl ?_
  refine mv_aload_n (pc := 30) B d_Exprs_cell_30 rfl 1 rfl ?_
  refine mv_getR (pc := 31) (ci := 6) (C := R_Exprs) (T := F_Exprs) (N := 11) B 3 rfl rfl (by decide) i_Exprs (B.2.2.2.1 _ k_197) rfl ((congrFun (congrFun r_g4 22) 3).trans hb.1.2.2.2) d_Exprs_cell_31 ?_
  refine mv_sipush (pc := 34) (v := 304) B d_Exprs_cell_34 (by decide) ?_
  refine mv_iload_n (pc := 37) B d_Exprs_cell_37 rfl 0 rfl ?_
  refine mv_i2l (pc := 38) B d_Exprs_cell_38 ?_
  obtain ⟨v7, g6, eg6, hf⟩ := xhb_e hf
  refine mv_callVi (pc := 39) (n := 2) (ci := 7) (C := R_Program) B (mK_ok sk sv) hNs rfl rfl (ch_Program_emit_a l hi _ (xrw r_g4 hb) _ _ eg6) rfl (ma_goodc kc_Program_emit) (B.2.2.2.1 _ k_1425) (B.2.2.2.1 _ k_1385) (B.2.2.2.1 _ k_1386) (B.2.2.2.1 _ k_8) ⟨by decide +kernel, by decide +kernel, by decide +kernel⟩ rfl d_Exprs_cell_39 rfl (Nat.le_of_ble_eq_true rfl) ⟨by decide, by decide⟩ ⟨by decide, by decide⟩ ⟨by decide, by decide⟩ (mv_noH hno _) (fun w39 σ39 h39 => ?_)
  obtain ⟨rfl, rfl, s_g6⟩ := h39
  have r_g6 : mv_r g6 = mv_r h := s_g6.trans r_g4
  refine mv_pop (pc := 42) B d_Exprs_cell_42 rfl ?_
  refine mv_aload_n (pc := 43) B d_Exprs_cell_43 rfl 1 rfl ?_
  obtain ⟨v9, g8, eg8, hf⟩ := xhb_e hf
  refine mv_callVi (pc := 44) (n := 0) (ci := 6) (C := R_Exprs) B (mK_ok sk sv) hNs rfl rfl (ch_Exprs_release l hi _ (xrw r_g6 hb.t) eg8) rfl (ma_goodc kc_Exprs_release) (B.2.2.2.1 _ k_1469) (B.2.2.2.1 _ k_1470) (B.2.2.2.1 _ k_1471) (B.2.2.2.1 _ k_7) ⟨by decide +kernel, by decide +kernel, by decide +kernel⟩ rfl d_Exprs_cell_44 rfl (Nat.le_of_ble_eq_true rfl) ⟨by decide, by decide⟩ ⟨by decide, by decide⟩ ⟨by decide, by decide⟩ (mv_noH hno _) (fun w44 σ44 h44 => ?_)
  obtain ⟨rfl, rfl, s_g8⟩ := h44
  have r_g8 : mv_r g8 = mv_r h := s_g8.trans r_g6
  refine mv_istore_n (pc := 47) B d_Exprs_cell_47 rfl (by decide) rfl ?_
  refine mv_aload_n (pc := 48) B d_Exprs_cell_48 rfl 2 rfl ?_
  refine mv_iload_n (pc := 49) B d_Exprs_cell_49 rfl 0 rfl ?_
  refine mv_if_ne (pc := 50) (tgt := 57) B d_Exprs_cell_50 rfl (fun h50 => ?_) (fun h50 => ?_)
  · skip
    have hf := xif_f h50 hf
    refine mv_aload_n (pc := 57) B d_Exprs_cell_57 rfl 2 rfl ?_
    refine mv_getR (pc := 58) (ci := 6) (C := R_Exprs) (T := F_Exprs) (N := 11) B 3 rfl rfl (by decide) i_Exprs (B.2.2.2.1 _ k_197) rfl ((congrFun (congrFun r_g8 22) 3).trans hb.1.2.2.2) d_Exprs_cell_58 ?_
    refine mv_getR (pc := 61) (ci := 7) (C := R_Program) (T := F_Program) (N := 19) B 2 rfl rfl (by decide) i_Program (B.2.2.2.1 _ k_320) rfl ((congrFun (congrFun r_g8 32) 2).trans (hb.1.2.1 32 2 33 rfl)) d_Exprs_cell_61 ?_
    refine mv_iload_n (pc := 64) B d_Exprs_cell_64 rfl 1 rfl ?_
    obtain ⟨q10, hf⟩ := xvi_e hf
    refine mv_iald (pc := 65) B rfl q10 d_Exprs_cell_65 ?_
    refine mv_lpick [] rfl ?_
    exact jn66 _ _ r_g8 hf
  · skip
    have hf := xif_t h50 hf
    refine mv_iconst (pc := 53) (v := 0) B d_Exprs_cell_53 (by decide) ?_
    refine mv_goto (pc := 54) (tgt := 66) B d_Exprs_cell_54 rfl ?_
    refine mv_lpick [] rfl ?_
    exact jn66 _ _ r_g8 hf
set_option maxHeartbeats 4000000 in
set_option maxRecDepth 100000 in
theorem ch_Exprs_cell_b (l : Launch) {dA : FieldType → ClassId} {D : va_G} {al : Nat → Nat} {ext : mv_Sh} {sk sv : Nat → Nat} (hi : mv_inj (mg dA D al ext)) (h : mv_H) (hb : xRP 48 (mv_r h))  {rg : mv_H} (hf : f_Exprs_cell 48 h = some rg) : mv_C l y_Exprs_cell (Cond.code y_Exprs_cell b_Exprs_cell 3 (Option.none : Option Jvm.ClassFile.FieldType) :: ma) ({ frames := 3, cells := 0, slots := 0, locals := 63 }) (mg dA D al ext) (mK sk sv) [.ref (al 22)] h (mv_Rv (fun σ1 => rg = σ1 ∧ mv_r σ1 = mv_r h)) := by
  refine mv_C.ofV (cc := b_Exprs_cell) (nL := 3) (ret := (Option.none : Option Jvm.ClassFile.FieldType)) (by decide +kernel) rfl hi (Nat.le_of_ble_eq_true rfl) ?_
  intro p e s m below meth c B hNs hr hnm hno
  have jn66 : ∀ (y0 : Int32) (hz : mv_H), mv_r hz = mv_r h → f_Exprs_cell_66 48 y0 hz = some rg → mv_V p l e ({ frames := 3, cells := 0, slots := 0, locals := 63 }) s m ([.ref (al 22)] : List Value).toArray below meth c (mg dA D al ext) 3 0 0 (mv_Q (mg dA D al ext) below s 0 0 (mv_Rv (fun σ1 => rg = σ1 ∧ mv_r σ1 = mv_r h))) hz 66 [] [.int y0, .ref (al 22)] := by
    intro y0 hz r_hz hf
    unfold f_Exprs_cell_66 at hf
    obtain ⟨g1, eg1, hf⟩ := xhv_e hf
    refine mv_callVv (pc := 66) (n := 1) (ci := 6) (C := R_Exprs) B (mK_ok sk sv) hNs rfl rfl (ch_Exprs_hold l hi _ (xrw r_hz hb.t) _ eg1) rfl (ma_goodc kc_Exprs_hold) (B.2.2.2.1 _ k_1432) (B.2.2.2.1 _ k_1434) (B.2.2.2.1 _ ks_51) (B.2.2.2.1 _ k_7) ⟨by decide +kernel, by decide +kernel, by decide +kernel⟩ rfl d_Exprs_cell_66 rfl (Nat.le_of_ble_eq_true rfl) ⟨by decide, by decide⟩ ⟨by decide, by decide⟩ ⟨by decide, by decide⟩ (mv_noH hno _) (fun σ66 h66 => ?_)
    obtain ⟨rfl, s_g1⟩ := h66
    have r_g1 : mv_r g1 = mv_r h := s_g1.trans r_hz
    exact mv_vret (pc := 69) B hr d_Exprs_cell_69 (Nat.le_refl _) (Nat.le_refl _) ⟨rfl, xrh_v hf r_g1⟩
  unfold f_Exprs_cell at hf
  refine mv_aload_n (pc := 0) B d_Exprs_cell_0 rfl 0 rfl ?_
  refine mv_getR (pc := 1) (ci := 6) (C := R_Exprs) (T := F_Exprs) (N := 11) B 0 rfl rfl (by decide) i_Exprs (B.2.2.2.1 _ k_193) rfl (hb.1.1 22 0 _ rfl) d_Exprs_cell_1 ?_
  refine mv_bipush (pc := 4) (v := 93) B d_Exprs_cell_4 (by decide) ?_
  obtain ⟨v3, g2, eg2, hf⟩ := xhb_e hf
  refine mv_callVi (pc := 6) (n := 1) (ci := 2) (C := R_Tokens) B (mK_ok sk sv) hNs rfl rfl (ch_Tokens_close l hi _ (hb.t) _ eg2) rfl (ma_goodc kc_Tokens_close) (B.2.2.2.1 _ k_1468) (B.2.2.2.1 _ k_1397) (B.2.2.2.1 _ k_1398) (B.2.2.2.1 _ k_3) ⟨by decide +kernel, by decide +kernel, by decide +kernel⟩ rfl d_Exprs_cell_6 rfl (Nat.le_of_ble_eq_true rfl) ⟨by decide, by decide⟩ ⟨by decide, by decide⟩ ⟨by decide, by decide⟩ (mv_noH hno _) (fun w6 σ6 h6 => ?_)
  obtain ⟨rfl, rfl, s_g2⟩ := h6
  have r_g2 : mv_r g2 = mv_r h := s_g2.trans rfl
  refine mv_pop (pc := 9) B d_Exprs_cell_9 rfl ?_
  refine mv_aload_n (pc := 10) B d_Exprs_cell_10 rfl 0 rfl ?_
  refine mv_dup (pc := 11) B d_Exprs_cell_11 rfl ?_
  refine mv_getI (pc := 12) (ci := 6) (C := R_Exprs) (T := F_Exprs) (N := 11) B 8 rfl rfl (by decide) i_Exprs (B.2.2.2.1 _ k_202) rfl d_Exprs_cell_12 ?_
  refine mv_iconst (pc := 15) (v := 1) B d_Exprs_cell_15 (by decide) ?_
  refine mv_isub (pc := 16) B d_Exprs_cell_16 ?_
  refine mv_putI (pc := 17) (ci := 6) (C := R_Exprs) (T := F_Exprs) (N := 11) B 8 rfl rfl (by decide) i_Exprs t_Exprs_ok n_Exprs (B.2.2.2.1 _ k_202) rfl rfl rfl rfl d_Exprs_cell_17 ?_
  refine mvh_hp (R9 := mv_r h) hf r_g2 (fun g4 hf r_g4 => ?_)
  refine mv_aload_n (pc := 20) B d_Exprs_cell_20 rfl 0 rfl ?_
  refine mv_getR (pc := 21) (ci := 6) (C := R_Exprs) (T := F_Exprs) (N := 11) B 6 rfl rfl (by decide) i_Exprs (B.2.2.2.1 _ k_200) rfl ((congrFun (congrFun r_g4 22) 6).trans (hb.1.1 22 6 _ rfl)) d_Exprs_cell_21 ?_
  refine mv_aload_n (pc := 24) B d_Exprs_cell_24 rfl 0 rfl ?_
  refine mv_getI (pc := 25) (ci := 6) (C := R_Exprs) (T := F_Exprs) (N := 11) B 8 rfl rfl (by decide) i_Exprs (B.2.2.2.1 _ k_202) rfl d_Exprs_cell_25 ?_
  obtain ⟨q5, hf⟩ := xvi_e hf
  refine mv_iald (pc := 28) B rfl q5 d_Exprs_cell_28 ?_
  refine mv_istore_n (pc := 29) B d_Exprs_cell_29 rfl (by decide) rfl ?_
  refine mv_aload_n (pc := 30) B d_Exprs_cell_30 rfl 1 rfl ?_
  refine mv_getR (pc := 31) (ci := 6) (C := R_Exprs) (T := F_Exprs) (N := 11) B 3 rfl rfl (by decide) i_Exprs (B.2.2.2.1 _ k_197) rfl ((congrFun (congrFun r_g4 22) 3).trans hb.1.2.2.2) d_Exprs_cell_31 ?_
  refine mv_sipush (pc := 34) (v := 304) B d_Exprs_cell_34 (by decide) ?_
  refine mv_iload_n (pc := 37) B d_Exprs_cell_37 rfl 0 rfl ?_
  refine mv_i2l (pc := 38) B d_Exprs_cell_38 ?_
  obtain ⟨v7, g6, eg6, hf⟩ := xhb_e hf
  refine mv_callVi (pc := 39) (n := 2) (ci := 7) (C := R_Program) B (mK_ok sk sv) hNs rfl rfl (ch_Program_emit_b l hi _ (xrw r_g4 hb) _ _ eg6) rfl (ma_goodc kc_Program_emit) (B.2.2.2.1 _ k_1425) (B.2.2.2.1 _ k_1385) (B.2.2.2.1 _ k_1386) (B.2.2.2.1 _ k_8) ⟨by decide +kernel, by decide +kernel, by decide +kernel⟩ rfl d_Exprs_cell_39 rfl (Nat.le_of_ble_eq_true rfl) ⟨by decide, by decide⟩ ⟨by decide, by decide⟩ ⟨by decide, by decide⟩ (mv_noH hno _) (fun w39 σ39 h39 => ?_)
  obtain ⟨rfl, rfl, s_g6⟩ := h39
  have r_g6 : mv_r g6 = mv_r h := s_g6.trans r_g4
  refine mv_pop (pc := 42) B d_Exprs_cell_42 rfl ?_
  refine mv_aload_n (pc := 43) B d_Exprs_cell_43 rfl 1 rfl ?_
  obtain ⟨v9, g8, eg8, hf⟩ := xhb_e hf
  refine mv_callVi (pc := 44) (n := 0) (ci := 6) (C := R_Exprs) B (mK_ok sk sv) hNs rfl rfl (ch_Exprs_release l hi _ (xrw r_g6 hb.t) eg8) rfl (ma_goodc kc_Exprs_release) (B.2.2.2.1 _ k_1469) (B.2.2.2.1 _ k_1470) (B.2.2.2.1 _ k_1471) (B.2.2.2.1 _ k_7) ⟨by decide +kernel, by decide +kernel, by decide +kernel⟩ rfl d_Exprs_cell_44 rfl (Nat.le_of_ble_eq_true rfl) ⟨by decide, by decide⟩ ⟨by decide, by decide⟩ ⟨by decide, by decide⟩ (mv_noH hno _) (fun w44 σ44 h44 => ?_)
  obtain ⟨rfl, rfl, s_g8⟩ := h44
  have r_g8 : mv_r g8 = mv_r h := s_g8.trans r_g6
  refine mv_istore_n (pc := 47) B d_Exprs_cell_47 rfl (by decide) rfl ?_
  refine mv_aload_n (pc := 48) B d_Exprs_cell_48 rfl 2 rfl ?_
  refine mv_iload_n (pc := 49) B d_Exprs_cell_49 rfl 0 rfl ?_
  refine mv_if_ne (pc := 50) (tgt := 57) B d_Exprs_cell_50 rfl (fun h50 => ?_) (fun h50 => ?_)
  · skip
    have hf := xif_f h50 hf
    refine mv_aload_n (pc := 57) B d_Exprs_cell_57 rfl 2 rfl ?_
    refine mv_getR (pc := 58) (ci := 6) (C := R_Exprs) (T := F_Exprs) (N := 11) B 3 rfl rfl (by decide) i_Exprs (B.2.2.2.1 _ k_197) rfl ((congrFun (congrFun r_g8 22) 3).trans hb.1.2.2.2) d_Exprs_cell_58 ?_
    refine mv_getR (pc := 61) (ci := 7) (C := R_Program) (T := F_Program) (N := 19) B 2 rfl rfl (by decide) i_Program (B.2.2.2.1 _ k_320) rfl ((congrFun (congrFun r_g8 48) 2).trans (hb.1.2.1 48 2 49 rfl)) d_Exprs_cell_61 ?_
    refine mv_iload_n (pc := 64) B d_Exprs_cell_64 rfl 1 rfl ?_
    obtain ⟨q10, hf⟩ := xvi_e hf
    refine mv_iald (pc := 65) B rfl q10 d_Exprs_cell_65 ?_
    refine mv_lpick [] rfl ?_
    exact jn66 _ _ r_g8 hf
  · skip
    have hf := xif_t h50 hf
    refine mv_iconst (pc := 53) (v := 0) B d_Exprs_cell_53 (by decide) ?_
    refine mv_goto (pc := 54) (tgt := 66) B d_Exprs_cell_54 rfl ?_
    refine mv_lpick [] rfl ?_
    exact jn66 _ _ r_g8 hf
def f_Exprs_widen_140 (P : Nat) (y0 : Int32) (hz : mv_H) : Option mv_H := xhv (f_Exprs_hold hz y0) fun g1 => some g1
def f_Exprs_widen_133 (P : Nat) (hz : mv_H) : Option mv_H := f_Exprs_widen_140 P (0 : Int32) hz
def f_Exprs_widen_123 (P : Nat) (x3 : Int32) (x4 : Int64) (x6 : Int32) (hz : mv_H) : Option mv_H := if x6 = (0 : Int32) then (if x3 = (0 : Int32) then (f_Exprs_widen_133 P  hz) else (f_Exprs_widen_140 P ((x4).toInt32) hz)) else (f_Exprs_widen_133 P  hz)
def f_Exprs_widen_97 (P : Nat) (x1 : Int32) (x3 : Int32) (x4 : Int64) (x6 : Int32) (hz : mv_H) : Option mv_H := if x1 = (211 : Int32) then (xhb (f_Program_emit P hz (310 : Int32) (((x3).toInt64) ||| (x4 <<< (((8 : Int32)).toInt64 &&& 63)))) fun v3 g2 => f_Exprs_widen_123 P x3 x4 x6 g2) else (f_Exprs_widen_123 P x3 x4 x6 hz)
def f_Exprs_widen_84 (P : Nat) (x1 : Int32) (x2 : Int32) (x3 : Int32) (x4 : Int64) (y0 : Int32) (hz : mv_H) : Option mv_H := if y0 = (0 : Int32) then (f_Exprs_widen_97 P x1 x3 x4 y0 hz) else (xhv (f_Exprs_tell hz x2 (3 : Int32)) fun g4 => f_Exprs_widen_97 P x1 x3 x4 y0 g4)
def f_Exprs_widen_79 (P : Nat) (x1 : Int32) (x2 : Int32) (x3 : Int32) (x4 : Int64) (hz : mv_H) : Option mv_H := f_Exprs_widen_84 P x1 x2 x3 x4 (1 : Int32) hz
def f_Exprs_widen (P : Nat) (h : mv_H) (a0 : Int32) : Option mv_H := xhb (f_Tokens_take h (44 : Int32)) fun v6 g5 => xhb (f_Tokens_take g5 (4 : Int32)) fun v8 g7 => xhb (f_Tokens_close g7 (41 : Int32)) fun v10 g9 => xk (mv_si g9 22 8 ((mv_i g9 22 8) - (1 : Int32))) fun g11 => xhb (f_Exprs_release g11) fun v13 g12 => bif xvi v8 32770 then if (lg_cmp (mv_b g12 6 (v8).toNatClampNeg) (1 : Int64)) < (0 : Int32) then (f_Exprs_widen_79 P a0 v8 v13 (mv_b g12 6 (v8).toNatClampNeg) g12) else (if (lg_cmp (mv_b g12 6 (v8).toNatClampNeg) ((v13).toInt64)) < (0 : Int32) then (f_Exprs_widen_79 P a0 v8 v13 (mv_b g12 6 (v8).toNatClampNeg) g12) else (if (lg_cmp (mv_b g12 6 (v8).toNatClampNeg) (64 : Int64)) ≤ (0 : Int32) then (f_Exprs_widen_84 P a0 v8 v13 (mv_b g12 6 (v8).toNatClampNeg) (0 : Int32) g12) else (f_Exprs_widen_79 P a0 v8 v13 (mv_b g12 6 (v8).toNatClampNeg) g12))) else none
set_option maxHeartbeats 4000000 in
set_option maxRecDepth 100000 in
theorem ch_Exprs_widen_a (l : Launch) {dA : FieldType → ClassId} {D : va_G} {al : Nat → Nat} {ext : mv_Sh} {sk sv : Nat → Nat} (hi : mv_inj (mg dA D al ext)) (h : mv_H) (hb : xRP 32 (mv_r h))  (a0 : Int32) {rg : mv_H} (hf : f_Exprs_widen 32 h a0 = some rg) : mv_C l y_Exprs_widen (Cond.code y_Exprs_widen b_Exprs_widen 7 (Option.none : Option Jvm.ClassFile.FieldType) :: ma) ({ frames := 3, cells := 0, slots := 0, locals := 63 }) (mg dA D al ext) (mK sk sv) [.ref (al 22), .int a0] h (mv_Rv (fun σ1 => rg = σ1 ∧ mv_r σ1 = mv_r h)) := by
  refine mv_C.ofV (cc := b_Exprs_widen) (nL := 7) (ret := (Option.none : Option Jvm.ClassFile.FieldType)) (by decide +kernel) rfl hi (Nat.le_of_ble_eq_true rfl) ?_
  intro p e s m below meth c B hNs hr hnm hno
  have jn140 : ∀ (y0 : Int32) (hz : mv_H), mv_r hz = mv_r h → f_Exprs_widen_140 32 y0 hz = some rg → mv_V p l e ({ frames := 3, cells := 0, slots := 0, locals := 63 }) s m ([.ref (al 22), .int a0] : List Value).toArray below meth c (mg dA D al ext) 7 0 0 (mv_Q (mg dA D al ext) below s 0 0 (mv_Rv (fun σ1 => rg = σ1 ∧ mv_r σ1 = mv_r h))) hz 140 [] [.int y0, .ref (al 22)] := by
    intro y0 hz r_hz hf
    unfold f_Exprs_widen_140 at hf
    obtain ⟨g1, eg1, hf⟩ := xhv_e hf
    refine mv_callVv (pc := 140) (n := 1) (ci := 6) (C := R_Exprs) B (mK_ok sk sv) hNs rfl rfl (ch_Exprs_hold l hi _ (xrw r_hz hb.t) _ eg1) rfl (ma_goodc kc_Exprs_hold) (B.2.2.2.1 _ k_1432) (B.2.2.2.1 _ k_1434) (B.2.2.2.1 _ ks_51) (B.2.2.2.1 _ k_7) ⟨by decide +kernel, by decide +kernel, by decide +kernel⟩ rfl d_Exprs_widen_140 rfl (Nat.le_of_ble_eq_true rfl) ⟨by decide, by decide⟩ ⟨by decide, by decide⟩ ⟨by decide, by decide⟩ (mv_noH hno _) (fun σ140 h140 => ?_)
    obtain ⟨rfl, s_g1⟩ := h140
    have r_g1 : mv_r g1 = mv_r h := s_g1.trans r_hz
    exact mv_vret (pc := 143) B hr d_Exprs_widen_143 (Nat.le_refl _) (Nat.le_refl _) ⟨rfl, xrh_v hf r_g1⟩
  have jn133 : ∀ (hz : mv_H), mv_r hz = mv_r h → f_Exprs_widen_133 32  hz = some rg → mv_V p l e ({ frames := 3, cells := 0, slots := 0, locals := 63 }) s m ([.ref (al 22), .int a0] : List Value).toArray below meth c (mg dA D al ext) 7 0 0 (mv_Q (mg dA D al ext) below s 0 0 (mv_Rv (fun σ1 => rg = σ1 ∧ mv_r σ1 = mv_r h))) hz 133 [] [.ref (al 22)] := by
    intro  hz r_hz hf
    unfold f_Exprs_widen_133 at hf
    refine mv_iconst (pc := 133) (v := 0) B d_Exprs_widen_133 (by decide) ?_
    refine mv_goto (pc := 134) (tgt := 140) B d_Exprs_widen_134 rfl ?_
    refine mv_lpick [] rfl ?_
    exact jn140 _ _ r_hz hf
  have jn123 : ∀ (x3 : Int32) (x4 : Int64) (x6 : Int32) (hz : mv_H), mv_r hz = mv_r h → f_Exprs_widen_123 32 x3 x4 x6 hz = some rg → mv_V p l e ({ frames := 3, cells := 0, slots := 0, locals := 63 }) s m ([.ref (al 22), .int a0] : List Value).toArray below meth c (mg dA D al ext) 7 0 0 (mv_Q (mg dA D al ext) below s 0 0 (mv_Rv (fun σ1 => rg = σ1 ∧ mv_r σ1 = mv_r h))) hz 123 [(0, .ref (al 22)), (3, .int x3), (4, .long x4), (6, .int x6)] [] := by
    intro x3 x4 x6 hz r_hz hf
    unfold f_Exprs_widen_123 at hf
    refine mv_aload_n (pc := 123) B d_Exprs_widen_123 rfl 0 rfl ?_
    refine mv_iload (pc := 124) B d_Exprs_widen_124 3 rfl ?_
    refine mv_if_ne (pc := 126) (tgt := 133) B d_Exprs_widen_126 rfl (fun h126 => ?_) (fun h126 => ?_)
    · skip
      have hf := xif_f h126 hf
      refine mv_lpick [] rfl ?_
      exact jn133  _ r_hz hf
    · skip
      have hf := xif_t h126 hf
      refine mv_iload_n (pc := 129) B d_Exprs_widen_129 rfl 1 rfl ?_
      refine mv_if_ne (pc := 130) (tgt := 137) B d_Exprs_widen_130 rfl (fun h130 => ?_) (fun h130 => ?_)
      · skip
        have hf := xif_f h130 hf
        refine mv_lload (pc := 137) B d_Exprs_widen_137 2 rfl ?_
        refine mv_l2i (pc := 139) B d_Exprs_widen_139 ?_
        refine mv_lpick [] rfl ?_
        exact jn140 _ _ r_hz hf
      · skip
        have hf := xif_t h130 hf
        refine mv_lpick [] rfl ?_
        exact jn133  _ r_hz hf
  have jn97 : ∀ (x1 : Int32) (x3 : Int32) (x4 : Int64) (x6 : Int32) (hz : mv_H), mv_r hz = mv_r h → f_Exprs_widen_97 32 x1 x3 x4 x6 hz = some rg → mv_V p l e ({ frames := 3, cells := 0, slots := 0, locals := 63 }) s m ([.ref (al 22), .int a0] : List Value).toArray below meth c (mg dA D al ext) 7 0 0 (mv_Q (mg dA D al ext) below s 0 0 (mv_Rv (fun σ1 => rg = σ1 ∧ mv_r σ1 = mv_r h))) hz 97 [(0, .ref (al 22)), (1, .int x1), (3, .int x3), (4, .long x4), (6, .int x6)] [] := by
    intro x1 x3 x4 x6 hz r_hz hf
    unfold f_Exprs_widen_97 at hf
    refine mv_iload_n (pc := 97) B d_Exprs_widen_97 rfl 1 rfl ?_
    refine mv_sipush (pc := 98) (v := 211) B d_Exprs_widen_98 (by decide) ?_
    refine mv_icmp_ne (pc := 101) (tgt := 123) B d_Exprs_widen_101 rfl (fun h101 => ?_) (fun h101 => ?_)
    · skip
      have hf := xif_f h101 hf
      refine mv_lpick [0, 2, 3, 4] rfl ?_
      exact jn123 _ _ _ _ r_hz hf
    · skip
      have hf := xif_t h101 hf
      refine mv_aload_n (pc := 104) B d_Exprs_widen_104 rfl 0 rfl ?_
      refine mv_getR (pc := 105) (ci := 6) (C := R_Exprs) (T := F_Exprs) (N := 11) B 3 rfl rfl (by decide) i_Exprs (B.2.2.2.1 _ k_197) rfl ((congrFun (congrFun r_hz 22) 3).trans hb.1.2.2.2) d_Exprs_widen_105 ?_
      refine mv_sipush (pc := 108) (v := 310) B d_Exprs_widen_108 (by decide) ?_
      refine mv_iload_n (pc := 111) B d_Exprs_widen_111 rfl 2 rfl ?_
      refine mv_i2l (pc := 112) B d_Exprs_widen_112 ?_
      refine mv_lload (pc := 113) B d_Exprs_widen_113 3 rfl ?_
      refine mv_bipush (pc := 115) (v := 8) B d_Exprs_widen_115 (by decide) ?_
      refine mv_lshl (pc := 117) B d_Exprs_widen_117 ?_
      refine mv_lor (pc := 118) B d_Exprs_widen_118 ?_
      obtain ⟨v3, g2, eg2, hf⟩ := xhb_e hf
      refine mv_callVi (pc := 119) (n := 2) (ci := 7) (C := R_Program) B (mK_ok sk sv) hNs rfl rfl (ch_Program_emit_a l hi _ (xrw r_hz hb) _ _ eg2) rfl (ma_goodc kc_Program_emit) (B.2.2.2.1 _ k_1425) (B.2.2.2.1 _ k_1385) (B.2.2.2.1 _ k_1386) (B.2.2.2.1 _ k_8) ⟨by decide +kernel, by decide +kernel, by decide +kernel⟩ rfl d_Exprs_widen_119 rfl (Nat.le_of_ble_eq_true rfl) ⟨by decide, by decide⟩ ⟨by decide, by decide⟩ ⟨by decide, by decide⟩ (mv_noH hno _) (fun w119 σ119 h119 => ?_)
      obtain ⟨rfl, rfl, s_g2⟩ := h119
      have r_g2 : mv_r g2 = mv_r h := s_g2.trans r_hz
      refine mv_pop (pc := 122) B d_Exprs_widen_122 rfl ?_
      refine mv_lpick [0, 2, 3, 4] rfl ?_
      exact jn123 _ _ _ _ r_g2 hf
  have jn84 : ∀ (x1 : Int32) (x2 : Int32) (x3 : Int32) (x4 : Int64) (y0 : Int32) (hz : mv_H), mv_r hz = mv_r h → f_Exprs_widen_84 32 x1 x2 x3 x4 y0 hz = some rg → mv_V p l e ({ frames := 3, cells := 0, slots := 0, locals := 63 }) s m ([.ref (al 22), .int a0] : List Value).toArray below meth c (mg dA D al ext) 7 0 0 (mv_Q (mg dA D al ext) below s 0 0 (mv_Rv (fun σ1 => rg = σ1 ∧ mv_r σ1 = mv_r h))) hz 84 [(0, .ref (al 22)), (1, .int x1), (2, .int x2), (3, .int x3), (4, .long x4)] [.int y0] := by
    intro x1 x2 x3 x4 y0 hz r_hz hf
    unfold f_Exprs_widen_84 at hf
    refine mv_istore (pc := 84) B d_Exprs_widen_84 (by decide) rfl ?_
    refine mv_iload (pc := 86) B d_Exprs_widen_86 0 rfl ?_
    refine mv_if_eq (pc := 88) (tgt := 97) B d_Exprs_widen_88 rfl (fun h88 => ?_) (fun h88 => ?_)
    · skip
      have hf := xif_t h88 hf
      refine mv_lpick [1, 2, 4, 5, 0] rfl ?_
      exact jn97 _ _ _ _ _ r_hz hf
    · skip
      have hf := xif_f h88 hf
      refine mv_aload_n (pc := 91) B d_Exprs_widen_91 rfl 1 rfl ?_
      refine mv_iload_n (pc := 92) B d_Exprs_widen_92 rfl 3 rfl ?_
      refine mv_iconst (pc := 93) (v := 3) B d_Exprs_widen_93 (by decide) ?_
      obtain ⟨g4, eg4, hf⟩ := xhv_e hf
      refine mv_callVv (pc := 94) (n := 2) (ci := 6) (C := R_Exprs) B (mK_ok sk sv) hNs rfl rfl (ch_Exprs_tell l hi _ (xrw r_hz hb.t) _ _ eg4) rfl (ma_goodc kc_Exprs_tell) (B.2.2.2.1 _ k_1427) (B.2.2.2.1 _ k_1429) (B.2.2.2.1 _ ks_50) (B.2.2.2.1 _ k_7) ⟨by decide +kernel, by decide +kernel, by decide +kernel⟩ rfl d_Exprs_widen_94 rfl (Nat.le_of_ble_eq_true rfl) ⟨by decide, by decide⟩ ⟨by decide, by decide⟩ ⟨by decide, by decide⟩ (mv_noH hno _) (fun σ94 h94 => ?_)
      obtain ⟨rfl, s_g4⟩ := h94
      have r_g4 : mv_r g4 = mv_r h := s_g4.trans r_hz
      refine mv_lpick [1, 2, 4, 5, 0] rfl ?_
      exact jn97 _ _ _ _ _ r_g4 hf
  have jn79 : ∀ (x1 : Int32) (x2 : Int32) (x3 : Int32) (x4 : Int64) (hz : mv_H), mv_r hz = mv_r h → f_Exprs_widen_79 32 x1 x2 x3 x4 hz = some rg → mv_V p l e ({ frames := 3, cells := 0, slots := 0, locals := 63 }) s m ([.ref (al 22), .int a0] : List Value).toArray below meth c (mg dA D al ext) 7 0 0 (mv_Q (mg dA D al ext) below s 0 0 (mv_Rv (fun σ1 => rg = σ1 ∧ mv_r σ1 = mv_r h))) hz 79 [(0, .ref (al 22)), (1, .int x1), (2, .int x2), (3, .int x3), (4, .long x4)] [] := by
    intro x1 x2 x3 x4 hz r_hz hf
    unfold f_Exprs_widen_79 at hf
    refine mv_iconst (pc := 79) (v := 1) B d_Exprs_widen_79 (by decide) ?_
    refine mv_goto (pc := 80) (tgt := 84) B d_Exprs_widen_80 rfl ?_
    refine mv_lpick [0, 1, 2, 3, 4] rfl ?_
    exact jn84 _ _ _ _ _ _ r_hz hf
  unfold f_Exprs_widen at hf
  refine mv_aload_n (pc := 0) B d_Exprs_widen_0 rfl 0 rfl ?_
  refine mv_getR (pc := 1) (ci := 6) (C := R_Exprs) (T := F_Exprs) (N := 11) B 0 rfl rfl (by decide) i_Exprs (B.2.2.2.1 _ k_193) rfl (hb.1.1 22 0 _ rfl) d_Exprs_widen_1 ?_
  refine mv_bipush (pc := 4) (v := 44) B d_Exprs_widen_4 (by decide) ?_
  obtain ⟨v6, g5, eg5, hf⟩ := xhb_e hf
  refine mv_callVi (pc := 6) (n := 1) (ci := 2) (C := R_Tokens) B (mK_ok sk sv) hNs rfl rfl (ch_Tokens_take l hi _ (hb.t) _ eg5) rfl (ma_goodc kc_Tokens_take) (B.2.2.2.1 _ k_1424) (B.2.2.2.1 _ k_1267) (B.2.2.2.1 _ k_1268) (B.2.2.2.1 _ k_3) ⟨by decide +kernel, by decide +kernel, by decide +kernel⟩ rfl d_Exprs_widen_6 rfl (Nat.le_of_ble_eq_true rfl) ⟨by decide, by decide⟩ ⟨by decide, by decide⟩ ⟨by decide, by decide⟩ (mv_noH hno _) (fun w6 σ6 h6 => ?_)
  obtain ⟨rfl, rfl, s_g5⟩ := h6
  have r_g5 : mv_r g5 = mv_r h := s_g5.trans rfl
  refine mv_pop (pc := 9) B d_Exprs_widen_9 rfl ?_
  refine mv_aload_n (pc := 10) B d_Exprs_widen_10 rfl 0 rfl ?_
  refine mv_getR (pc := 11) (ci := 6) (C := R_Exprs) (T := F_Exprs) (N := 11) B 0 rfl rfl (by decide) i_Exprs (B.2.2.2.1 _ k_193) rfl ((congrFun (congrFun r_g5 22) 0).trans (hb.1.1 22 0 _ rfl)) d_Exprs_widen_11 ?_
  refine mv_iconst (pc := 14) (v := 4) B d_Exprs_widen_14 (by decide) ?_
  obtain ⟨v8, g7, eg7, hf⟩ := xhb_e hf
  refine mv_callVi (pc := 15) (n := 1) (ci := 2) (C := R_Tokens) B (mK_ok sk sv) hNs rfl rfl (ch_Tokens_take l hi _ (xrw r_g5 hb.t) _ eg7) rfl (ma_goodc kc_Tokens_take) (B.2.2.2.1 _ k_1424) (B.2.2.2.1 _ k_1267) (B.2.2.2.1 _ k_1268) (B.2.2.2.1 _ k_3) ⟨by decide +kernel, by decide +kernel, by decide +kernel⟩ rfl d_Exprs_widen_15 rfl (Nat.le_of_ble_eq_true rfl) ⟨by decide, by decide⟩ ⟨by decide, by decide⟩ ⟨by decide, by decide⟩ (mv_noH hno _) (fun w15 σ15 h15 => ?_)
  obtain ⟨rfl, rfl, s_g7⟩ := h15
  have r_g7 : mv_r g7 = mv_r h := s_g7.trans r_g5
  refine mv_istore_n (pc := 18) B d_Exprs_widen_18 rfl (by decide) rfl ?_
  refine mv_aload_n (pc := 19) B d_Exprs_widen_19 rfl 1 rfl ?_
  refine mv_getR (pc := 20) (ci := 6) (C := R_Exprs) (T := F_Exprs) (N := 11) B 0 rfl rfl (by decide) i_Exprs (B.2.2.2.1 _ k_193) rfl ((congrFun (congrFun r_g7 22) 0).trans (hb.1.1 22 0 _ rfl)) d_Exprs_widen_20 ?_
  refine mv_bipush (pc := 23) (v := 41) B d_Exprs_widen_23 (by decide) ?_
  obtain ⟨v10, g9, eg9, hf⟩ := xhb_e hf
  refine mv_callVi (pc := 25) (n := 1) (ci := 2) (C := R_Tokens) B (mK_ok sk sv) hNs rfl rfl (ch_Tokens_close l hi _ (xrw r_g7 hb.t) _ eg9) rfl (ma_goodc kc_Tokens_close) (B.2.2.2.1 _ k_1468) (B.2.2.2.1 _ k_1397) (B.2.2.2.1 _ k_1398) (B.2.2.2.1 _ k_3) ⟨by decide +kernel, by decide +kernel, by decide +kernel⟩ rfl d_Exprs_widen_25 rfl (Nat.le_of_ble_eq_true rfl) ⟨by decide, by decide⟩ ⟨by decide, by decide⟩ ⟨by decide, by decide⟩ (mv_noH hno _) (fun w25 σ25 h25 => ?_)
  obtain ⟨rfl, rfl, s_g9⟩ := h25
  have r_g9 : mv_r g9 = mv_r h := s_g9.trans r_g7
  refine mv_pop (pc := 28) B d_Exprs_widen_28 rfl ?_
  refine mv_aload_n (pc := 29) B d_Exprs_widen_29 rfl 1 rfl ?_
  refine mv_dup (pc := 30) B d_Exprs_widen_30 rfl ?_
  refine mv_getI (pc := 31) (ci := 6) (C := R_Exprs) (T := F_Exprs) (N := 11) B 8 rfl rfl (by decide) i_Exprs (B.2.2.2.1 _ k_202) rfl d_Exprs_widen_31 ?_
  refine mv_iconst (pc := 34) (v := 1) B d_Exprs_widen_34 (by decide) ?_
  refine mv_isub (pc := 35) B d_Exprs_widen_35 ?_
  refine mv_putI (pc := 36) (ci := 6) (C := R_Exprs) (T := F_Exprs) (N := 11) B 8 rfl rfl (by decide) i_Exprs t_Exprs_ok n_Exprs (B.2.2.2.1 _ k_202) rfl rfl rfl rfl d_Exprs_widen_36 ?_
  refine mvh_hp (R9 := mv_r h) hf r_g9 (fun g11 hf r_g11 => ?_)
  refine mv_aload_n (pc := 39) B d_Exprs_widen_39 rfl 1 rfl ?_
  obtain ⟨v13, g12, eg12, hf⟩ := xhb_e hf
  refine mv_callVi (pc := 40) (n := 0) (ci := 6) (C := R_Exprs) B (mK_ok sk sv) hNs rfl rfl (ch_Exprs_release l hi _ (xrw r_g11 hb.t) eg12) rfl (ma_goodc kc_Exprs_release) (B.2.2.2.1 _ k_1469) (B.2.2.2.1 _ k_1470) (B.2.2.2.1 _ k_1471) (B.2.2.2.1 _ k_7) ⟨by decide +kernel, by decide +kernel, by decide +kernel⟩ rfl d_Exprs_widen_40 rfl (Nat.le_of_ble_eq_true rfl) ⟨by decide, by decide⟩ ⟨by decide, by decide⟩ ⟨by decide, by decide⟩ (mv_noH hno _) (fun w40 σ40 h40 => ?_)
  obtain ⟨rfl, rfl, s_g12⟩ := h40
  have r_g12 : mv_r g12 = mv_r h := s_g12.trans r_g11
  refine mv_istore_n (pc := 43) B d_Exprs_widen_43 rfl (by decide) rfl ?_
  refine mv_aload_n (pc := 44) B d_Exprs_widen_44 rfl 2 rfl ?_
  refine mv_getR (pc := 45) (ci := 6) (C := R_Exprs) (T := F_Exprs) (N := 11) B 0 rfl rfl (by decide) i_Exprs (B.2.2.2.1 _ k_193) rfl ((congrFun (congrFun r_g12 22) 0).trans (hb.1.1 22 0 _ rfl)) d_Exprs_widen_45 ?_
  refine mv_getR (pc := 48) (ci := 2) (C := R_Tokens) (T := F_Tokens) (N := 10) B 2 rfl rfl (by decide) i_Tokens (B.2.2.2.1 _ k_95) rfl ((congrFun (congrFun r_g12 3) 2).trans (hb.1.1 3 2 _ rfl)) d_Exprs_widen_48 ?_
  refine mv_iload_n (pc := 51) B d_Exprs_widen_51 rfl 1 rfl ?_
  obtain ⟨q14, hf⟩ := xvi_e hf
  refine mv_lald (pc := 52) B rfl q14 d_Exprs_widen_52 ?_
  refine mv_lstore (pc := 53) B d_Exprs_widen_53 (by decide) rfl ?_
  refine mv_lload (pc := 55) B d_Exprs_widen_55 0 rfl ?_
  refine mv_lconst (pc := 57) (v := 1) B d_Exprs_widen_57 (by decide) ?_
  refine mv_lcmp (pc := 58) B d_Exprs_widen_58 ?_
  refine mv_if_lt (pc := 59) (tgt := 79) B d_Exprs_widen_59 rfl (fun h59 => ?_) (fun h59 => ?_)
  · skip
    have hf := xif_t h59 hf
    refine mv_lpick [3, 4, 2, 1, 0] rfl ?_
    exact jn79 _ _ _ _ _ r_g12 hf
  · skip
    have hf := xif_f h59 hf
    refine mv_lload (pc := 62) B d_Exprs_widen_62 0 rfl ?_
    refine mv_iload_n (pc := 64) B d_Exprs_widen_64 rfl 1 rfl ?_
    refine mv_i2l (pc := 65) B d_Exprs_widen_65 ?_
    refine mv_lcmp (pc := 66) B d_Exprs_widen_66 ?_
    refine mv_if_lt (pc := 67) (tgt := 79) B d_Exprs_widen_67 rfl (fun h67 => ?_) (fun h67 => ?_)
    · skip
      have hf := xif_t h67 hf
      refine mv_lpick [3, 4, 2, 1, 0] rfl ?_
      exact jn79 _ _ _ _ _ r_g12 hf
    · skip
      have hf := xif_f h67 hf
      refine mv_lload (pc := 70) B d_Exprs_widen_70 0 rfl ?_
      refine mv_ldc2 (pc := 72) (v := 64) B (B.2.2.2.1 _ k_1426) d_Exprs_widen_72 ?_
      refine mv_lcmp (pc := 75) B d_Exprs_widen_75 ?_
      refine mv_if_le (pc := 76) (tgt := 83) B d_Exprs_widen_76 rfl (fun h76 => ?_) (fun h76 => ?_)
      · skip
        have hf := xif_t h76 hf
        refine mv_iconst (pc := 83) (v := 0) B d_Exprs_widen_83 (by decide) ?_
        refine mv_lpick [3, 4, 2, 1, 0] rfl ?_
        exact jn84 _ _ _ _ _ _ r_g12 hf
      · skip
        have hf := xif_f h76 hf
        refine mv_lpick [3, 4, 2, 1, 0] rfl ?_
        exact jn79 _ _ _ _ _ r_g12 hf
set_option maxHeartbeats 4000000 in
set_option maxRecDepth 100000 in
theorem ch_Exprs_widen_b (l : Launch) {dA : FieldType → ClassId} {D : va_G} {al : Nat → Nat} {ext : mv_Sh} {sk sv : Nat → Nat} (hi : mv_inj (mg dA D al ext)) (h : mv_H) (hb : xRP 48 (mv_r h))  (a0 : Int32) {rg : mv_H} (hf : f_Exprs_widen 48 h a0 = some rg) : mv_C l y_Exprs_widen (Cond.code y_Exprs_widen b_Exprs_widen 7 (Option.none : Option Jvm.ClassFile.FieldType) :: ma) ({ frames := 3, cells := 0, slots := 0, locals := 63 }) (mg dA D al ext) (mK sk sv) [.ref (al 22), .int a0] h (mv_Rv (fun σ1 => rg = σ1 ∧ mv_r σ1 = mv_r h)) := by
  refine mv_C.ofV (cc := b_Exprs_widen) (nL := 7) (ret := (Option.none : Option Jvm.ClassFile.FieldType)) (by decide +kernel) rfl hi (Nat.le_of_ble_eq_true rfl) ?_
  intro p e s m below meth c B hNs hr hnm hno
  have jn140 : ∀ (y0 : Int32) (hz : mv_H), mv_r hz = mv_r h → f_Exprs_widen_140 48 y0 hz = some rg → mv_V p l e ({ frames := 3, cells := 0, slots := 0, locals := 63 }) s m ([.ref (al 22), .int a0] : List Value).toArray below meth c (mg dA D al ext) 7 0 0 (mv_Q (mg dA D al ext) below s 0 0 (mv_Rv (fun σ1 => rg = σ1 ∧ mv_r σ1 = mv_r h))) hz 140 [] [.int y0, .ref (al 22)] := by
    intro y0 hz r_hz hf
    unfold f_Exprs_widen_140 at hf
    obtain ⟨g1, eg1, hf⟩ := xhv_e hf
    refine mv_callVv (pc := 140) (n := 1) (ci := 6) (C := R_Exprs) B (mK_ok sk sv) hNs rfl rfl (ch_Exprs_hold l hi _ (xrw r_hz hb.t) _ eg1) rfl (ma_goodc kc_Exprs_hold) (B.2.2.2.1 _ k_1432) (B.2.2.2.1 _ k_1434) (B.2.2.2.1 _ ks_51) (B.2.2.2.1 _ k_7) ⟨by decide +kernel, by decide +kernel, by decide +kernel⟩ rfl d_Exprs_widen_140 rfl (Nat.le_of_ble_eq_true rfl) ⟨by decide, by decide⟩ ⟨by decide, by decide⟩ ⟨by decide, by decide⟩ (mv_noH hno _) (fun σ140 h140 => ?_)
    obtain ⟨rfl, s_g1⟩ := h140
    have r_g1 : mv_r g1 = mv_r h := s_g1.trans r_hz
    exact mv_vret (pc := 143) B hr d_Exprs_widen_143 (Nat.le_refl _) (Nat.le_refl _) ⟨rfl, xrh_v hf r_g1⟩
  have jn133 : ∀ (hz : mv_H), mv_r hz = mv_r h → f_Exprs_widen_133 48  hz = some rg → mv_V p l e ({ frames := 3, cells := 0, slots := 0, locals := 63 }) s m ([.ref (al 22), .int a0] : List Value).toArray below meth c (mg dA D al ext) 7 0 0 (mv_Q (mg dA D al ext) below s 0 0 (mv_Rv (fun σ1 => rg = σ1 ∧ mv_r σ1 = mv_r h))) hz 133 [] [.ref (al 22)] := by
    intro  hz r_hz hf
    unfold f_Exprs_widen_133 at hf
    refine mv_iconst (pc := 133) (v := 0) B d_Exprs_widen_133 (by decide) ?_
    refine mv_goto (pc := 134) (tgt := 140) B d_Exprs_widen_134 rfl ?_
    refine mv_lpick [] rfl ?_
    exact jn140 _ _ r_hz hf
  have jn123 : ∀ (x3 : Int32) (x4 : Int64) (x6 : Int32) (hz : mv_H), mv_r hz = mv_r h → f_Exprs_widen_123 48 x3 x4 x6 hz = some rg → mv_V p l e ({ frames := 3, cells := 0, slots := 0, locals := 63 }) s m ([.ref (al 22), .int a0] : List Value).toArray below meth c (mg dA D al ext) 7 0 0 (mv_Q (mg dA D al ext) below s 0 0 (mv_Rv (fun σ1 => rg = σ1 ∧ mv_r σ1 = mv_r h))) hz 123 [(0, .ref (al 22)), (3, .int x3), (4, .long x4), (6, .int x6)] [] := by
    intro x3 x4 x6 hz r_hz hf
    unfold f_Exprs_widen_123 at hf
    refine mv_aload_n (pc := 123) B d_Exprs_widen_123 rfl 0 rfl ?_
    refine mv_iload (pc := 124) B d_Exprs_widen_124 3 rfl ?_
    refine mv_if_ne (pc := 126) (tgt := 133) B d_Exprs_widen_126 rfl (fun h126 => ?_) (fun h126 => ?_)
    · skip
      have hf := xif_f h126 hf
      refine mv_lpick [] rfl ?_
      exact jn133  _ r_hz hf
    · skip
      have hf := xif_t h126 hf
      refine mv_iload_n (pc := 129) B d_Exprs_widen_129 rfl 1 rfl ?_
      refine mv_if_ne (pc := 130) (tgt := 137) B d_Exprs_widen_130 rfl (fun h130 => ?_) (fun h130 => ?_)
      · skip
        have hf := xif_f h130 hf
        refine mv_lload (pc := 137) B d_Exprs_widen_137 2 rfl ?_
        refine mv_l2i (pc := 139) B d_Exprs_widen_139 ?_
        refine mv_lpick [] rfl ?_
        exact jn140 _ _ r_hz hf
      · skip
        have hf := xif_t h130 hf
        refine mv_lpick [] rfl ?_
        exact jn133  _ r_hz hf
  have jn97 : ∀ (x1 : Int32) (x3 : Int32) (x4 : Int64) (x6 : Int32) (hz : mv_H), mv_r hz = mv_r h → f_Exprs_widen_97 48 x1 x3 x4 x6 hz = some rg → mv_V p l e ({ frames := 3, cells := 0, slots := 0, locals := 63 }) s m ([.ref (al 22), .int a0] : List Value).toArray below meth c (mg dA D al ext) 7 0 0 (mv_Q (mg dA D al ext) below s 0 0 (mv_Rv (fun σ1 => rg = σ1 ∧ mv_r σ1 = mv_r h))) hz 97 [(0, .ref (al 22)), (1, .int x1), (3, .int x3), (4, .long x4), (6, .int x6)] [] := by
    intro x1 x3 x4 x6 hz r_hz hf
    unfold f_Exprs_widen_97 at hf
    refine mv_iload_n (pc := 97) B d_Exprs_widen_97 rfl 1 rfl ?_
    refine mv_sipush (pc := 98) (v := 211) B d_Exprs_widen_98 (by decide) ?_
    refine mv_icmp_ne (pc := 101) (tgt := 123) B d_Exprs_widen_101 rfl (fun h101 => ?_) (fun h101 => ?_)
    · skip
      have hf := xif_f h101 hf
      refine mv_lpick [0, 2, 3, 4] rfl ?_
      exact jn123 _ _ _ _ r_hz hf
    · skip
      have hf := xif_t h101 hf
      refine mv_aload_n (pc := 104) B d_Exprs_widen_104 rfl 0 rfl ?_
      refine mv_getR (pc := 105) (ci := 6) (C := R_Exprs) (T := F_Exprs) (N := 11) B 3 rfl rfl (by decide) i_Exprs (B.2.2.2.1 _ k_197) rfl ((congrFun (congrFun r_hz 22) 3).trans hb.1.2.2.2) d_Exprs_widen_105 ?_
      refine mv_sipush (pc := 108) (v := 310) B d_Exprs_widen_108 (by decide) ?_
      refine mv_iload_n (pc := 111) B d_Exprs_widen_111 rfl 2 rfl ?_
      refine mv_i2l (pc := 112) B d_Exprs_widen_112 ?_
      refine mv_lload (pc := 113) B d_Exprs_widen_113 3 rfl ?_
      refine mv_bipush (pc := 115) (v := 8) B d_Exprs_widen_115 (by decide) ?_
      refine mv_lshl (pc := 117) B d_Exprs_widen_117 ?_
      refine mv_lor (pc := 118) B d_Exprs_widen_118 ?_
      obtain ⟨v3, g2, eg2, hf⟩ := xhb_e hf
      refine mv_callVi (pc := 119) (n := 2) (ci := 7) (C := R_Program) B (mK_ok sk sv) hNs rfl rfl (ch_Program_emit_b l hi _ (xrw r_hz hb) _ _ eg2) rfl (ma_goodc kc_Program_emit) (B.2.2.2.1 _ k_1425) (B.2.2.2.1 _ k_1385) (B.2.2.2.1 _ k_1386) (B.2.2.2.1 _ k_8) ⟨by decide +kernel, by decide +kernel, by decide +kernel⟩ rfl d_Exprs_widen_119 rfl (Nat.le_of_ble_eq_true rfl) ⟨by decide, by decide⟩ ⟨by decide, by decide⟩ ⟨by decide, by decide⟩ (mv_noH hno _) (fun w119 σ119 h119 => ?_)
      obtain ⟨rfl, rfl, s_g2⟩ := h119
      have r_g2 : mv_r g2 = mv_r h := s_g2.trans r_hz
      refine mv_pop (pc := 122) B d_Exprs_widen_122 rfl ?_
      refine mv_lpick [0, 2, 3, 4] rfl ?_
      exact jn123 _ _ _ _ r_g2 hf
  have jn84 : ∀ (x1 : Int32) (x2 : Int32) (x3 : Int32) (x4 : Int64) (y0 : Int32) (hz : mv_H), mv_r hz = mv_r h → f_Exprs_widen_84 48 x1 x2 x3 x4 y0 hz = some rg → mv_V p l e ({ frames := 3, cells := 0, slots := 0, locals := 63 }) s m ([.ref (al 22), .int a0] : List Value).toArray below meth c (mg dA D al ext) 7 0 0 (mv_Q (mg dA D al ext) below s 0 0 (mv_Rv (fun σ1 => rg = σ1 ∧ mv_r σ1 = mv_r h))) hz 84 [(0, .ref (al 22)), (1, .int x1), (2, .int x2), (3, .int x3), (4, .long x4)] [.int y0] := by
    intro x1 x2 x3 x4 y0 hz r_hz hf
    unfold f_Exprs_widen_84 at hf
    refine mv_istore (pc := 84) B d_Exprs_widen_84 (by decide) rfl ?_
    refine mv_iload (pc := 86) B d_Exprs_widen_86 0 rfl ?_
    refine mv_if_eq (pc := 88) (tgt := 97) B d_Exprs_widen_88 rfl (fun h88 => ?_) (fun h88 => ?_)
    · skip
      have hf := xif_t h88 hf
      refine mv_lpick [1, 2, 4, 5, 0] rfl ?_
      exact jn97 _ _ _ _ _ r_hz hf
    · skip
      have hf := xif_f h88 hf
      refine mv_aload_n (pc := 91) B d_Exprs_widen_91 rfl 1 rfl ?_
      refine mv_iload_n (pc := 92) B d_Exprs_widen_92 rfl 3 rfl ?_
      refine mv_iconst (pc := 93) (v := 3) B d_Exprs_widen_93 (by decide) ?_
      obtain ⟨g4, eg4, hf⟩ := xhv_e hf
      refine mv_callVv (pc := 94) (n := 2) (ci := 6) (C := R_Exprs) B (mK_ok sk sv) hNs rfl rfl (ch_Exprs_tell l hi _ (xrw r_hz hb.t) _ _ eg4) rfl (ma_goodc kc_Exprs_tell) (B.2.2.2.1 _ k_1427) (B.2.2.2.1 _ k_1429) (B.2.2.2.1 _ ks_50) (B.2.2.2.1 _ k_7) ⟨by decide +kernel, by decide +kernel, by decide +kernel⟩ rfl d_Exprs_widen_94 rfl (Nat.le_of_ble_eq_true rfl) ⟨by decide, by decide⟩ ⟨by decide, by decide⟩ ⟨by decide, by decide⟩ (mv_noH hno _) (fun σ94 h94 => ?_)
      obtain ⟨rfl, s_g4⟩ := h94
      have r_g4 : mv_r g4 = mv_r h := s_g4.trans r_hz
      refine mv_lpick [1, 2, 4, 5, 0] rfl ?_
      exact jn97 _ _ _ _ _ r_g4 hf
  have jn79 : ∀ (x1 : Int32) (x2 : Int32) (x3 : Int32) (x4 : Int64) (hz : mv_H), mv_r hz = mv_r h → f_Exprs_widen_79 48 x1 x2 x3 x4 hz = some rg → mv_V p l e ({ frames := 3, cells := 0, slots := 0, locals := 63 }) s m ([.ref (al 22), .int a0] : List Value).toArray below meth c (mg dA D al ext) 7 0 0 (mv_Q (mg dA D al ext) below s 0 0 (mv_Rv (fun σ1 => rg = σ1 ∧ mv_r σ1 = mv_r h))) hz 79 [(0, .ref (al 22)), (1, .int x1), (2, .int x2), (3, .int x3), (4, .long x4)] [] := by
    intro x1 x2 x3 x4 hz r_hz hf
    unfold f_Exprs_widen_79 at hf
    refine mv_iconst (pc := 79) (v := 1) B d_Exprs_widen_79 (by decide) ?_
    refine mv_goto (pc := 80) (tgt := 84) B d_Exprs_widen_80 rfl ?_
    refine mv_lpick [0, 1, 2, 3, 4] rfl ?_
    exact jn84 _ _ _ _ _ _ r_hz hf
  unfold f_Exprs_widen at hf
  refine mv_aload_n (pc := 0) B d_Exprs_widen_0 rfl 0 rfl ?_
  refine mv_getR (pc := 1) (ci := 6) (C := R_Exprs) (T := F_Exprs) (N := 11) B 0 rfl rfl (by decide) i_Exprs (B.2.2.2.1 _ k_193) rfl (hb.1.1 22 0 _ rfl) d_Exprs_widen_1 ?_
  refine mv_bipush (pc := 4) (v := 44) B d_Exprs_widen_4 (by decide) ?_
  obtain ⟨v6, g5, eg5, hf⟩ := xhb_e hf
  refine mv_callVi (pc := 6) (n := 1) (ci := 2) (C := R_Tokens) B (mK_ok sk sv) hNs rfl rfl (ch_Tokens_take l hi _ (hb.t) _ eg5) rfl (ma_goodc kc_Tokens_take) (B.2.2.2.1 _ k_1424) (B.2.2.2.1 _ k_1267) (B.2.2.2.1 _ k_1268) (B.2.2.2.1 _ k_3) ⟨by decide +kernel, by decide +kernel, by decide +kernel⟩ rfl d_Exprs_widen_6 rfl (Nat.le_of_ble_eq_true rfl) ⟨by decide, by decide⟩ ⟨by decide, by decide⟩ ⟨by decide, by decide⟩ (mv_noH hno _) (fun w6 σ6 h6 => ?_)
  obtain ⟨rfl, rfl, s_g5⟩ := h6
  have r_g5 : mv_r g5 = mv_r h := s_g5.trans rfl
  refine mv_pop (pc := 9) B d_Exprs_widen_9 rfl ?_
  refine mv_aload_n (pc := 10) B d_Exprs_widen_10 rfl 0 rfl ?_
  refine mv_getR (pc := 11) (ci := 6) (C := R_Exprs) (T := F_Exprs) (N := 11) B 0 rfl rfl (by decide) i_Exprs (B.2.2.2.1 _ k_193) rfl ((congrFun (congrFun r_g5 22) 0).trans (hb.1.1 22 0 _ rfl)) d_Exprs_widen_11 ?_
  refine mv_iconst (pc := 14) (v := 4) B d_Exprs_widen_14 (by decide) ?_
  obtain ⟨v8, g7, eg7, hf⟩ := xhb_e hf
  refine mv_callVi (pc := 15) (n := 1) (ci := 2) (C := R_Tokens) B (mK_ok sk sv) hNs rfl rfl (ch_Tokens_take l hi _ (xrw r_g5 hb.t) _ eg7) rfl (ma_goodc kc_Tokens_take) (B.2.2.2.1 _ k_1424) (B.2.2.2.1 _ k_1267) (B.2.2.2.1 _ k_1268) (B.2.2.2.1 _ k_3) ⟨by decide +kernel, by decide +kernel, by decide +kernel⟩ rfl d_Exprs_widen_15 rfl (Nat.le_of_ble_eq_true rfl) ⟨by decide, by decide⟩ ⟨by decide, by decide⟩ ⟨by decide, by decide⟩ (mv_noH hno _) (fun w15 σ15 h15 => ?_)
  obtain ⟨rfl, rfl, s_g7⟩ := h15
  have r_g7 : mv_r g7 = mv_r h := s_g7.trans r_g5
  refine mv_istore_n (pc := 18) B d_Exprs_widen_18 rfl (by decide) rfl ?_
  refine mv_aload_n (pc := 19) B d_Exprs_widen_19 rfl 1 rfl ?_
  refine mv_getR (pc := 20) (ci := 6) (C := R_Exprs) (T := F_Exprs) (N := 11) B 0 rfl rfl (by decide) i_Exprs (B.2.2.2.1 _ k_193) rfl ((congrFun (congrFun r_g7 22) 0).trans (hb.1.1 22 0 _ rfl)) d_Exprs_widen_20 ?_
  refine mv_bipush (pc := 23) (v := 41) B d_Exprs_widen_23 (by decide) ?_
  obtain ⟨v10, g9, eg9, hf⟩ := xhb_e hf
  refine mv_callVi (pc := 25) (n := 1) (ci := 2) (C := R_Tokens) B (mK_ok sk sv) hNs rfl rfl (ch_Tokens_close l hi _ (xrw r_g7 hb.t) _ eg9) rfl (ma_goodc kc_Tokens_close) (B.2.2.2.1 _ k_1468) (B.2.2.2.1 _ k_1397) (B.2.2.2.1 _ k_1398) (B.2.2.2.1 _ k_3) ⟨by decide +kernel, by decide +kernel, by decide +kernel⟩ rfl d_Exprs_widen_25 rfl (Nat.le_of_ble_eq_true rfl) ⟨by decide, by decide⟩ ⟨by decide, by decide⟩ ⟨by decide, by decide⟩ (mv_noH hno _) (fun w25 σ25 h25 => ?_)
  obtain ⟨rfl, rfl, s_g9⟩ := h25
  have r_g9 : mv_r g9 = mv_r h := s_g9.trans r_g7
  refine mv_pop (pc := 28) B d_Exprs_widen_28 rfl ?_
  refine mv_aload_n (pc := 29) B d_Exprs_widen_29 rfl 1 rfl ?_
  refine mv_dup (pc := 30) B d_Exprs_widen_30 rfl ?_
  refine mv_getI (pc := 31) (ci := 6) (C := R_Exprs) (T := F_Exprs) (N := 11) B 8 rfl rfl (by decide) i_Exprs (B.2.2.2.1 _ k_202) rfl d_Exprs_widen_31 ?_
  refine mv_iconst (pc := 34) (v := 1) B d_Exprs_widen_34 (by decide) ?_
  refine mv_isub (pc := 35) B d_Exprs_widen_35 ?_
  refine mv_putI (pc := 36) (ci := 6) (C := R_Exprs) (T := F_Exprs) (N := 11) B 8 rfl rfl (by decide) i_Exprs t_Exprs_ok n_Exprs (B.2.2.2.1 _ k_202) rfl rfl rfl rfl d_Exprs_widen_36 ?_
  refine mvh_hp (R9 := mv_r h) hf r_g9 (fun g11 hf r_g11 => ?_)
  refine mv_aload_n (pc := 39) B d_Exprs_widen_39 rfl 1 rfl ?_
  obtain ⟨v13, g12, eg12, hf⟩ := xhb_e hf
  refine mv_callVi (pc := 40) (n := 0) (ci := 6) (C := R_Exprs) B (mK_ok sk sv) hNs rfl rfl (ch_Exprs_release l hi _ (xrw r_g11 hb.t) eg12) rfl (ma_goodc kc_Exprs_release) (B.2.2.2.1 _ k_1469) (B.2.2.2.1 _ k_1470) (B.2.2.2.1 _ k_1471) (B.2.2.2.1 _ k_7) ⟨by decide +kernel, by decide +kernel, by decide +kernel⟩ rfl d_Exprs_widen_40 rfl (Nat.le_of_ble_eq_true rfl) ⟨by decide, by decide⟩ ⟨by decide, by decide⟩ ⟨by decide, by decide⟩ (mv_noH hno _) (fun w40 σ40 h40 => ?_)
  obtain ⟨rfl, rfl, s_g12⟩ := h40
  have r_g12 : mv_r g12 = mv_r h := s_g12.trans r_g11
  refine mv_istore_n (pc := 43) B d_Exprs_widen_43 rfl (by decide) rfl ?_
  refine mv_aload_n (pc := 44) B d_Exprs_widen_44 rfl 2 rfl ?_
  refine mv_getR (pc := 45) (ci := 6) (C := R_Exprs) (T := F_Exprs) (N := 11) B 0 rfl rfl (by decide) i_Exprs (B.2.2.2.1 _ k_193) rfl ((congrFun (congrFun r_g12 22) 0).trans (hb.1.1 22 0 _ rfl)) d_Exprs_widen_45 ?_
  refine mv_getR (pc := 48) (ci := 2) (C := R_Tokens) (T := F_Tokens) (N := 10) B 2 rfl rfl (by decide) i_Tokens (B.2.2.2.1 _ k_95) rfl ((congrFun (congrFun r_g12 3) 2).trans (hb.1.1 3 2 _ rfl)) d_Exprs_widen_48 ?_
  refine mv_iload_n (pc := 51) B d_Exprs_widen_51 rfl 1 rfl ?_
  obtain ⟨q14, hf⟩ := xvi_e hf
  refine mv_lald (pc := 52) B rfl q14 d_Exprs_widen_52 ?_
  refine mv_lstore (pc := 53) B d_Exprs_widen_53 (by decide) rfl ?_
  refine mv_lload (pc := 55) B d_Exprs_widen_55 0 rfl ?_
  refine mv_lconst (pc := 57) (v := 1) B d_Exprs_widen_57 (by decide) ?_
  refine mv_lcmp (pc := 58) B d_Exprs_widen_58 ?_
  refine mv_if_lt (pc := 59) (tgt := 79) B d_Exprs_widen_59 rfl (fun h59 => ?_) (fun h59 => ?_)
  · skip
    have hf := xif_t h59 hf
    refine mv_lpick [3, 4, 2, 1, 0] rfl ?_
    exact jn79 _ _ _ _ _ r_g12 hf
  · skip
    have hf := xif_f h59 hf
    refine mv_lload (pc := 62) B d_Exprs_widen_62 0 rfl ?_
    refine mv_iload_n (pc := 64) B d_Exprs_widen_64 rfl 1 rfl ?_
    refine mv_i2l (pc := 65) B d_Exprs_widen_65 ?_
    refine mv_lcmp (pc := 66) B d_Exprs_widen_66 ?_
    refine mv_if_lt (pc := 67) (tgt := 79) B d_Exprs_widen_67 rfl (fun h67 => ?_) (fun h67 => ?_)
    · skip
      have hf := xif_t h67 hf
      refine mv_lpick [3, 4, 2, 1, 0] rfl ?_
      exact jn79 _ _ _ _ _ r_g12 hf
    · skip
      have hf := xif_f h67 hf
      refine mv_lload (pc := 70) B d_Exprs_widen_70 0 rfl ?_
      refine mv_ldc2 (pc := 72) (v := 64) B (B.2.2.2.1 _ k_1426) d_Exprs_widen_72 ?_
      refine mv_lcmp (pc := 75) B d_Exprs_widen_75 ?_
      refine mv_if_le (pc := 76) (tgt := 83) B d_Exprs_widen_76 rfl (fun h76 => ?_) (fun h76 => ?_)
      · skip
        have hf := xif_t h76 hf
        refine mv_iconst (pc := 83) (v := 0) B d_Exprs_widen_83 (by decide) ?_
        refine mv_lpick [3, 4, 2, 1, 0] rfl ?_
        exact jn84 _ _ _ _ _ _ r_g12 hf
      · skip
        have hf := xif_f h76 hf
        refine mv_lpick [3, 4, 2, 1, 0] rfl ?_
        exact jn79 _ _ _ _ _ r_g12 hf
def f_Exprs_goOn_272 (P : Nat) (hz : mv_H) : Option (Int32 × mv_H) := some ((1 : Int32), hz)
def f_Exprs_goOn_265 (P : Nat) (hz : mv_H) : Option (Int32 × mv_H) := xhv (f_Tokens_wrong hz) fun g1 => f_Exprs_goOn_272 P  g1
def f_Exprs_goOn_204 (P : Nat) (x1 : Int32) (x2 : Int32) (x3 : Int32) (hz : mv_H) : Option (Int32 × mv_H) := if x2 < (213 : Int32) then (f_Exprs_goOn_265 P  hz) else (if (216 : Int32) < x2 then (f_Exprs_goOn_265 P  hz) else (if x1 = (41 : Int32) then (if x3 = (0 : Int32) then (xhb (f_Tokens_close hz (41 : Int32)) fun v3 g2 => xk (mv_si g2 22 8 ((mv_i g2 22 8) - (1 : Int32))) fun g4 => bif xvi (mv_i g4 22 8) 1024 then xhv (f_Exprs_ofTwo P g4 x2 (mv_a g4 24 ((mv_i g4 22 8)).toNatClampNeg)) fun g6 => f_Exprs_goOn_272 P  g6 else none) else (f_Exprs_goOn_265 P  hz)) else (f_Exprs_goOn_265 P  hz)))
def f_Exprs_goOn_156 (P : Nat) (x1 : Int32) (x2 : Int32) (x3 : Int32) (hz : mv_H) : Option (Int32 × mv_H) := if x2 < (213 : Int32) then (f_Exprs_goOn_204 P x1 x2 x3 hz) else (if (216 : Int32) < x2 then (f_Exprs_goOn_204 P x1 x2 x3 hz) else (if x1 = (44 : Int32) then (if x3 = (0 : Int32) then (f_Exprs_goOn_204 P x1 x2 x3 hz) else (xhb (f_Tokens_take hz (44 : Int32)) fun v8 g7 => bif xvi ((mv_i g7 22 8) - (1 : Int32)) 1024 then xk (mv_sa g7 25 (((mv_i g7 22 8) - (1 : Int32))).toNatClampNeg (1 : Int32)) fun g10 => some ((0 : Int32), g10) else none)) else (f_Exprs_goOn_204 P x1 x2 x3 hz)))
def f_Exprs_goOn_142 (P : Nat) (x1 : Int32) (x2 : Int32) (x3 : Int32) (hz : mv_H) : Option (Int32 × mv_H) := if x1 = (44 : Int32) then (xhv (f_Exprs_widen P hz x2) fun g11 => f_Exprs_goOn_272 P  g11) else (f_Exprs_goOn_156 P x1 x2 x3 hz)
def f_Exprs_goOn_128 (P : Nat) (x1 : Int32) (x2 : Int32) (x3 : Int32) (hz : mv_H) : Option (Int32 × mv_H) := if x2 = (211 : Int32) then (f_Exprs_goOn_142 P x1 x2 x3 hz) else (if x2 = (212 : Int32) then (f_Exprs_goOn_142 P x1 x2 x3 hz) else (f_Exprs_goOn_156 P x1 x2 x3 hz))
def f_Exprs_goOn_93 (P : Nat) (x1 : Int32) (x2 : Int32) (x3 : Int32) (hz : mv_H) : Option (Int32 × mv_H) := if x2 = (40 : Int32) then (if x1 = (41 : Int32) then (xhb (f_Tokens_close hz (41 : Int32)) fun v13 g12 => xk (mv_si g12 22 8 ((mv_i g12 22 8) - (1 : Int32))) fun g14 => f_Exprs_goOn_272 P  g14) else (f_Exprs_goOn_128 P x1 x2 x3 hz)) else (f_Exprs_goOn_128 P x1 x2 x3 hz)
def f_Exprs_goOn_74 (P : Nat) (x1 : Int32) (x2 : Int32) (x3 : Int32) (hz : mv_H) : Option (Int32 × mv_H) := if x2 = (91 : Int32) then (if x1 = (93 : Int32) then (xhv (f_Exprs_cell P hz) fun g15 => f_Exprs_goOn_272 P  g15) else (f_Exprs_goOn_93 P x1 x2 x3 hz)) else (f_Exprs_goOn_93 P x1 x2 x3 hz)
def f_Exprs_goOn_68 (P : Nat) (x1 : Int32) (hz : mv_H) : Option (Int32 × mv_H) := xhb (f_Exprs_join P hz x1) fun v17 g16 => some (v17, g16)
def f_Exprs_goOn_50 (P : Nat) (x1 : Int32) (x2 : Int32) (x3 : Int32) (hz : mv_H) : Option (Int32 × mv_H) := if x2 = (123 : Int32) then (if x1 = (44 : Int32) then (f_Exprs_goOn_68 P x1 hz) else (if x1 = (125 : Int32) then (f_Exprs_goOn_68 P x1 hz) else (f_Exprs_goOn_74 P x1 x2 x3 hz))) else (f_Exprs_goOn_74 P x1 x2 x3 hz)
def f_Exprs_goOn_31 (P : Nat) (x1 : Int32) (x2 : Int32) (y0 : Int32) (hz : mv_H) : Option (Int32 × mv_H) := if x2 = (63 : Int32) then (if x1 = (58 : Int32) then (xhv (f_Exprs_otherwise P hz) fun g18 => some ((0 : Int32), g18)) else (f_Exprs_goOn_50 P x1 x2 y0 hz)) else (f_Exprs_goOn_50 P x1 x2 y0 hz)
def f_Exprs_goOn (P : Nat) (h : mv_H) (a0 : Int32) : Option (Int32 × mv_H) := bif xvi ((mv_i h 22 8) - (1 : Int32)) 1024 then bif xvi ((mv_i h 22 8) - (1 : Int32)) 1024 then if (mv_a h 25 (((mv_i h 22 8) - (1 : Int32))).toNatClampNeg) = (0 : Int32) then (f_Exprs_goOn_31 P a0 (mv_a h 23 (((mv_i h 22 8) - (1 : Int32))).toNatClampNeg) (1 : Int32) h) else (f_Exprs_goOn_31 P a0 (mv_a h 23 (((mv_i h 22 8) - (1 : Int32))).toNatClampNeg) (0 : Int32) h) else none else none
set_option maxHeartbeats 4000000 in
set_option maxRecDepth 100000 in
theorem ch_Exprs_goOn_a (l : Launch) {dA : FieldType → ClassId} {D : va_G} {al : Nat → Nat} {ext : mv_Sh} {sk sv : Nat → Nat} (hi : mv_inj (mg dA D al ext)) (h : mv_H) (hb : xRP 32 (mv_r h))  (a0 : Int32) {rv : Int32} {rg : mv_H} (hf : f_Exprs_goOn 32 h a0 = some (rv, rg)) : mv_C l y_Exprs_goOn (Cond.code y_Exprs_goOn b_Exprs_goOn 4 (Option.some Jvm.ClassFile.FieldType.int) :: ma) ({ frames := 4, cells := 0, slots := 0, locals := 89 }) (mg dA D al ext) (mK sk sv) [.ref (al 22), .int a0] h (mv_Ri (fun v σ1 => rv = v ∧ rg = σ1 ∧ mv_r σ1 = mv_r h)) := by
  refine mv_C.ofV (cc := b_Exprs_goOn) (nL := 4) (ret := (Option.some Jvm.ClassFile.FieldType.int)) (by decide +kernel) rfl hi (Nat.le_of_ble_eq_true rfl) ?_
  intro p e s m below meth c B hNs hr hnm hno
  have jn272 : ∀ (hz : mv_H), mv_r hz = mv_r h → f_Exprs_goOn_272 32  hz = some (rv, rg) → mv_V p l e ({ frames := 4, cells := 0, slots := 0, locals := 89 }) s m ([.ref (al 22), .int a0] : List Value).toArray below meth c (mg dA D al ext) 4 0 0 (mv_Q (mg dA D al ext) below s 0 0 (mv_Ri (fun v σ1 => rv = v ∧ rg = σ1 ∧ mv_r σ1 = mv_r h))) hz 272 [] [] := by
    intro  hz r_hz hf
    unfold f_Exprs_goOn_272 at hf
    refine mv_iconst (pc := 272) (v := 1) B d_Exprs_goOn_272 (by decide) ?_
    exact mv_iret (pc := 273) B hr rfl d_Exprs_goOn_273 (Nat.le_refl _) (Nat.le_refl _) ⟨_, rfl, xrh_i hf r_hz⟩
  have jn265 : ∀ (hz : mv_H), mv_r hz = mv_r h → f_Exprs_goOn_265 32  hz = some (rv, rg) → mv_V p l e ({ frames := 4, cells := 0, slots := 0, locals := 89 }) s m ([.ref (al 22), .int a0] : List Value).toArray below meth c (mg dA D al ext) 4 0 0 (mv_Q (mg dA D al ext) below s 0 0 (mv_Ri (fun v σ1 => rv = v ∧ rg = σ1 ∧ mv_r σ1 = mv_r h))) hz 265 [(0, .ref (al 22))] [] := by
    intro  hz r_hz hf
    unfold f_Exprs_goOn_265 at hf
    refine mv_aload_n (pc := 265) B d_Exprs_goOn_265 rfl 0 rfl ?_
    refine mv_getR (pc := 266) (ci := 6) (C := R_Exprs) (T := F_Exprs) (N := 11) B 0 rfl rfl (by decide) i_Exprs (B.2.2.2.1 _ k_193) rfl ((congrFun (congrFun r_hz 22) 0).trans (hb.1.1 22 0 _ rfl)) d_Exprs_goOn_266 ?_
    obtain ⟨g1, eg1, hf⟩ := xhv_e hf
    refine mv_callVv (pc := 269) (n := 0) (ci := 2) (C := R_Tokens) B (mK_ok sk sv) hNs rfl rfl (ch_Tokens_wrong l hi _ (xrw r_hz hb.t) eg1) rfl (ma_goodc kc_Tokens_wrong) (B.2.2.2.1 _ k_1459) (B.2.2.2.1 _ k_1275) (B.2.2.2.1 _ k_1276) (B.2.2.2.1 _ k_3) ⟨by decide +kernel, by decide +kernel, by decide +kernel⟩ rfl d_Exprs_goOn_269 rfl (Nat.le_of_ble_eq_true rfl) ⟨by decide, by decide⟩ ⟨by decide, by decide⟩ ⟨by decide, by decide⟩ (mv_noH hno _) (fun σ269 h269 => ?_)
    obtain ⟨rfl, s_g1⟩ := h269
    have r_g1 : mv_r g1 = mv_r h := s_g1.trans r_hz
    refine mv_lpick [] rfl ?_
    exact jn272  _ r_g1 hf
  have jn204 : ∀ (x1 : Int32) (x2 : Int32) (x3 : Int32) (hz : mv_H), mv_r hz = mv_r h → f_Exprs_goOn_204 32 x1 x2 x3 hz = some (rv, rg) → mv_V p l e ({ frames := 4, cells := 0, slots := 0, locals := 89 }) s m ([.ref (al 22), .int a0] : List Value).toArray below meth c (mg dA D al ext) 4 0 0 (mv_Q (mg dA D al ext) below s 0 0 (mv_Ri (fun v σ1 => rv = v ∧ rg = σ1 ∧ mv_r σ1 = mv_r h))) hz 204 [(0, .ref (al 22)), (1, .int x1), (2, .int x2), (3, .int x3)] [] := by
    intro x1 x2 x3 hz r_hz hf
    unfold f_Exprs_goOn_204 at hf
    refine mv_iload_n (pc := 204) B d_Exprs_goOn_204 rfl 2 rfl ?_
    refine mv_sipush (pc := 205) (v := 213) B d_Exprs_goOn_205 (by decide) ?_
    refine mv_icmp_lt (pc := 208) (tgt := 265) B d_Exprs_goOn_208 rfl (fun h208 => ?_) (fun h208 => ?_)
    · skip
      have hf := xif_t h208 hf
      refine mv_lpick [0] rfl ?_
      exact jn265  _ r_hz hf
    · skip
      have hf := xif_f h208 hf
      refine mv_iload_n (pc := 211) B d_Exprs_goOn_211 rfl 2 rfl ?_
      refine mv_sipush (pc := 212) (v := 216) B d_Exprs_goOn_212 (by decide) ?_
      refine mv_icmp_gt (pc := 215) (tgt := 265) B d_Exprs_goOn_215 rfl (fun h215 => ?_) (fun h215 => ?_)
      · skip
        have hf := xif_t h215 hf
        refine mv_lpick [0] rfl ?_
        exact jn265  _ r_hz hf
      · skip
        have hf := xif_f h215 hf
        refine mv_iload_n (pc := 218) B d_Exprs_goOn_218 rfl 1 rfl ?_
        refine mv_bipush (pc := 219) (v := 41) B d_Exprs_goOn_219 (by decide) ?_
        refine mv_icmp_ne (pc := 221) (tgt := 265) B d_Exprs_goOn_221 rfl (fun h221 => ?_) (fun h221 => ?_)
        · skip
          have hf := xif_f h221 hf
          refine mv_lpick [0] rfl ?_
          exact jn265  _ r_hz hf
        · skip
          have hf := xif_t h221 hf
          refine mv_iload_n (pc := 224) B d_Exprs_goOn_224 rfl 3 rfl ?_
          refine mv_if_ne (pc := 225) (tgt := 265) B d_Exprs_goOn_225 rfl (fun h225 => ?_) (fun h225 => ?_)
          · skip
            have hf := xif_f h225 hf
            refine mv_lpick [0] rfl ?_
            exact jn265  _ r_hz hf
          · skip
            have hf := xif_t h225 hf
            refine mv_aload_n (pc := 228) B d_Exprs_goOn_228 rfl 0 rfl ?_
            refine mv_getR (pc := 229) (ci := 6) (C := R_Exprs) (T := F_Exprs) (N := 11) B 0 rfl rfl (by decide) i_Exprs (B.2.2.2.1 _ k_193) rfl ((congrFun (congrFun r_hz 22) 0).trans (hb.1.1 22 0 _ rfl)) d_Exprs_goOn_229 ?_
            refine mv_bipush (pc := 232) (v := 41) B d_Exprs_goOn_232 (by decide) ?_
            obtain ⟨v3, g2, eg2, hf⟩ := xhb_e hf
            refine mv_callVi (pc := 234) (n := 1) (ci := 2) (C := R_Tokens) B (mK_ok sk sv) hNs rfl rfl (ch_Tokens_close l hi _ (xrw r_hz hb.t) _ eg2) rfl (ma_goodc kc_Tokens_close) (B.2.2.2.1 _ k_1468) (B.2.2.2.1 _ k_1397) (B.2.2.2.1 _ k_1398) (B.2.2.2.1 _ k_3) ⟨by decide +kernel, by decide +kernel, by decide +kernel⟩ rfl d_Exprs_goOn_234 rfl (Nat.le_of_ble_eq_true rfl) ⟨by decide, by decide⟩ ⟨by decide, by decide⟩ ⟨by decide, by decide⟩ (mv_noH hno _) (fun w234 σ234 h234 => ?_)
            obtain ⟨rfl, rfl, s_g2⟩ := h234
            have r_g2 : mv_r g2 = mv_r h := s_g2.trans r_hz
            refine mv_pop (pc := 237) B d_Exprs_goOn_237 rfl ?_
            refine mv_aload_n (pc := 238) B d_Exprs_goOn_238 rfl 0 rfl ?_
            refine mv_dup (pc := 239) B d_Exprs_goOn_239 rfl ?_
            refine mv_getI (pc := 240) (ci := 6) (C := R_Exprs) (T := F_Exprs) (N := 11) B 8 rfl rfl (by decide) i_Exprs (B.2.2.2.1 _ k_202) rfl d_Exprs_goOn_240 ?_
            refine mv_iconst (pc := 243) (v := 1) B d_Exprs_goOn_243 (by decide) ?_
            refine mv_isub (pc := 244) B d_Exprs_goOn_244 ?_
            refine mv_putI (pc := 245) (ci := 6) (C := R_Exprs) (T := F_Exprs) (N := 11) B 8 rfl rfl (by decide) i_Exprs t_Exprs_ok n_Exprs (B.2.2.2.1 _ k_202) rfl rfl rfl rfl d_Exprs_goOn_245 ?_
            refine mvh_hp (R9 := mv_r h) hf r_g2 (fun g4 hf r_g4 => ?_)
            refine mv_aload_n (pc := 248) B d_Exprs_goOn_248 rfl 0 rfl ?_
            refine mv_iload_n (pc := 249) B d_Exprs_goOn_249 rfl 2 rfl ?_
            refine mv_aload_n (pc := 250) B d_Exprs_goOn_250 rfl 0 rfl ?_
            refine mv_getR (pc := 251) (ci := 6) (C := R_Exprs) (T := F_Exprs) (N := 11) B 5 rfl rfl (by decide) i_Exprs (B.2.2.2.1 _ k_199) rfl ((congrFun (congrFun r_g4 22) 5).trans (hb.1.1 22 5 _ rfl)) d_Exprs_goOn_251 ?_
            refine mv_aload_n (pc := 254) B d_Exprs_goOn_254 rfl 0 rfl ?_
            refine mv_getI (pc := 255) (ci := 6) (C := R_Exprs) (T := F_Exprs) (N := 11) B 8 rfl rfl (by decide) i_Exprs (B.2.2.2.1 _ k_202) rfl d_Exprs_goOn_255 ?_
            obtain ⟨q5, hf⟩ := xvi_e hf
            refine mv_iald (pc := 258) B rfl q5 d_Exprs_goOn_258 ?_
            obtain ⟨g6, eg6, hf⟩ := xhv_e hf
            refine mv_callVv (pc := 259) (n := 2) (ci := 6) (C := R_Exprs) B (mK_ok sk sv) hNs rfl rfl (ch_Exprs_ofTwo_a l hi _ (xrw r_g4 hb) _ _ eg6) rfl (ma_goodc kc_Exprs_ofTwo) (B.2.2.2.1 _ k_1489) (B.2.2.2.1 _ k_1491) (B.2.2.2.1 _ ks_57) (B.2.2.2.1 _ k_7) ⟨by decide +kernel, by decide +kernel, by decide +kernel⟩ rfl d_Exprs_goOn_259 rfl (Nat.le_of_ble_eq_true rfl) ⟨by decide, by decide⟩ ⟨by decide, by decide⟩ ⟨by decide, by decide⟩ (mv_noH hno _) (fun σ259 h259 => ?_)
            obtain ⟨rfl, s_g6⟩ := h259
            have r_g6 : mv_r g6 = mv_r h := s_g6.trans r_g4
            refine mv_goto (pc := 262) (tgt := 272) B d_Exprs_goOn_262 rfl ?_
            refine mv_lpick [] rfl ?_
            exact jn272  _ r_g6 hf
  have jn156 : ∀ (x1 : Int32) (x2 : Int32) (x3 : Int32) (hz : mv_H), mv_r hz = mv_r h → f_Exprs_goOn_156 32 x1 x2 x3 hz = some (rv, rg) → mv_V p l e ({ frames := 4, cells := 0, slots := 0, locals := 89 }) s m ([.ref (al 22), .int a0] : List Value).toArray below meth c (mg dA D al ext) 4 0 0 (mv_Q (mg dA D al ext) below s 0 0 (mv_Ri (fun v σ1 => rv = v ∧ rg = σ1 ∧ mv_r σ1 = mv_r h))) hz 156 [(0, .ref (al 22)), (1, .int x1), (2, .int x2), (3, .int x3)] [] := by
    intro x1 x2 x3 hz r_hz hf
    unfold f_Exprs_goOn_156 at hf
    refine mv_iload_n (pc := 156) B d_Exprs_goOn_156 rfl 2 rfl ?_
    refine mv_sipush (pc := 157) (v := 213) B d_Exprs_goOn_157 (by decide) ?_
    refine mv_icmp_lt (pc := 160) (tgt := 204) B d_Exprs_goOn_160 rfl (fun h160 => ?_) (fun h160 => ?_)
    · skip
      have hf := xif_t h160 hf
      refine mv_lpick [0, 1, 2, 3] rfl ?_
      exact jn204 _ _ _ _ r_hz hf
    · skip
      have hf := xif_f h160 hf
      refine mv_iload_n (pc := 163) B d_Exprs_goOn_163 rfl 2 rfl ?_
      refine mv_sipush (pc := 164) (v := 216) B d_Exprs_goOn_164 (by decide) ?_
      refine mv_icmp_gt (pc := 167) (tgt := 204) B d_Exprs_goOn_167 rfl (fun h167 => ?_) (fun h167 => ?_)
      · skip
        have hf := xif_t h167 hf
        refine mv_lpick [0, 1, 2, 3] rfl ?_
        exact jn204 _ _ _ _ r_hz hf
      · skip
        have hf := xif_f h167 hf
        refine mv_iload_n (pc := 170) B d_Exprs_goOn_170 rfl 1 rfl ?_
        refine mv_bipush (pc := 171) (v := 44) B d_Exprs_goOn_171 (by decide) ?_
        refine mv_icmp_ne (pc := 173) (tgt := 204) B d_Exprs_goOn_173 rfl (fun h173 => ?_) (fun h173 => ?_)
        · skip
          have hf := xif_f h173 hf
          refine mv_lpick [0, 1, 2, 3] rfl ?_
          exact jn204 _ _ _ _ r_hz hf
        · skip
          have hf := xif_t h173 hf
          refine mv_iload_n (pc := 176) B d_Exprs_goOn_176 rfl 3 rfl ?_
          refine mv_if_eq (pc := 177) (tgt := 204) B d_Exprs_goOn_177 rfl (fun h177 => ?_) (fun h177 => ?_)
          · skip
            have hf := xif_t h177 hf
            refine mv_lpick [0, 1, 2, 3] rfl ?_
            exact jn204 _ _ _ _ r_hz hf
          · skip
            have hf := xif_f h177 hf
            refine mv_aload_n (pc := 180) B d_Exprs_goOn_180 rfl 0 rfl ?_
            refine mv_getR (pc := 181) (ci := 6) (C := R_Exprs) (T := F_Exprs) (N := 11) B 0 rfl rfl (by decide) i_Exprs (B.2.2.2.1 _ k_193) rfl ((congrFun (congrFun r_hz 22) 0).trans (hb.1.1 22 0 _ rfl)) d_Exprs_goOn_181 ?_
            refine mv_bipush (pc := 184) (v := 44) B d_Exprs_goOn_184 (by decide) ?_
            obtain ⟨v8, g7, eg7, hf⟩ := xhb_e hf
            refine mv_callVi (pc := 186) (n := 1) (ci := 2) (C := R_Tokens) B (mK_ok sk sv) hNs rfl rfl (ch_Tokens_take l hi _ (xrw r_hz hb.t) _ eg7) rfl (ma_goodc kc_Tokens_take) (B.2.2.2.1 _ k_1424) (B.2.2.2.1 _ k_1267) (B.2.2.2.1 _ k_1268) (B.2.2.2.1 _ k_3) ⟨by decide +kernel, by decide +kernel, by decide +kernel⟩ rfl d_Exprs_goOn_186 rfl (Nat.le_of_ble_eq_true rfl) ⟨by decide, by decide⟩ ⟨by decide, by decide⟩ ⟨by decide, by decide⟩ (mv_noH hno _) (fun w186 σ186 h186 => ?_)
            obtain ⟨rfl, rfl, s_g7⟩ := h186
            have r_g7 : mv_r g7 = mv_r h := s_g7.trans r_hz
            refine mv_pop (pc := 189) B d_Exprs_goOn_189 rfl ?_
            refine mv_aload_n (pc := 190) B d_Exprs_goOn_190 rfl 0 rfl ?_
            refine mv_getR (pc := 191) (ci := 6) (C := R_Exprs) (T := F_Exprs) (N := 11) B 6 rfl rfl (by decide) i_Exprs (B.2.2.2.1 _ k_200) rfl ((congrFun (congrFun r_g7 22) 6).trans (hb.1.1 22 6 _ rfl)) d_Exprs_goOn_191 ?_
            refine mv_aload_n (pc := 194) B d_Exprs_goOn_194 rfl 0 rfl ?_
            refine mv_getI (pc := 195) (ci := 6) (C := R_Exprs) (T := F_Exprs) (N := 11) B 8 rfl rfl (by decide) i_Exprs (B.2.2.2.1 _ k_202) rfl d_Exprs_goOn_195 ?_
            refine mv_iconst (pc := 198) (v := 1) B d_Exprs_goOn_198 (by decide) ?_
            refine mv_isub (pc := 199) B d_Exprs_goOn_199 ?_
            refine mv_iconst (pc := 200) (v := 1) B d_Exprs_goOn_200 (by decide) ?_
            obtain ⟨q9, hf⟩ := xvi_e hf
            refine mv_iast (pc := 201) B rfl q9 d_Exprs_goOn_201 ?_
            refine mvh_hp (R9 := mv_r h) hf r_g7 (fun g10 hf r_g10 => ?_)
            refine mv_iconst (pc := 202) (v := 0) B d_Exprs_goOn_202 (by decide) ?_
            exact mv_iret (pc := 203) B hr rfl d_Exprs_goOn_203 (Nat.le_refl _) (Nat.le_refl _) ⟨_, rfl, xrh_i hf r_g10⟩
  have jn142 : ∀ (x1 : Int32) (x2 : Int32) (x3 : Int32) (hz : mv_H), mv_r hz = mv_r h → f_Exprs_goOn_142 32 x1 x2 x3 hz = some (rv, rg) → mv_V p l e ({ frames := 4, cells := 0, slots := 0, locals := 89 }) s m ([.ref (al 22), .int a0] : List Value).toArray below meth c (mg dA D al ext) 4 0 0 (mv_Q (mg dA D al ext) below s 0 0 (mv_Ri (fun v σ1 => rv = v ∧ rg = σ1 ∧ mv_r σ1 = mv_r h))) hz 142 [(0, .ref (al 22)), (1, .int x1), (2, .int x2), (3, .int x3)] [] := by
    intro x1 x2 x3 hz r_hz hf
    unfold f_Exprs_goOn_142 at hf
    refine mv_iload_n (pc := 142) B d_Exprs_goOn_142 rfl 1 rfl ?_
    refine mv_bipush (pc := 143) (v := 44) B d_Exprs_goOn_143 (by decide) ?_
    refine mv_icmp_ne (pc := 145) (tgt := 156) B d_Exprs_goOn_145 rfl (fun h145 => ?_) (fun h145 => ?_)
    · skip
      have hf := xif_f h145 hf
      refine mv_lpick [0, 1, 2, 3] rfl ?_
      exact jn156 _ _ _ _ r_hz hf
    · skip
      have hf := xif_t h145 hf
      refine mv_aload_n (pc := 148) B d_Exprs_goOn_148 rfl 0 rfl ?_
      refine mv_iload_n (pc := 149) B d_Exprs_goOn_149 rfl 2 rfl ?_
      obtain ⟨g11, eg11, hf⟩ := xhv_e hf
      refine mv_callVv (pc := 150) (n := 1) (ci := 6) (C := R_Exprs) B (mK_ok sk sv) hNs rfl rfl (ch_Exprs_widen_a l hi _ (xrw r_hz hb) _ eg11) rfl (ma_goodc kc_Exprs_widen) (B.2.2.2.1 _ k_1518) (B.2.2.2.1 _ k_1520) (B.2.2.2.1 _ ks_64) (B.2.2.2.1 _ k_7) ⟨by decide +kernel, by decide +kernel, by decide +kernel⟩ rfl d_Exprs_goOn_150 rfl (Nat.le_of_ble_eq_true rfl) ⟨by decide, by decide⟩ ⟨by decide, by decide⟩ ⟨by decide, by decide⟩ (mv_noH hno _) (fun σ150 h150 => ?_)
      obtain ⟨rfl, s_g11⟩ := h150
      have r_g11 : mv_r g11 = mv_r h := s_g11.trans r_hz
      refine mv_goto (pc := 153) (tgt := 272) B d_Exprs_goOn_153 rfl ?_
      refine mv_lpick [] rfl ?_
      exact jn272  _ r_g11 hf
  have jn128 : ∀ (x1 : Int32) (x2 : Int32) (x3 : Int32) (hz : mv_H), mv_r hz = mv_r h → f_Exprs_goOn_128 32 x1 x2 x3 hz = some (rv, rg) → mv_V p l e ({ frames := 4, cells := 0, slots := 0, locals := 89 }) s m ([.ref (al 22), .int a0] : List Value).toArray below meth c (mg dA D al ext) 4 0 0 (mv_Q (mg dA D al ext) below s 0 0 (mv_Ri (fun v σ1 => rv = v ∧ rg = σ1 ∧ mv_r σ1 = mv_r h))) hz 128 [(0, .ref (al 22)), (1, .int x1), (2, .int x2), (3, .int x3)] [] := by
    intro x1 x2 x3 hz r_hz hf
    unfold f_Exprs_goOn_128 at hf
    refine mv_iload_n (pc := 128) B d_Exprs_goOn_128 rfl 2 rfl ?_
    refine mv_sipush (pc := 129) (v := 211) B d_Exprs_goOn_129 (by decide) ?_
    refine mv_icmp_eq (pc := 132) (tgt := 142) B d_Exprs_goOn_132 rfl (fun h132 => ?_) (fun h132 => ?_)
    · skip
      have hf := xif_t h132 hf
      refine mv_lpick [0, 1, 2, 3] rfl ?_
      exact jn142 _ _ _ _ r_hz hf
    · skip
      have hf := xif_f h132 hf
      refine mv_iload_n (pc := 135) B d_Exprs_goOn_135 rfl 2 rfl ?_
      refine mv_sipush (pc := 136) (v := 212) B d_Exprs_goOn_136 (by decide) ?_
      refine mv_icmp_ne (pc := 139) (tgt := 156) B d_Exprs_goOn_139 rfl (fun h139 => ?_) (fun h139 => ?_)
      · skip
        have hf := xif_f h139 hf
        refine mv_lpick [0, 1, 2, 3] rfl ?_
        exact jn156 _ _ _ _ r_hz hf
      · skip
        have hf := xif_t h139 hf
        refine mv_lpick [0, 1, 2, 3] rfl ?_
        exact jn142 _ _ _ _ r_hz hf
  have jn93 : ∀ (x1 : Int32) (x2 : Int32) (x3 : Int32) (hz : mv_H), mv_r hz = mv_r h → f_Exprs_goOn_93 32 x1 x2 x3 hz = some (rv, rg) → mv_V p l e ({ frames := 4, cells := 0, slots := 0, locals := 89 }) s m ([.ref (al 22), .int a0] : List Value).toArray below meth c (mg dA D al ext) 4 0 0 (mv_Q (mg dA D al ext) below s 0 0 (mv_Ri (fun v σ1 => rv = v ∧ rg = σ1 ∧ mv_r σ1 = mv_r h))) hz 93 [(0, .ref (al 22)), (1, .int x1), (2, .int x2), (3, .int x3)] [] := by
    intro x1 x2 x3 hz r_hz hf
    unfold f_Exprs_goOn_93 at hf
    refine mv_iload_n (pc := 93) B d_Exprs_goOn_93 rfl 2 rfl ?_
    refine mv_bipush (pc := 94) (v := 40) B d_Exprs_goOn_94 (by decide) ?_
    refine mv_icmp_ne (pc := 96) (tgt := 128) B d_Exprs_goOn_96 rfl (fun h96 => ?_) (fun h96 => ?_)
    · skip
      have hf := xif_f h96 hf
      refine mv_lpick [0, 1, 2, 3] rfl ?_
      exact jn128 _ _ _ _ r_hz hf
    · skip
      have hf := xif_t h96 hf
      refine mv_iload_n (pc := 99) B d_Exprs_goOn_99 rfl 1 rfl ?_
      refine mv_bipush (pc := 100) (v := 41) B d_Exprs_goOn_100 (by decide) ?_
      refine mv_icmp_ne (pc := 102) (tgt := 128) B d_Exprs_goOn_102 rfl (fun h102 => ?_) (fun h102 => ?_)
      · skip
        have hf := xif_f h102 hf
        refine mv_lpick [0, 1, 2, 3] rfl ?_
        exact jn128 _ _ _ _ r_hz hf
      · skip
        have hf := xif_t h102 hf
        refine mv_aload_n (pc := 105) B d_Exprs_goOn_105 rfl 0 rfl ?_
        refine mv_getR (pc := 106) (ci := 6) (C := R_Exprs) (T := F_Exprs) (N := 11) B 0 rfl rfl (by decide) i_Exprs (B.2.2.2.1 _ k_193) rfl ((congrFun (congrFun r_hz 22) 0).trans (hb.1.1 22 0 _ rfl)) d_Exprs_goOn_106 ?_
        refine mv_bipush (pc := 109) (v := 41) B d_Exprs_goOn_109 (by decide) ?_
        obtain ⟨v13, g12, eg12, hf⟩ := xhb_e hf
        refine mv_callVi (pc := 111) (n := 1) (ci := 2) (C := R_Tokens) B (mK_ok sk sv) hNs rfl rfl (ch_Tokens_close l hi _ (xrw r_hz hb.t) _ eg12) rfl (ma_goodc kc_Tokens_close) (B.2.2.2.1 _ k_1468) (B.2.2.2.1 _ k_1397) (B.2.2.2.1 _ k_1398) (B.2.2.2.1 _ k_3) ⟨by decide +kernel, by decide +kernel, by decide +kernel⟩ rfl d_Exprs_goOn_111 rfl (Nat.le_of_ble_eq_true rfl) ⟨by decide, by decide⟩ ⟨by decide, by decide⟩ ⟨by decide, by decide⟩ (mv_noH hno _) (fun w111 σ111 h111 => ?_)
        obtain ⟨rfl, rfl, s_g12⟩ := h111
        have r_g12 : mv_r g12 = mv_r h := s_g12.trans r_hz
        refine mv_pop (pc := 114) B d_Exprs_goOn_114 rfl ?_
        refine mv_aload_n (pc := 115) B d_Exprs_goOn_115 rfl 0 rfl ?_
        refine mv_dup (pc := 116) B d_Exprs_goOn_116 rfl ?_
        refine mv_getI (pc := 117) (ci := 6) (C := R_Exprs) (T := F_Exprs) (N := 11) B 8 rfl rfl (by decide) i_Exprs (B.2.2.2.1 _ k_202) rfl d_Exprs_goOn_117 ?_
        refine mv_iconst (pc := 120) (v := 1) B d_Exprs_goOn_120 (by decide) ?_
        refine mv_isub (pc := 121) B d_Exprs_goOn_121 ?_
        refine mv_putI (pc := 122) (ci := 6) (C := R_Exprs) (T := F_Exprs) (N := 11) B 8 rfl rfl (by decide) i_Exprs t_Exprs_ok n_Exprs (B.2.2.2.1 _ k_202) rfl rfl rfl rfl d_Exprs_goOn_122 ?_
        refine mvh_hp (R9 := mv_r h) hf r_g12 (fun g14 hf r_g14 => ?_)
        refine mv_goto (pc := 125) (tgt := 272) B d_Exprs_goOn_125 rfl ?_
        refine mv_lpick [] rfl ?_
        exact jn272  _ r_g14 hf
  have jn74 : ∀ (x1 : Int32) (x2 : Int32) (x3 : Int32) (hz : mv_H), mv_r hz = mv_r h → f_Exprs_goOn_74 32 x1 x2 x3 hz = some (rv, rg) → mv_V p l e ({ frames := 4, cells := 0, slots := 0, locals := 89 }) s m ([.ref (al 22), .int a0] : List Value).toArray below meth c (mg dA D al ext) 4 0 0 (mv_Q (mg dA D al ext) below s 0 0 (mv_Ri (fun v σ1 => rv = v ∧ rg = σ1 ∧ mv_r σ1 = mv_r h))) hz 74 [(0, .ref (al 22)), (1, .int x1), (2, .int x2), (3, .int x3)] [] := by
    intro x1 x2 x3 hz r_hz hf
    unfold f_Exprs_goOn_74 at hf
    refine mv_iload_n (pc := 74) B d_Exprs_goOn_74 rfl 2 rfl ?_
    refine mv_bipush (pc := 75) (v := 91) B d_Exprs_goOn_75 (by decide) ?_
    refine mv_icmp_ne (pc := 77) (tgt := 93) B d_Exprs_goOn_77 rfl (fun h77 => ?_) (fun h77 => ?_)
    · skip
      have hf := xif_f h77 hf
      refine mv_lpick [0, 1, 2, 3] rfl ?_
      exact jn93 _ _ _ _ r_hz hf
    · skip
      have hf := xif_t h77 hf
      refine mv_iload_n (pc := 80) B d_Exprs_goOn_80 rfl 1 rfl ?_
      refine mv_bipush (pc := 81) (v := 93) B d_Exprs_goOn_81 (by decide) ?_
      refine mv_icmp_ne (pc := 83) (tgt := 93) B d_Exprs_goOn_83 rfl (fun h83 => ?_) (fun h83 => ?_)
      · skip
        have hf := xif_f h83 hf
        refine mv_lpick [0, 1, 2, 3] rfl ?_
        exact jn93 _ _ _ _ r_hz hf
      · skip
        have hf := xif_t h83 hf
        refine mv_aload_n (pc := 86) B d_Exprs_goOn_86 rfl 0 rfl ?_
        obtain ⟨g15, eg15, hf⟩ := xhv_e hf
        refine mv_callVv (pc := 87) (n := 0) (ci := 6) (C := R_Exprs) B (mK_ok sk sv) hNs rfl rfl (ch_Exprs_cell_a l hi _ (xrw r_hz hb) eg15) rfl (ma_goodc kc_Exprs_cell) (B.2.2.2.1 _ k_1514) (B.2.2.2.1 _ k_1516) (B.2.2.2.1 _ ks_63) (B.2.2.2.1 _ k_7) ⟨by decide +kernel, by decide +kernel, by decide +kernel⟩ rfl d_Exprs_goOn_87 rfl (Nat.le_of_ble_eq_true rfl) ⟨by decide, by decide⟩ ⟨by decide, by decide⟩ ⟨by decide, by decide⟩ (mv_noH hno _) (fun σ87 h87 => ?_)
        obtain ⟨rfl, s_g15⟩ := h87
        have r_g15 : mv_r g15 = mv_r h := s_g15.trans r_hz
        refine mv_goto (pc := 90) (tgt := 272) B d_Exprs_goOn_90 rfl ?_
        refine mv_lpick [] rfl ?_
        exact jn272  _ r_g15 hf
  have jn68 : ∀ (x1 : Int32) (hz : mv_H), mv_r hz = mv_r h → f_Exprs_goOn_68 32 x1 hz = some (rv, rg) → mv_V p l e ({ frames := 4, cells := 0, slots := 0, locals := 89 }) s m ([.ref (al 22), .int a0] : List Value).toArray below meth c (mg dA D al ext) 4 0 0 (mv_Q (mg dA D al ext) below s 0 0 (mv_Ri (fun v σ1 => rv = v ∧ rg = σ1 ∧ mv_r σ1 = mv_r h))) hz 68 [(0, .ref (al 22)), (1, .int x1)] [] := by
    intro x1 hz r_hz hf
    unfold f_Exprs_goOn_68 at hf
    refine mv_aload_n (pc := 68) B d_Exprs_goOn_68 rfl 0 rfl ?_
    refine mv_iload_n (pc := 69) B d_Exprs_goOn_69 rfl 1 rfl ?_
    obtain ⟨v17, g16, eg16, hf⟩ := xhb_e hf
    refine mv_callVi (pc := 70) (n := 1) (ci := 6) (C := R_Exprs) B (mK_ok sk sv) hNs rfl rfl (ch_Exprs_join_a l hi _ (xrw r_hz hb) _ eg16) rfl (ma_goodc kc_Exprs_join) (B.2.2.2.1 _ k_1510) (B.2.2.2.1 _ k_1512) (B.2.2.2.1 _ ks_62) (B.2.2.2.1 _ k_7) ⟨by decide +kernel, by decide +kernel, by decide +kernel⟩ rfl d_Exprs_goOn_70 rfl (Nat.le_of_ble_eq_true rfl) ⟨by decide, by decide⟩ ⟨by decide, by decide⟩ ⟨by decide, by decide⟩ (mv_noH hno _) (fun w70 σ70 h70 => ?_)
    obtain ⟨rfl, rfl, s_g16⟩ := h70
    have r_g16 : mv_r g16 = mv_r h := s_g16.trans r_hz
    exact mv_iret (pc := 73) B hr rfl d_Exprs_goOn_73 (Nat.le_refl _) (Nat.le_refl _) ⟨_, rfl, xrh_i hf r_g16⟩
  have jn50 : ∀ (x1 : Int32) (x2 : Int32) (x3 : Int32) (hz : mv_H), mv_r hz = mv_r h → f_Exprs_goOn_50 32 x1 x2 x3 hz = some (rv, rg) → mv_V p l e ({ frames := 4, cells := 0, slots := 0, locals := 89 }) s m ([.ref (al 22), .int a0] : List Value).toArray below meth c (mg dA D al ext) 4 0 0 (mv_Q (mg dA D al ext) below s 0 0 (mv_Ri (fun v σ1 => rv = v ∧ rg = σ1 ∧ mv_r σ1 = mv_r h))) hz 50 [(0, .ref (al 22)), (1, .int x1), (2, .int x2), (3, .int x3)] [] := by
    intro x1 x2 x3 hz r_hz hf
    unfold f_Exprs_goOn_50 at hf
    refine mv_iload_n (pc := 50) B d_Exprs_goOn_50 rfl 2 rfl ?_
    refine mv_bipush (pc := 51) (v := 123) B d_Exprs_goOn_51 (by decide) ?_
    refine mv_icmp_ne (pc := 53) (tgt := 74) B d_Exprs_goOn_53 rfl (fun h53 => ?_) (fun h53 => ?_)
    · skip
      have hf := xif_f h53 hf
      refine mv_lpick [0, 1, 2, 3] rfl ?_
      exact jn74 _ _ _ _ r_hz hf
    · skip
      have hf := xif_t h53 hf
      refine mv_iload_n (pc := 56) B d_Exprs_goOn_56 rfl 1 rfl ?_
      refine mv_bipush (pc := 57) (v := 44) B d_Exprs_goOn_57 (by decide) ?_
      refine mv_icmp_eq (pc := 59) (tgt := 68) B d_Exprs_goOn_59 rfl (fun h59 => ?_) (fun h59 => ?_)
      · skip
        have hf := xif_t h59 hf
        refine mv_lpick [0, 1] rfl ?_
        exact jn68 _ _ r_hz hf
      · skip
        have hf := xif_f h59 hf
        refine mv_iload_n (pc := 62) B d_Exprs_goOn_62 rfl 1 rfl ?_
        refine mv_bipush (pc := 63) (v := 125) B d_Exprs_goOn_63 (by decide) ?_
        refine mv_icmp_ne (pc := 65) (tgt := 74) B d_Exprs_goOn_65 rfl (fun h65 => ?_) (fun h65 => ?_)
        · skip
          have hf := xif_f h65 hf
          refine mv_lpick [0, 1, 2, 3] rfl ?_
          exact jn74 _ _ _ _ r_hz hf
        · skip
          have hf := xif_t h65 hf
          refine mv_lpick [0, 1] rfl ?_
          exact jn68 _ _ r_hz hf
  have jn31 : ∀ (x1 : Int32) (x2 : Int32) (y0 : Int32) (hz : mv_H), mv_r hz = mv_r h → f_Exprs_goOn_31 32 x1 x2 y0 hz = some (rv, rg) → mv_V p l e ({ frames := 4, cells := 0, slots := 0, locals := 89 }) s m ([.ref (al 22), .int a0] : List Value).toArray below meth c (mg dA D al ext) 4 0 0 (mv_Q (mg dA D al ext) below s 0 0 (mv_Ri (fun v σ1 => rv = v ∧ rg = σ1 ∧ mv_r σ1 = mv_r h))) hz 31 [(0, .ref (al 22)), (1, .int x1), (2, .int x2)] [.int y0] := by
    intro x1 x2 y0 hz r_hz hf
    unfold f_Exprs_goOn_31 at hf
    refine mv_istore_n (pc := 31) B d_Exprs_goOn_31 rfl (by decide) rfl ?_
    refine mv_iload_n (pc := 32) B d_Exprs_goOn_32 rfl 3 rfl ?_
    refine mv_bipush (pc := 33) (v := 63) B d_Exprs_goOn_33 (by decide) ?_
    refine mv_icmp_ne (pc := 35) (tgt := 50) B d_Exprs_goOn_35 rfl (fun h35 => ?_) (fun h35 => ?_)
    · skip
      have hf := xif_f h35 hf
      refine mv_lpick [1, 2, 3, 0] rfl ?_
      exact jn50 _ _ _ _ r_hz hf
    · skip
      have hf := xif_t h35 hf
      refine mv_iload_n (pc := 38) B d_Exprs_goOn_38 rfl 2 rfl ?_
      refine mv_bipush (pc := 39) (v := 58) B d_Exprs_goOn_39 (by decide) ?_
      refine mv_icmp_ne (pc := 41) (tgt := 50) B d_Exprs_goOn_41 rfl (fun h41 => ?_) (fun h41 => ?_)
      · skip
        have hf := xif_f h41 hf
        refine mv_lpick [1, 2, 3, 0] rfl ?_
        exact jn50 _ _ _ _ r_hz hf
      · skip
        have hf := xif_t h41 hf
        refine mv_aload_n (pc := 44) B d_Exprs_goOn_44 rfl 1 rfl ?_
        obtain ⟨g18, eg18, hf⟩ := xhv_e hf
        refine mv_callVv (pc := 45) (n := 0) (ci := 6) (C := R_Exprs) B (mK_ok sk sv) hNs rfl rfl (ch_Exprs_otherwise_a l hi _ (xrw r_hz hb) eg18) rfl (ma_goodc kc_Exprs_otherwise) (B.2.2.2.1 _ k_1506) (B.2.2.2.1 _ k_1508) (B.2.2.2.1 _ ks_61) (B.2.2.2.1 _ k_7) ⟨by decide +kernel, by decide +kernel, by decide +kernel⟩ rfl d_Exprs_goOn_45 rfl (Nat.le_of_ble_eq_true rfl) ⟨by decide, by decide⟩ ⟨by decide, by decide⟩ ⟨by decide, by decide⟩ (mv_noH hno _) (fun σ45 h45 => ?_)
        obtain ⟨rfl, s_g18⟩ := h45
        have r_g18 : mv_r g18 = mv_r h := s_g18.trans r_hz
        refine mv_iconst (pc := 48) (v := 0) B d_Exprs_goOn_48 (by decide) ?_
        exact mv_iret (pc := 49) B hr rfl d_Exprs_goOn_49 (Nat.le_refl _) (Nat.le_refl _) ⟨_, rfl, xrh_i hf r_g18⟩
  unfold f_Exprs_goOn at hf
  refine mv_aload_n (pc := 0) B d_Exprs_goOn_0 rfl 0 rfl ?_
  refine mv_getR (pc := 1) (ci := 6) (C := R_Exprs) (T := F_Exprs) (N := 11) B 4 rfl rfl (by decide) i_Exprs (B.2.2.2.1 _ k_198) rfl (hb.1.1 22 4 _ rfl) d_Exprs_goOn_1 ?_
  refine mv_aload_n (pc := 4) B d_Exprs_goOn_4 rfl 0 rfl ?_
  refine mv_getI (pc := 5) (ci := 6) (C := R_Exprs) (T := F_Exprs) (N := 11) B 8 rfl rfl (by decide) i_Exprs (B.2.2.2.1 _ k_202) rfl d_Exprs_goOn_5 ?_
  refine mv_iconst (pc := 8) (v := 1) B d_Exprs_goOn_8 (by decide) ?_
  refine mv_isub (pc := 9) B d_Exprs_goOn_9 ?_
  obtain ⟨q19, hf⟩ := xvi_e hf
  refine mv_iald (pc := 10) B rfl q19 d_Exprs_goOn_10 ?_
  refine mv_istore_n (pc := 11) B d_Exprs_goOn_11 rfl (by decide) rfl ?_
  refine mv_aload_n (pc := 12) B d_Exprs_goOn_12 rfl 1 rfl ?_
  refine mv_getR (pc := 13) (ci := 6) (C := R_Exprs) (T := F_Exprs) (N := 11) B 6 rfl rfl (by decide) i_Exprs (B.2.2.2.1 _ k_200) rfl (hb.1.1 22 6 _ rfl) d_Exprs_goOn_13 ?_
  refine mv_aload_n (pc := 16) B d_Exprs_goOn_16 rfl 1 rfl ?_
  refine mv_getI (pc := 17) (ci := 6) (C := R_Exprs) (T := F_Exprs) (N := 11) B 8 rfl rfl (by decide) i_Exprs (B.2.2.2.1 _ k_202) rfl d_Exprs_goOn_17 ?_
  refine mv_iconst (pc := 20) (v := 1) B d_Exprs_goOn_20 (by decide) ?_
  refine mv_isub (pc := 21) B d_Exprs_goOn_21 ?_
  obtain ⟨q20, hf⟩ := xvi_e hf
  refine mv_iald (pc := 22) B rfl q20 d_Exprs_goOn_22 ?_
  refine mv_if_ne (pc := 23) (tgt := 30) B d_Exprs_goOn_23 rfl (fun h23 => ?_) (fun h23 => ?_)
  · skip
    have hf := xif_f h23 hf
    refine mv_iconst (pc := 30) (v := 0) B d_Exprs_goOn_30 (by decide) ?_
    refine mv_lpick [1, 2, 0] rfl ?_
    exact jn31 _ _ _ _ rfl hf
  · skip
    have hf := xif_t h23 hf
    refine mv_iconst (pc := 26) (v := 1) B d_Exprs_goOn_26 (by decide) ?_
    refine mv_goto (pc := 27) (tgt := 31) B d_Exprs_goOn_27 rfl ?_
    refine mv_lpick [1, 2, 0] rfl ?_
    exact jn31 _ _ _ _ rfl hf
set_option maxHeartbeats 4000000 in
set_option maxRecDepth 100000 in
theorem ch_Exprs_goOn_b (l : Launch) {dA : FieldType → ClassId} {D : va_G} {al : Nat → Nat} {ext : mv_Sh} {sk sv : Nat → Nat} (hi : mv_inj (mg dA D al ext)) (h : mv_H) (hb : xRP 48 (mv_r h))  (a0 : Int32) {rv : Int32} {rg : mv_H} (hf : f_Exprs_goOn 48 h a0 = some (rv, rg)) : mv_C l y_Exprs_goOn (Cond.code y_Exprs_goOn b_Exprs_goOn 4 (Option.some Jvm.ClassFile.FieldType.int) :: ma) ({ frames := 4, cells := 0, slots := 0, locals := 89 }) (mg dA D al ext) (mK sk sv) [.ref (al 22), .int a0] h (mv_Ri (fun v σ1 => rv = v ∧ rg = σ1 ∧ mv_r σ1 = mv_r h)) := by
  refine mv_C.ofV (cc := b_Exprs_goOn) (nL := 4) (ret := (Option.some Jvm.ClassFile.FieldType.int)) (by decide +kernel) rfl hi (Nat.le_of_ble_eq_true rfl) ?_
  intro p e s m below meth c B hNs hr hnm hno
  have jn272 : ∀ (hz : mv_H), mv_r hz = mv_r h → f_Exprs_goOn_272 48  hz = some (rv, rg) → mv_V p l e ({ frames := 4, cells := 0, slots := 0, locals := 89 }) s m ([.ref (al 22), .int a0] : List Value).toArray below meth c (mg dA D al ext) 4 0 0 (mv_Q (mg dA D al ext) below s 0 0 (mv_Ri (fun v σ1 => rv = v ∧ rg = σ1 ∧ mv_r σ1 = mv_r h))) hz 272 [] [] := by
    intro  hz r_hz hf
    unfold f_Exprs_goOn_272 at hf
    refine mv_iconst (pc := 272) (v := 1) B d_Exprs_goOn_272 (by decide) ?_
    exact mv_iret (pc := 273) B hr rfl d_Exprs_goOn_273 (Nat.le_refl _) (Nat.le_refl _) ⟨_, rfl, xrh_i hf r_hz⟩
  have jn265 : ∀ (hz : mv_H), mv_r hz = mv_r h → f_Exprs_goOn_265 48  hz = some (rv, rg) → mv_V p l e ({ frames := 4, cells := 0, slots := 0, locals := 89 }) s m ([.ref (al 22), .int a0] : List Value).toArray below meth c (mg dA D al ext) 4 0 0 (mv_Q (mg dA D al ext) below s 0 0 (mv_Ri (fun v σ1 => rv = v ∧ rg = σ1 ∧ mv_r σ1 = mv_r h))) hz 265 [(0, .ref (al 22))] [] := by
    intro  hz r_hz hf
    unfold f_Exprs_goOn_265 at hf
    refine mv_aload_n (pc := 265) B d_Exprs_goOn_265 rfl 0 rfl ?_
    refine mv_getR (pc := 266) (ci := 6) (C := R_Exprs) (T := F_Exprs) (N := 11) B 0 rfl rfl (by decide) i_Exprs (B.2.2.2.1 _ k_193) rfl ((congrFun (congrFun r_hz 22) 0).trans (hb.1.1 22 0 _ rfl)) d_Exprs_goOn_266 ?_
    obtain ⟨g1, eg1, hf⟩ := xhv_e hf
    refine mv_callVv (pc := 269) (n := 0) (ci := 2) (C := R_Tokens) B (mK_ok sk sv) hNs rfl rfl (ch_Tokens_wrong l hi _ (xrw r_hz hb.t) eg1) rfl (ma_goodc kc_Tokens_wrong) (B.2.2.2.1 _ k_1459) (B.2.2.2.1 _ k_1275) (B.2.2.2.1 _ k_1276) (B.2.2.2.1 _ k_3) ⟨by decide +kernel, by decide +kernel, by decide +kernel⟩ rfl d_Exprs_goOn_269 rfl (Nat.le_of_ble_eq_true rfl) ⟨by decide, by decide⟩ ⟨by decide, by decide⟩ ⟨by decide, by decide⟩ (mv_noH hno _) (fun σ269 h269 => ?_)
    obtain ⟨rfl, s_g1⟩ := h269
    have r_g1 : mv_r g1 = mv_r h := s_g1.trans r_hz
    refine mv_lpick [] rfl ?_
    exact jn272  _ r_g1 hf
  have jn204 : ∀ (x1 : Int32) (x2 : Int32) (x3 : Int32) (hz : mv_H), mv_r hz = mv_r h → f_Exprs_goOn_204 48 x1 x2 x3 hz = some (rv, rg) → mv_V p l e ({ frames := 4, cells := 0, slots := 0, locals := 89 }) s m ([.ref (al 22), .int a0] : List Value).toArray below meth c (mg dA D al ext) 4 0 0 (mv_Q (mg dA D al ext) below s 0 0 (mv_Ri (fun v σ1 => rv = v ∧ rg = σ1 ∧ mv_r σ1 = mv_r h))) hz 204 [(0, .ref (al 22)), (1, .int x1), (2, .int x2), (3, .int x3)] [] := by
    intro x1 x2 x3 hz r_hz hf
    unfold f_Exprs_goOn_204 at hf
    refine mv_iload_n (pc := 204) B d_Exprs_goOn_204 rfl 2 rfl ?_
    refine mv_sipush (pc := 205) (v := 213) B d_Exprs_goOn_205 (by decide) ?_
    refine mv_icmp_lt (pc := 208) (tgt := 265) B d_Exprs_goOn_208 rfl (fun h208 => ?_) (fun h208 => ?_)
    · skip
      have hf := xif_t h208 hf
      refine mv_lpick [0] rfl ?_
      exact jn265  _ r_hz hf
    · skip
      have hf := xif_f h208 hf
      refine mv_iload_n (pc := 211) B d_Exprs_goOn_211 rfl 2 rfl ?_
      refine mv_sipush (pc := 212) (v := 216) B d_Exprs_goOn_212 (by decide) ?_
      refine mv_icmp_gt (pc := 215) (tgt := 265) B d_Exprs_goOn_215 rfl (fun h215 => ?_) (fun h215 => ?_)
      · skip
        have hf := xif_t h215 hf
        refine mv_lpick [0] rfl ?_
        exact jn265  _ r_hz hf
      · skip
        have hf := xif_f h215 hf
        refine mv_iload_n (pc := 218) B d_Exprs_goOn_218 rfl 1 rfl ?_
        refine mv_bipush (pc := 219) (v := 41) B d_Exprs_goOn_219 (by decide) ?_
        refine mv_icmp_ne (pc := 221) (tgt := 265) B d_Exprs_goOn_221 rfl (fun h221 => ?_) (fun h221 => ?_)
        · skip
          have hf := xif_f h221 hf
          refine mv_lpick [0] rfl ?_
          exact jn265  _ r_hz hf
        · skip
          have hf := xif_t h221 hf
          refine mv_iload_n (pc := 224) B d_Exprs_goOn_224 rfl 3 rfl ?_
          refine mv_if_ne (pc := 225) (tgt := 265) B d_Exprs_goOn_225 rfl (fun h225 => ?_) (fun h225 => ?_)
          · skip
            have hf := xif_f h225 hf
            refine mv_lpick [0] rfl ?_
            exact jn265  _ r_hz hf
          · skip
            have hf := xif_t h225 hf
            refine mv_aload_n (pc := 228) B d_Exprs_goOn_228 rfl 0 rfl ?_
            refine mv_getR (pc := 229) (ci := 6) (C := R_Exprs) (T := F_Exprs) (N := 11) B 0 rfl rfl (by decide) i_Exprs (B.2.2.2.1 _ k_193) rfl ((congrFun (congrFun r_hz 22) 0).trans (hb.1.1 22 0 _ rfl)) d_Exprs_goOn_229 ?_
            refine mv_bipush (pc := 232) (v := 41) B d_Exprs_goOn_232 (by decide) ?_
            obtain ⟨v3, g2, eg2, hf⟩ := xhb_e hf
            refine mv_callVi (pc := 234) (n := 1) (ci := 2) (C := R_Tokens) B (mK_ok sk sv) hNs rfl rfl (ch_Tokens_close l hi _ (xrw r_hz hb.t) _ eg2) rfl (ma_goodc kc_Tokens_close) (B.2.2.2.1 _ k_1468) (B.2.2.2.1 _ k_1397) (B.2.2.2.1 _ k_1398) (B.2.2.2.1 _ k_3) ⟨by decide +kernel, by decide +kernel, by decide +kernel⟩ rfl d_Exprs_goOn_234 rfl (Nat.le_of_ble_eq_true rfl) ⟨by decide, by decide⟩ ⟨by decide, by decide⟩ ⟨by decide, by decide⟩ (mv_noH hno _) (fun w234 σ234 h234 => ?_)
            obtain ⟨rfl, rfl, s_g2⟩ := h234
            have r_g2 : mv_r g2 = mv_r h := s_g2.trans r_hz
            refine mv_pop (pc := 237) B d_Exprs_goOn_237 rfl ?_
            refine mv_aload_n (pc := 238) B d_Exprs_goOn_238 rfl 0 rfl ?_
            refine mv_dup (pc := 239) B d_Exprs_goOn_239 rfl ?_
            refine mv_getI (pc := 240) (ci := 6) (C := R_Exprs) (T := F_Exprs) (N := 11) B 8 rfl rfl (by decide) i_Exprs (B.2.2.2.1 _ k_202) rfl d_Exprs_goOn_240 ?_
            refine mv_iconst (pc := 243) (v := 1) B d_Exprs_goOn_243 (by decide) ?_
            refine mv_isub (pc := 244) B d_Exprs_goOn_244 ?_
            refine mv_putI (pc := 245) (ci := 6) (C := R_Exprs) (T := F_Exprs) (N := 11) B 8 rfl rfl (by decide) i_Exprs t_Exprs_ok n_Exprs (B.2.2.2.1 _ k_202) rfl rfl rfl rfl d_Exprs_goOn_245 ?_
            refine mvh_hp (R9 := mv_r h) hf r_g2 (fun g4 hf r_g4 => ?_)
            refine mv_aload_n (pc := 248) B d_Exprs_goOn_248 rfl 0 rfl ?_
            refine mv_iload_n (pc := 249) B d_Exprs_goOn_249 rfl 2 rfl ?_
            refine mv_aload_n (pc := 250) B d_Exprs_goOn_250 rfl 0 rfl ?_
            refine mv_getR (pc := 251) (ci := 6) (C := R_Exprs) (T := F_Exprs) (N := 11) B 5 rfl rfl (by decide) i_Exprs (B.2.2.2.1 _ k_199) rfl ((congrFun (congrFun r_g4 22) 5).trans (hb.1.1 22 5 _ rfl)) d_Exprs_goOn_251 ?_
            refine mv_aload_n (pc := 254) B d_Exprs_goOn_254 rfl 0 rfl ?_
            refine mv_getI (pc := 255) (ci := 6) (C := R_Exprs) (T := F_Exprs) (N := 11) B 8 rfl rfl (by decide) i_Exprs (B.2.2.2.1 _ k_202) rfl d_Exprs_goOn_255 ?_
            obtain ⟨q5, hf⟩ := xvi_e hf
            refine mv_iald (pc := 258) B rfl q5 d_Exprs_goOn_258 ?_
            obtain ⟨g6, eg6, hf⟩ := xhv_e hf
            refine mv_callVv (pc := 259) (n := 2) (ci := 6) (C := R_Exprs) B (mK_ok sk sv) hNs rfl rfl (ch_Exprs_ofTwo_b l hi _ (xrw r_g4 hb) _ _ eg6) rfl (ma_goodc kc_Exprs_ofTwo) (B.2.2.2.1 _ k_1489) (B.2.2.2.1 _ k_1491) (B.2.2.2.1 _ ks_57) (B.2.2.2.1 _ k_7) ⟨by decide +kernel, by decide +kernel, by decide +kernel⟩ rfl d_Exprs_goOn_259 rfl (Nat.le_of_ble_eq_true rfl) ⟨by decide, by decide⟩ ⟨by decide, by decide⟩ ⟨by decide, by decide⟩ (mv_noH hno _) (fun σ259 h259 => ?_)
            obtain ⟨rfl, s_g6⟩ := h259
            have r_g6 : mv_r g6 = mv_r h := s_g6.trans r_g4
            refine mv_goto (pc := 262) (tgt := 272) B d_Exprs_goOn_262 rfl ?_
            refine mv_lpick [] rfl ?_
            exact jn272  _ r_g6 hf
  have jn156 : ∀ (x1 : Int32) (x2 : Int32) (x3 : Int32) (hz : mv_H), mv_r hz = mv_r h → f_Exprs_goOn_156 48 x1 x2 x3 hz = some (rv, rg) → mv_V p l e ({ frames := 4, cells := 0, slots := 0, locals := 89 }) s m ([.ref (al 22), .int a0] : List Value).toArray below meth c (mg dA D al ext) 4 0 0 (mv_Q (mg dA D al ext) below s 0 0 (mv_Ri (fun v σ1 => rv = v ∧ rg = σ1 ∧ mv_r σ1 = mv_r h))) hz 156 [(0, .ref (al 22)), (1, .int x1), (2, .int x2), (3, .int x3)] [] := by
    intro x1 x2 x3 hz r_hz hf
    unfold f_Exprs_goOn_156 at hf
    refine mv_iload_n (pc := 156) B d_Exprs_goOn_156 rfl 2 rfl ?_
    refine mv_sipush (pc := 157) (v := 213) B d_Exprs_goOn_157 (by decide) ?_
    refine mv_icmp_lt (pc := 160) (tgt := 204) B d_Exprs_goOn_160 rfl (fun h160 => ?_) (fun h160 => ?_)
    · skip
      have hf := xif_t h160 hf
      refine mv_lpick [0, 1, 2, 3] rfl ?_
      exact jn204 _ _ _ _ r_hz hf
    · skip
      have hf := xif_f h160 hf
      refine mv_iload_n (pc := 163) B d_Exprs_goOn_163 rfl 2 rfl ?_
      refine mv_sipush (pc := 164) (v := 216) B d_Exprs_goOn_164 (by decide) ?_
      refine mv_icmp_gt (pc := 167) (tgt := 204) B d_Exprs_goOn_167 rfl (fun h167 => ?_) (fun h167 => ?_)
      · skip
        have hf := xif_t h167 hf
        refine mv_lpick [0, 1, 2, 3] rfl ?_
        exact jn204 _ _ _ _ r_hz hf
      · skip
        have hf := xif_f h167 hf
        refine mv_iload_n (pc := 170) B d_Exprs_goOn_170 rfl 1 rfl ?_
        refine mv_bipush (pc := 171) (v := 44) B d_Exprs_goOn_171 (by decide) ?_
        refine mv_icmp_ne (pc := 173) (tgt := 204) B d_Exprs_goOn_173 rfl (fun h173 => ?_) (fun h173 => ?_)
        · skip
          have hf := xif_f h173 hf
          refine mv_lpick [0, 1, 2, 3] rfl ?_
          exact jn204 _ _ _ _ r_hz hf
        · skip
          have hf := xif_t h173 hf
          refine mv_iload_n (pc := 176) B d_Exprs_goOn_176 rfl 3 rfl ?_
          refine mv_if_eq (pc := 177) (tgt := 204) B d_Exprs_goOn_177 rfl (fun h177 => ?_) (fun h177 => ?_)
          · skip
            have hf := xif_t h177 hf
            refine mv_lpick [0, 1, 2, 3] rfl ?_
            exact jn204 _ _ _ _ r_hz hf
          · skip
            have hf := xif_f h177 hf
            refine mv_aload_n (pc := 180) B d_Exprs_goOn_180 rfl 0 rfl ?_
            refine mv_getR (pc := 181) (ci := 6) (C := R_Exprs) (T := F_Exprs) (N := 11) B 0 rfl rfl (by decide) i_Exprs (B.2.2.2.1 _ k_193) rfl ((congrFun (congrFun r_hz 22) 0).trans (hb.1.1 22 0 _ rfl)) d_Exprs_goOn_181 ?_
            refine mv_bipush (pc := 184) (v := 44) B d_Exprs_goOn_184 (by decide) ?_
            obtain ⟨v8, g7, eg7, hf⟩ := xhb_e hf
            refine mv_callVi (pc := 186) (n := 1) (ci := 2) (C := R_Tokens) B (mK_ok sk sv) hNs rfl rfl (ch_Tokens_take l hi _ (xrw r_hz hb.t) _ eg7) rfl (ma_goodc kc_Tokens_take) (B.2.2.2.1 _ k_1424) (B.2.2.2.1 _ k_1267) (B.2.2.2.1 _ k_1268) (B.2.2.2.1 _ k_3) ⟨by decide +kernel, by decide +kernel, by decide +kernel⟩ rfl d_Exprs_goOn_186 rfl (Nat.le_of_ble_eq_true rfl) ⟨by decide, by decide⟩ ⟨by decide, by decide⟩ ⟨by decide, by decide⟩ (mv_noH hno _) (fun w186 σ186 h186 => ?_)
            obtain ⟨rfl, rfl, s_g7⟩ := h186
            have r_g7 : mv_r g7 = mv_r h := s_g7.trans r_hz
            refine mv_pop (pc := 189) B d_Exprs_goOn_189 rfl ?_
            refine mv_aload_n (pc := 190) B d_Exprs_goOn_190 rfl 0 rfl ?_
            refine mv_getR (pc := 191) (ci := 6) (C := R_Exprs) (T := F_Exprs) (N := 11) B 6 rfl rfl (by decide) i_Exprs (B.2.2.2.1 _ k_200) rfl ((congrFun (congrFun r_g7 22) 6).trans (hb.1.1 22 6 _ rfl)) d_Exprs_goOn_191 ?_
            refine mv_aload_n (pc := 194) B d_Exprs_goOn_194 rfl 0 rfl ?_
            refine mv_getI (pc := 195) (ci := 6) (C := R_Exprs) (T := F_Exprs) (N := 11) B 8 rfl rfl (by decide) i_Exprs (B.2.2.2.1 _ k_202) rfl d_Exprs_goOn_195 ?_
            refine mv_iconst (pc := 198) (v := 1) B d_Exprs_goOn_198 (by decide) ?_
            refine mv_isub (pc := 199) B d_Exprs_goOn_199 ?_
            refine mv_iconst (pc := 200) (v := 1) B d_Exprs_goOn_200 (by decide) ?_
            obtain ⟨q9, hf⟩ := xvi_e hf
            refine mv_iast (pc := 201) B rfl q9 d_Exprs_goOn_201 ?_
            refine mvh_hp (R9 := mv_r h) hf r_g7 (fun g10 hf r_g10 => ?_)
            refine mv_iconst (pc := 202) (v := 0) B d_Exprs_goOn_202 (by decide) ?_
            exact mv_iret (pc := 203) B hr rfl d_Exprs_goOn_203 (Nat.le_refl _) (Nat.le_refl _) ⟨_, rfl, xrh_i hf r_g10⟩
  have jn142 : ∀ (x1 : Int32) (x2 : Int32) (x3 : Int32) (hz : mv_H), mv_r hz = mv_r h → f_Exprs_goOn_142 48 x1 x2 x3 hz = some (rv, rg) → mv_V p l e ({ frames := 4, cells := 0, slots := 0, locals := 89 }) s m ([.ref (al 22), .int a0] : List Value).toArray below meth c (mg dA D al ext) 4 0 0 (mv_Q (mg dA D al ext) below s 0 0 (mv_Ri (fun v σ1 => rv = v ∧ rg = σ1 ∧ mv_r σ1 = mv_r h))) hz 142 [(0, .ref (al 22)), (1, .int x1), (2, .int x2), (3, .int x3)] [] := by
    intro x1 x2 x3 hz r_hz hf
    unfold f_Exprs_goOn_142 at hf
    refine mv_iload_n (pc := 142) B d_Exprs_goOn_142 rfl 1 rfl ?_
    refine mv_bipush (pc := 143) (v := 44) B d_Exprs_goOn_143 (by decide) ?_
    refine mv_icmp_ne (pc := 145) (tgt := 156) B d_Exprs_goOn_145 rfl (fun h145 => ?_) (fun h145 => ?_)
    · skip
      have hf := xif_f h145 hf
      refine mv_lpick [0, 1, 2, 3] rfl ?_
      exact jn156 _ _ _ _ r_hz hf
    · skip
      have hf := xif_t h145 hf
      refine mv_aload_n (pc := 148) B d_Exprs_goOn_148 rfl 0 rfl ?_
      refine mv_iload_n (pc := 149) B d_Exprs_goOn_149 rfl 2 rfl ?_
      obtain ⟨g11, eg11, hf⟩ := xhv_e hf
      refine mv_callVv (pc := 150) (n := 1) (ci := 6) (C := R_Exprs) B (mK_ok sk sv) hNs rfl rfl (ch_Exprs_widen_b l hi _ (xrw r_hz hb) _ eg11) rfl (ma_goodc kc_Exprs_widen) (B.2.2.2.1 _ k_1518) (B.2.2.2.1 _ k_1520) (B.2.2.2.1 _ ks_64) (B.2.2.2.1 _ k_7) ⟨by decide +kernel, by decide +kernel, by decide +kernel⟩ rfl d_Exprs_goOn_150 rfl (Nat.le_of_ble_eq_true rfl) ⟨by decide, by decide⟩ ⟨by decide, by decide⟩ ⟨by decide, by decide⟩ (mv_noH hno _) (fun σ150 h150 => ?_)
      obtain ⟨rfl, s_g11⟩ := h150
      have r_g11 : mv_r g11 = mv_r h := s_g11.trans r_hz
      refine mv_goto (pc := 153) (tgt := 272) B d_Exprs_goOn_153 rfl ?_
      refine mv_lpick [] rfl ?_
      exact jn272  _ r_g11 hf
  have jn128 : ∀ (x1 : Int32) (x2 : Int32) (x3 : Int32) (hz : mv_H), mv_r hz = mv_r h → f_Exprs_goOn_128 48 x1 x2 x3 hz = some (rv, rg) → mv_V p l e ({ frames := 4, cells := 0, slots := 0, locals := 89 }) s m ([.ref (al 22), .int a0] : List Value).toArray below meth c (mg dA D al ext) 4 0 0 (mv_Q (mg dA D al ext) below s 0 0 (mv_Ri (fun v σ1 => rv = v ∧ rg = σ1 ∧ mv_r σ1 = mv_r h))) hz 128 [(0, .ref (al 22)), (1, .int x1), (2, .int x2), (3, .int x3)] [] := by
    intro x1 x2 x3 hz r_hz hf
    unfold f_Exprs_goOn_128 at hf
    refine mv_iload_n (pc := 128) B d_Exprs_goOn_128 rfl 2 rfl ?_
    refine mv_sipush (pc := 129) (v := 211) B d_Exprs_goOn_129 (by decide) ?_
    refine mv_icmp_eq (pc := 132) (tgt := 142) B d_Exprs_goOn_132 rfl (fun h132 => ?_) (fun h132 => ?_)
    · skip
      have hf := xif_t h132 hf
      refine mv_lpick [0, 1, 2, 3] rfl ?_
      exact jn142 _ _ _ _ r_hz hf
    · skip
      have hf := xif_f h132 hf
      refine mv_iload_n (pc := 135) B d_Exprs_goOn_135 rfl 2 rfl ?_
      refine mv_sipush (pc := 136) (v := 212) B d_Exprs_goOn_136 (by decide) ?_
      refine mv_icmp_ne (pc := 139) (tgt := 156) B d_Exprs_goOn_139 rfl (fun h139 => ?_) (fun h139 => ?_)
      · skip
        have hf := xif_f h139 hf
        refine mv_lpick [0, 1, 2, 3] rfl ?_
        exact jn156 _ _ _ _ r_hz hf
      · skip
        have hf := xif_t h139 hf
        refine mv_lpick [0, 1, 2, 3] rfl ?_
        exact jn142 _ _ _ _ r_hz hf
  have jn93 : ∀ (x1 : Int32) (x2 : Int32) (x3 : Int32) (hz : mv_H), mv_r hz = mv_r h → f_Exprs_goOn_93 48 x1 x2 x3 hz = some (rv, rg) → mv_V p l e ({ frames := 4, cells := 0, slots := 0, locals := 89 }) s m ([.ref (al 22), .int a0] : List Value).toArray below meth c (mg dA D al ext) 4 0 0 (mv_Q (mg dA D al ext) below s 0 0 (mv_Ri (fun v σ1 => rv = v ∧ rg = σ1 ∧ mv_r σ1 = mv_r h))) hz 93 [(0, .ref (al 22)), (1, .int x1), (2, .int x2), (3, .int x3)] [] := by
    intro x1 x2 x3 hz r_hz hf
    unfold f_Exprs_goOn_93 at hf
    refine mv_iload_n (pc := 93) B d_Exprs_goOn_93 rfl 2 rfl ?_
    refine mv_bipush (pc := 94) (v := 40) B d_Exprs_goOn_94 (by decide) ?_
    refine mv_icmp_ne (pc := 96) (tgt := 128) B d_Exprs_goOn_96 rfl (fun h96 => ?_) (fun h96 => ?_)
    · skip
      have hf := xif_f h96 hf
      refine mv_lpick [0, 1, 2, 3] rfl ?_
      exact jn128 _ _ _ _ r_hz hf
    · skip
      have hf := xif_t h96 hf
      refine mv_iload_n (pc := 99) B d_Exprs_goOn_99 rfl 1 rfl ?_
      refine mv_bipush (pc := 100) (v := 41) B d_Exprs_goOn_100 (by decide) ?_
      refine mv_icmp_ne (pc := 102) (tgt := 128) B d_Exprs_goOn_102 rfl (fun h102 => ?_) (fun h102 => ?_)
      · skip
        have hf := xif_f h102 hf
        refine mv_lpick [0, 1, 2, 3] rfl ?_
        exact jn128 _ _ _ _ r_hz hf
      · skip
        have hf := xif_t h102 hf
        refine mv_aload_n (pc := 105) B d_Exprs_goOn_105 rfl 0 rfl ?_
        refine mv_getR (pc := 106) (ci := 6) (C := R_Exprs) (T := F_Exprs) (N := 11) B 0 rfl rfl (by decide) i_Exprs (B.2.2.2.1 _ k_193) rfl ((congrFun (congrFun r_hz 22) 0).trans (hb.1.1 22 0 _ rfl)) d_Exprs_goOn_106 ?_
        refine mv_bipush (pc := 109) (v := 41) B d_Exprs_goOn_109 (by decide) ?_
        obtain ⟨v13, g12, eg12, hf⟩ := xhb_e hf
        refine mv_callVi (pc := 111) (n := 1) (ci := 2) (C := R_Tokens) B (mK_ok sk sv) hNs rfl rfl (ch_Tokens_close l hi _ (xrw r_hz hb.t) _ eg12) rfl (ma_goodc kc_Tokens_close) (B.2.2.2.1 _ k_1468) (B.2.2.2.1 _ k_1397) (B.2.2.2.1 _ k_1398) (B.2.2.2.1 _ k_3) ⟨by decide +kernel, by decide +kernel, by decide +kernel⟩ rfl d_Exprs_goOn_111 rfl (Nat.le_of_ble_eq_true rfl) ⟨by decide, by decide⟩ ⟨by decide, by decide⟩ ⟨by decide, by decide⟩ (mv_noH hno _) (fun w111 σ111 h111 => ?_)
        obtain ⟨rfl, rfl, s_g12⟩ := h111
        have r_g12 : mv_r g12 = mv_r h := s_g12.trans r_hz
        refine mv_pop (pc := 114) B d_Exprs_goOn_114 rfl ?_
        refine mv_aload_n (pc := 115) B d_Exprs_goOn_115 rfl 0 rfl ?_
        refine mv_dup (pc := 116) B d_Exprs_goOn_116 rfl ?_
        refine mv_getI (pc := 117) (ci := 6) (C := R_Exprs) (T := F_Exprs) (N := 11) B 8 rfl rfl (by decide) i_Exprs (B.2.2.2.1 _ k_202) rfl d_Exprs_goOn_117 ?_
        refine mv_iconst (pc := 120) (v := 1) B d_Exprs_goOn_120 (by decide) ?_
        refine mv_isub (pc := 121) B d_Exprs_goOn_121 ?_
        refine mv_putI (pc := 122) (ci := 6) (C := R_Exprs) (T := F_Exprs) (N := 11) B 8 rfl rfl (by decide) i_Exprs t_Exprs_ok n_Exprs (B.2.2.2.1 _ k_202) rfl rfl rfl rfl d_Exprs_goOn_122 ?_
        refine mvh_hp (R9 := mv_r h) hf r_g12 (fun g14 hf r_g14 => ?_)
        refine mv_goto (pc := 125) (tgt := 272) B d_Exprs_goOn_125 rfl ?_
        refine mv_lpick [] rfl ?_
        exact jn272  _ r_g14 hf
  have jn74 : ∀ (x1 : Int32) (x2 : Int32) (x3 : Int32) (hz : mv_H), mv_r hz = mv_r h → f_Exprs_goOn_74 48 x1 x2 x3 hz = some (rv, rg) → mv_V p l e ({ frames := 4, cells := 0, slots := 0, locals := 89 }) s m ([.ref (al 22), .int a0] : List Value).toArray below meth c (mg dA D al ext) 4 0 0 (mv_Q (mg dA D al ext) below s 0 0 (mv_Ri (fun v σ1 => rv = v ∧ rg = σ1 ∧ mv_r σ1 = mv_r h))) hz 74 [(0, .ref (al 22)), (1, .int x1), (2, .int x2), (3, .int x3)] [] := by
    intro x1 x2 x3 hz r_hz hf
    unfold f_Exprs_goOn_74 at hf
    refine mv_iload_n (pc := 74) B d_Exprs_goOn_74 rfl 2 rfl ?_
    refine mv_bipush (pc := 75) (v := 91) B d_Exprs_goOn_75 (by decide) ?_
    refine mv_icmp_ne (pc := 77) (tgt := 93) B d_Exprs_goOn_77 rfl (fun h77 => ?_) (fun h77 => ?_)
    · skip
      have hf := xif_f h77 hf
      refine mv_lpick [0, 1, 2, 3] rfl ?_
      exact jn93 _ _ _ _ r_hz hf
    · skip
      have hf := xif_t h77 hf
      refine mv_iload_n (pc := 80) B d_Exprs_goOn_80 rfl 1 rfl ?_
      refine mv_bipush (pc := 81) (v := 93) B d_Exprs_goOn_81 (by decide) ?_
      refine mv_icmp_ne (pc := 83) (tgt := 93) B d_Exprs_goOn_83 rfl (fun h83 => ?_) (fun h83 => ?_)
      · skip
        have hf := xif_f h83 hf
        refine mv_lpick [0, 1, 2, 3] rfl ?_
        exact jn93 _ _ _ _ r_hz hf
      · skip
        have hf := xif_t h83 hf
        refine mv_aload_n (pc := 86) B d_Exprs_goOn_86 rfl 0 rfl ?_
        obtain ⟨g15, eg15, hf⟩ := xhv_e hf
        refine mv_callVv (pc := 87) (n := 0) (ci := 6) (C := R_Exprs) B (mK_ok sk sv) hNs rfl rfl (ch_Exprs_cell_b l hi _ (xrw r_hz hb) eg15) rfl (ma_goodc kc_Exprs_cell) (B.2.2.2.1 _ k_1514) (B.2.2.2.1 _ k_1516) (B.2.2.2.1 _ ks_63) (B.2.2.2.1 _ k_7) ⟨by decide +kernel, by decide +kernel, by decide +kernel⟩ rfl d_Exprs_goOn_87 rfl (Nat.le_of_ble_eq_true rfl) ⟨by decide, by decide⟩ ⟨by decide, by decide⟩ ⟨by decide, by decide⟩ (mv_noH hno _) (fun σ87 h87 => ?_)
        obtain ⟨rfl, s_g15⟩ := h87
        have r_g15 : mv_r g15 = mv_r h := s_g15.trans r_hz
        refine mv_goto (pc := 90) (tgt := 272) B d_Exprs_goOn_90 rfl ?_
        refine mv_lpick [] rfl ?_
        exact jn272  _ r_g15 hf
  have jn68 : ∀ (x1 : Int32) (hz : mv_H), mv_r hz = mv_r h → f_Exprs_goOn_68 48 x1 hz = some (rv, rg) → mv_V p l e ({ frames := 4, cells := 0, slots := 0, locals := 89 }) s m ([.ref (al 22), .int a0] : List Value).toArray below meth c (mg dA D al ext) 4 0 0 (mv_Q (mg dA D al ext) below s 0 0 (mv_Ri (fun v σ1 => rv = v ∧ rg = σ1 ∧ mv_r σ1 = mv_r h))) hz 68 [(0, .ref (al 22)), (1, .int x1)] [] := by
    intro x1 hz r_hz hf
    unfold f_Exprs_goOn_68 at hf
    refine mv_aload_n (pc := 68) B d_Exprs_goOn_68 rfl 0 rfl ?_
    refine mv_iload_n (pc := 69) B d_Exprs_goOn_69 rfl 1 rfl ?_
    obtain ⟨v17, g16, eg16, hf⟩ := xhb_e hf
    refine mv_callVi (pc := 70) (n := 1) (ci := 6) (C := R_Exprs) B (mK_ok sk sv) hNs rfl rfl (ch_Exprs_join_b l hi _ (xrw r_hz hb) _ eg16) rfl (ma_goodc kc_Exprs_join) (B.2.2.2.1 _ k_1510) (B.2.2.2.1 _ k_1512) (B.2.2.2.1 _ ks_62) (B.2.2.2.1 _ k_7) ⟨by decide +kernel, by decide +kernel, by decide +kernel⟩ rfl d_Exprs_goOn_70 rfl (Nat.le_of_ble_eq_true rfl) ⟨by decide, by decide⟩ ⟨by decide, by decide⟩ ⟨by decide, by decide⟩ (mv_noH hno _) (fun w70 σ70 h70 => ?_)
    obtain ⟨rfl, rfl, s_g16⟩ := h70
    have r_g16 : mv_r g16 = mv_r h := s_g16.trans r_hz
    exact mv_iret (pc := 73) B hr rfl d_Exprs_goOn_73 (Nat.le_refl _) (Nat.le_refl _) ⟨_, rfl, xrh_i hf r_g16⟩
  have jn50 : ∀ (x1 : Int32) (x2 : Int32) (x3 : Int32) (hz : mv_H), mv_r hz = mv_r h → f_Exprs_goOn_50 48 x1 x2 x3 hz = some (rv, rg) → mv_V p l e ({ frames := 4, cells := 0, slots := 0, locals := 89 }) s m ([.ref (al 22), .int a0] : List Value).toArray below meth c (mg dA D al ext) 4 0 0 (mv_Q (mg dA D al ext) below s 0 0 (mv_Ri (fun v σ1 => rv = v ∧ rg = σ1 ∧ mv_r σ1 = mv_r h))) hz 50 [(0, .ref (al 22)), (1, .int x1), (2, .int x2), (3, .int x3)] [] := by
    intro x1 x2 x3 hz r_hz hf
    unfold f_Exprs_goOn_50 at hf
    refine mv_iload_n (pc := 50) B d_Exprs_goOn_50 rfl 2 rfl ?_
    refine mv_bipush (pc := 51) (v := 123) B d_Exprs_goOn_51 (by decide) ?_
    refine mv_icmp_ne (pc := 53) (tgt := 74) B d_Exprs_goOn_53 rfl (fun h53 => ?_) (fun h53 => ?_)
    · skip
      have hf := xif_f h53 hf
      refine mv_lpick [0, 1, 2, 3] rfl ?_
      exact jn74 _ _ _ _ r_hz hf
    · skip
      have hf := xif_t h53 hf
      refine mv_iload_n (pc := 56) B d_Exprs_goOn_56 rfl 1 rfl ?_
      refine mv_bipush (pc := 57) (v := 44) B d_Exprs_goOn_57 (by decide) ?_
      refine mv_icmp_eq (pc := 59) (tgt := 68) B d_Exprs_goOn_59 rfl (fun h59 => ?_) (fun h59 => ?_)
      · skip
        have hf := xif_t h59 hf
        refine mv_lpick [0, 1] rfl ?_
        exact jn68 _ _ r_hz hf
      · skip
        have hf := xif_f h59 hf
        refine mv_iload_n (pc := 62) B d_Exprs_goOn_62 rfl 1 rfl ?_
        refine mv_bipush (pc := 63) (v := 125) B d_Exprs_goOn_63 (by decide) ?_
        refine mv_icmp_ne (pc := 65) (tgt := 74) B d_Exprs_goOn_65 rfl (fun h65 => ?_) (fun h65 => ?_)
        · skip
          have hf := xif_f h65 hf
          refine mv_lpick [0, 1, 2, 3] rfl ?_
          exact jn74 _ _ _ _ r_hz hf
        · skip
          have hf := xif_t h65 hf
          refine mv_lpick [0, 1] rfl ?_
          exact jn68 _ _ r_hz hf
  have jn31 : ∀ (x1 : Int32) (x2 : Int32) (y0 : Int32) (hz : mv_H), mv_r hz = mv_r h → f_Exprs_goOn_31 48 x1 x2 y0 hz = some (rv, rg) → mv_V p l e ({ frames := 4, cells := 0, slots := 0, locals := 89 }) s m ([.ref (al 22), .int a0] : List Value).toArray below meth c (mg dA D al ext) 4 0 0 (mv_Q (mg dA D al ext) below s 0 0 (mv_Ri (fun v σ1 => rv = v ∧ rg = σ1 ∧ mv_r σ1 = mv_r h))) hz 31 [(0, .ref (al 22)), (1, .int x1), (2, .int x2)] [.int y0] := by
    intro x1 x2 y0 hz r_hz hf
    unfold f_Exprs_goOn_31 at hf
    refine mv_istore_n (pc := 31) B d_Exprs_goOn_31 rfl (by decide) rfl ?_
    refine mv_iload_n (pc := 32) B d_Exprs_goOn_32 rfl 3 rfl ?_
    refine mv_bipush (pc := 33) (v := 63) B d_Exprs_goOn_33 (by decide) ?_
    refine mv_icmp_ne (pc := 35) (tgt := 50) B d_Exprs_goOn_35 rfl (fun h35 => ?_) (fun h35 => ?_)
    · skip
      have hf := xif_f h35 hf
      refine mv_lpick [1, 2, 3, 0] rfl ?_
      exact jn50 _ _ _ _ r_hz hf
    · skip
      have hf := xif_t h35 hf
      refine mv_iload_n (pc := 38) B d_Exprs_goOn_38 rfl 2 rfl ?_
      refine mv_bipush (pc := 39) (v := 58) B d_Exprs_goOn_39 (by decide) ?_
      refine mv_icmp_ne (pc := 41) (tgt := 50) B d_Exprs_goOn_41 rfl (fun h41 => ?_) (fun h41 => ?_)
      · skip
        have hf := xif_f h41 hf
        refine mv_lpick [1, 2, 3, 0] rfl ?_
        exact jn50 _ _ _ _ r_hz hf
      · skip
        have hf := xif_t h41 hf
        refine mv_aload_n (pc := 44) B d_Exprs_goOn_44 rfl 1 rfl ?_
        obtain ⟨g18, eg18, hf⟩ := xhv_e hf
        refine mv_callVv (pc := 45) (n := 0) (ci := 6) (C := R_Exprs) B (mK_ok sk sv) hNs rfl rfl (ch_Exprs_otherwise_b l hi _ (xrw r_hz hb) eg18) rfl (ma_goodc kc_Exprs_otherwise) (B.2.2.2.1 _ k_1506) (B.2.2.2.1 _ k_1508) (B.2.2.2.1 _ ks_61) (B.2.2.2.1 _ k_7) ⟨by decide +kernel, by decide +kernel, by decide +kernel⟩ rfl d_Exprs_goOn_45 rfl (Nat.le_of_ble_eq_true rfl) ⟨by decide, by decide⟩ ⟨by decide, by decide⟩ ⟨by decide, by decide⟩ (mv_noH hno _) (fun σ45 h45 => ?_)
        obtain ⟨rfl, s_g18⟩ := h45
        have r_g18 : mv_r g18 = mv_r h := s_g18.trans r_hz
        refine mv_iconst (pc := 48) (v := 0) B d_Exprs_goOn_48 (by decide) ?_
        exact mv_iret (pc := 49) B hr rfl d_Exprs_goOn_49 (Nat.le_refl _) (Nat.le_refl _) ⟨_, rfl, xrh_i hf r_g18⟩
  unfold f_Exprs_goOn at hf
  refine mv_aload_n (pc := 0) B d_Exprs_goOn_0 rfl 0 rfl ?_
  refine mv_getR (pc := 1) (ci := 6) (C := R_Exprs) (T := F_Exprs) (N := 11) B 4 rfl rfl (by decide) i_Exprs (B.2.2.2.1 _ k_198) rfl (hb.1.1 22 4 _ rfl) d_Exprs_goOn_1 ?_
  refine mv_aload_n (pc := 4) B d_Exprs_goOn_4 rfl 0 rfl ?_
  refine mv_getI (pc := 5) (ci := 6) (C := R_Exprs) (T := F_Exprs) (N := 11) B 8 rfl rfl (by decide) i_Exprs (B.2.2.2.1 _ k_202) rfl d_Exprs_goOn_5 ?_
  refine mv_iconst (pc := 8) (v := 1) B d_Exprs_goOn_8 (by decide) ?_
  refine mv_isub (pc := 9) B d_Exprs_goOn_9 ?_
  obtain ⟨q19, hf⟩ := xvi_e hf
  refine mv_iald (pc := 10) B rfl q19 d_Exprs_goOn_10 ?_
  refine mv_istore_n (pc := 11) B d_Exprs_goOn_11 rfl (by decide) rfl ?_
  refine mv_aload_n (pc := 12) B d_Exprs_goOn_12 rfl 1 rfl ?_
  refine mv_getR (pc := 13) (ci := 6) (C := R_Exprs) (T := F_Exprs) (N := 11) B 6 rfl rfl (by decide) i_Exprs (B.2.2.2.1 _ k_200) rfl (hb.1.1 22 6 _ rfl) d_Exprs_goOn_13 ?_
  refine mv_aload_n (pc := 16) B d_Exprs_goOn_16 rfl 1 rfl ?_
  refine mv_getI (pc := 17) (ci := 6) (C := R_Exprs) (T := F_Exprs) (N := 11) B 8 rfl rfl (by decide) i_Exprs (B.2.2.2.1 _ k_202) rfl d_Exprs_goOn_17 ?_
  refine mv_iconst (pc := 20) (v := 1) B d_Exprs_goOn_20 (by decide) ?_
  refine mv_isub (pc := 21) B d_Exprs_goOn_21 ?_
  obtain ⟨q20, hf⟩ := xvi_e hf
  refine mv_iald (pc := 22) B rfl q20 d_Exprs_goOn_22 ?_
  refine mv_if_ne (pc := 23) (tgt := 30) B d_Exprs_goOn_23 rfl (fun h23 => ?_) (fun h23 => ?_)
  · skip
    have hf := xif_f h23 hf
    refine mv_iconst (pc := 30) (v := 0) B d_Exprs_goOn_30 (by decide) ?_
    refine mv_lpick [1, 2, 0] rfl ?_
    exact jn31 _ _ _ _ rfl hf
  · skip
    have hf := xif_t h23 hf
    refine mv_iconst (pc := 26) (v := 1) B d_Exprs_goOn_26 (by decide) ?_
    refine mv_goto (pc := 27) (tgt := 31) B d_Exprs_goOn_27 rfl ?_
    refine mv_lpick [1, 2, 0] rfl ?_
    exact jn31 _ _ _ _ rfl hf
def f_Exprs_after (P : Nat) (h : mv_H) : Option (Int32 × mv_H) := xhb (f_Tokens_kind h) fun v2 g1 => if v2 = (91 : Int32) then (xhv (f_Exprs_part P g1) fun g15 => some ((1 : Int32), g15)) else (xhv (f_Exprs_endSigns P g1) fun g3 => xhb (f_Exprs_levelOf g3 v2) fun v5 g4 => if v5 ≤ (0 : Int32) then (xhv (f_Exprs_endBinaries P g4 (1 : Int32)) fun g6 => if v2 = (63 : Int32) then (xhv (f_Exprs_choose P g6) fun g10 => some ((0 : Int32), g10)) else (xhv (f_Exprs_endChoices P g6) fun g7 => if (mv_i g7 22 8) = (0 : Int32) then (some ((2 : Int32), g7)) else (xhb (f_Exprs_goOn P g7 v2) fun v9 g8 => some (v9, g8)))) else (xhv (f_Exprs_endBinaries P g4 v5) fun g11 => xhb (f_Tokens_take g11 v2) fun v13 g12 => xhv (f_Exprs_mark g12 v2 v13) fun g14 => some ((0 : Int32), g14)))
set_option maxHeartbeats 4000000 in
set_option maxRecDepth 100000 in
theorem ch_Exprs_after_a (l : Launch) {dA : FieldType → ClassId} {D : va_G} {al : Nat → Nat} {ext : mv_Sh} {sk sv : Nat → Nat} (hi : mv_inj (mg dA D al ext)) (h : mv_H) (hb : xRP 32 (mv_r h))  {rv : Int32} {rg : mv_H} (hf : f_Exprs_after 32 h = some (rv, rg)) : mv_C l y_Exprs_after (Cond.code y_Exprs_after b_Exprs_after 3 (Option.some Jvm.ClassFile.FieldType.int) :: ma) ({ frames := 5, cells := 0, slots := 0, locals := 112 }) (mg dA D al ext) (mK sk sv) [.ref (al 22)] h (mv_Ri (fun v σ1 => rv = v ∧ rg = σ1 ∧ mv_r σ1 = mv_r h)) := by
  refine mv_C.ofV (cc := b_Exprs_after) (nL := 3) (ret := (Option.some Jvm.ClassFile.FieldType.int)) (by decide +kernel) rfl hi (Nat.le_of_ble_eq_true rfl) ?_
  intro p e s m below meth c B hNs hr hnm hno
  unfold f_Exprs_after at hf
  refine mv_aload_n (pc := 0) B d_Exprs_after_0 rfl 0 rfl ?_
  refine mv_getR (pc := 1) (ci := 6) (C := R_Exprs) (T := F_Exprs) (N := 11) B 0 rfl rfl (by decide) i_Exprs (B.2.2.2.1 _ k_193) rfl (hb.1.1 22 0 _ rfl) d_Exprs_after_1 ?_
  obtain ⟨v2, g1, eg1, hf⟩ := xhb_e hf
  refine mv_callVi (pc := 4) (n := 0) (ci := 2) (C := R_Tokens) B (mK_ok sk sv) hNs rfl rfl (ch_Tokens_kind l hi _ (hb.t) eg1) rfl (ma_goodc kc_Tokens_kind) (B.2.2.2.1 _ k_1414) (B.2.2.2.1 _ k_1271) (B.2.2.2.1 _ k_1272) (B.2.2.2.1 _ k_3) ⟨by decide +kernel, by decide +kernel, by decide +kernel⟩ rfl d_Exprs_after_4 rfl (Nat.le_of_ble_eq_true rfl) ⟨by decide, by decide⟩ ⟨by decide, by decide⟩ ⟨by decide, by decide⟩ (mv_noH hno _) (fun w4 σ4 h4 => ?_)
  obtain ⟨rfl, rfl, s_g1⟩ := h4
  have r_g1 : mv_r g1 = mv_r h := s_g1.trans rfl
  refine mv_istore_n (pc := 7) B d_Exprs_after_7 rfl (by decide) rfl ?_
  refine mv_iload_n (pc := 8) B d_Exprs_after_8 rfl 0 rfl ?_
  refine mv_bipush (pc := 9) (v := 91) B d_Exprs_after_9 (by decide) ?_
  refine mv_icmp_ne (pc := 11) (tgt := 20) B d_Exprs_after_11 rfl (fun h11 => ?_) (fun h11 => ?_)
  · skip
    have hf := xif_f h11 hf
    refine mv_aload_n (pc := 20) B d_Exprs_after_20 rfl 1 rfl ?_
    obtain ⟨g3, eg3, hf⟩ := xhv_e hf
    refine mv_callVv (pc := 21) (n := 0) (ci := 6) (C := R_Exprs) B (mK_ok sk sv) hNs rfl rfl (ch_Exprs_endSigns_a l hi _ (xrw r_g1 hb) eg3) rfl (ma_goodc kc_Exprs_endSigns) (B.2.2.2.1 _ k_1478) (B.2.2.2.1 _ k_1480) (B.2.2.2.1 _ ks_55) (B.2.2.2.1 _ k_7) ⟨by decide +kernel, by decide +kernel, by decide +kernel⟩ rfl d_Exprs_after_21 rfl (Nat.le_of_ble_eq_true rfl) ⟨by decide, by decide⟩ ⟨by decide, by decide⟩ ⟨by decide, by decide⟩ (mv_noH hno _) (fun σ21 h21 => ?_)
    obtain ⟨rfl, s_g3⟩ := h21
    have r_g3 : mv_r g3 = mv_r h := s_g3.trans r_g1
    refine mv_iload_n (pc := 24) B d_Exprs_after_24 rfl 0 rfl ?_
    obtain ⟨v5, g4, eg4, hf⟩ := xhb_e hf
    refine mv_callSi (pc := 25) (n := 1) B (mK_ok sk sv) hNs (ch_Exprs_levelOf l hi _ _ eg4) rfl (ma_goodc kc_Exprs_levelOf) (B.2.2.2.1 _ k_1482) (B.2.2.2.1 _ k_1483) (B.2.2.2.1 _ k_7) ⟨by decide +kernel, by decide +kernel, by decide +kernel⟩ rfl d_Exprs_after_25 rfl (Nat.le_of_ble_eq_true rfl) ⟨by decide, by decide⟩ ⟨by decide, by decide⟩ ⟨by decide, by decide⟩ (mv_noH hno _) (fun w25 σ25 h25 => ?_)
    obtain ⟨rfl, rfl, s_g4⟩ := h25
    have r_g4 : mv_r g4 = mv_r h := s_g4.trans r_g3
    refine mv_istore_n (pc := 28) B d_Exprs_after_28 rfl (by decide) rfl ?_
    refine mv_iload_n (pc := 29) B d_Exprs_after_29 rfl 0 rfl ?_
    refine mv_if_le (pc := 30) (tgt := 53) B d_Exprs_after_30 rfl (fun h30 => ?_) (fun h30 => ?_)
    · skip
      have hf := xif_t h30 hf
      refine mv_aload_n (pc := 53) B d_Exprs_after_53 rfl 2 rfl ?_
      refine mv_iconst (pc := 54) (v := 1) B d_Exprs_after_54 (by decide) ?_
      obtain ⟨g6, eg6, hf⟩ := xhv_e hf
      refine mv_callVv (pc := 55) (n := 1) (ci := 6) (C := R_Exprs) B (mK_ok sk sv) hNs rfl rfl (ch_Exprs_endBinaries_a l hi _ (xrw r_g4 hb) _ eg6) rfl (ma_goodc kc_Exprs_endBinaries) (B.2.2.2.1 _ k_1485) (B.2.2.2.1 _ k_1487) (B.2.2.2.1 _ ks_56) (B.2.2.2.1 _ k_7) ⟨by decide +kernel, by decide +kernel, by decide +kernel⟩ rfl d_Exprs_after_55 rfl (Nat.le_of_ble_eq_true rfl) ⟨by decide, by decide⟩ ⟨by decide, by decide⟩ ⟨by decide, by decide⟩ (mv_noH hno _) (fun σ55 h55 => ?_)
      obtain ⟨rfl, s_g6⟩ := h55
      have r_g6 : mv_r g6 = mv_r h := s_g6.trans r_g4
      refine mv_iload_n (pc := 58) B d_Exprs_after_58 rfl 1 rfl ?_
      refine mv_bipush (pc := 59) (v := 63) B d_Exprs_after_59 (by decide) ?_
      refine mv_icmp_ne (pc := 61) (tgt := 70) B d_Exprs_after_61 rfl (fun h61 => ?_) (fun h61 => ?_)
      · skip
        have hf := xif_f h61 hf
        refine mv_aload_n (pc := 70) B d_Exprs_after_70 rfl 2 rfl ?_
        obtain ⟨g7, eg7, hf⟩ := xhv_e hf
        refine mv_callVv (pc := 71) (n := 0) (ci := 6) (C := R_Exprs) B (mK_ok sk sv) hNs rfl rfl (ch_Exprs_endChoices_a l hi _ (xrw r_g6 hb) eg7) rfl (ma_goodc kc_Exprs_endChoices) (B.2.2.2.1 _ k_1497) (B.2.2.2.1 _ k_1499) (B.2.2.2.1 _ ks_59) (B.2.2.2.1 _ k_7) ⟨by decide +kernel, by decide +kernel, by decide +kernel⟩ rfl d_Exprs_after_71 rfl (Nat.le_of_ble_eq_true rfl) ⟨by decide, by decide⟩ ⟨by decide, by decide⟩ ⟨by decide, by decide⟩ (mv_noH hno _) (fun σ71 h71 => ?_)
        obtain ⟨rfl, s_g7⟩ := h71
        have r_g7 : mv_r g7 = mv_r h := s_g7.trans r_g6
        refine mv_aload_n (pc := 74) B d_Exprs_after_74 rfl 2 rfl ?_
        refine mv_getI (pc := 75) (ci := 6) (C := R_Exprs) (T := F_Exprs) (N := 11) B 8 rfl rfl (by decide) i_Exprs (B.2.2.2.1 _ k_202) rfl d_Exprs_after_75 ?_
        refine mv_if_ne (pc := 78) (tgt := 83) B d_Exprs_after_78 rfl (fun h78 => ?_) (fun h78 => ?_)
        · skip
          have hf := xif_f h78 hf
          refine mv_aload_n (pc := 83) B d_Exprs_after_83 rfl 2 rfl ?_
          refine mv_iload_n (pc := 84) B d_Exprs_after_84 rfl 1 rfl ?_
          obtain ⟨v9, g8, eg8, hf⟩ := xhb_e hf
          refine mv_callVi (pc := 85) (n := 1) (ci := 6) (C := R_Exprs) B (mK_ok sk sv) hNs rfl rfl (ch_Exprs_goOn_a l hi _ (xrw r_g7 hb) _ eg8) rfl (ma_goodc kc_Exprs_goOn) (B.2.2.2.1 _ k_1502) (B.2.2.2.1 _ k_1504) (B.2.2.2.1 _ ks_60) (B.2.2.2.1 _ k_7) ⟨by decide +kernel, by decide +kernel, by decide +kernel⟩ rfl d_Exprs_after_85 rfl (Nat.le_of_ble_eq_true rfl) ⟨by decide, by decide⟩ ⟨by decide, by decide⟩ ⟨by decide, by decide⟩ (mv_noH hno _) (fun w85 σ85 h85 => ?_)
          obtain ⟨rfl, rfl, s_g8⟩ := h85
          have r_g8 : mv_r g8 = mv_r h := s_g8.trans r_g7
          exact mv_iret (pc := 88) B hr rfl d_Exprs_after_88 (Nat.le_refl _) (Nat.le_refl _) ⟨_, rfl, xrh_i hf r_g8⟩
        · skip
          have hf := xif_t h78 hf
          refine mv_iconst (pc := 81) (v := 2) B d_Exprs_after_81 (by decide) ?_
          exact mv_iret (pc := 82) B hr rfl d_Exprs_after_82 (Nat.le_refl _) (Nat.le_refl _) ⟨_, rfl, xrh_i hf r_g7⟩
      · skip
        have hf := xif_t h61 hf
        refine mv_aload_n (pc := 64) B d_Exprs_after_64 rfl 2 rfl ?_
        obtain ⟨g10, eg10, hf⟩ := xhv_e hf
        refine mv_callVv (pc := 65) (n := 0) (ci := 6) (C := R_Exprs) B (mK_ok sk sv) hNs rfl rfl (ch_Exprs_choose_a l hi _ (xrw r_g6 hb) eg10) rfl (ma_goodc kc_Exprs_choose) (B.2.2.2.1 _ k_1493) (B.2.2.2.1 _ k_1495) (B.2.2.2.1 _ ks_58) (B.2.2.2.1 _ k_7) ⟨by decide +kernel, by decide +kernel, by decide +kernel⟩ rfl d_Exprs_after_65 rfl (Nat.le_of_ble_eq_true rfl) ⟨by decide, by decide⟩ ⟨by decide, by decide⟩ ⟨by decide, by decide⟩ (mv_noH hno _) (fun σ65 h65 => ?_)
        obtain ⟨rfl, s_g10⟩ := h65
        have r_g10 : mv_r g10 = mv_r h := s_g10.trans r_g6
        refine mv_iconst (pc := 68) (v := 0) B d_Exprs_after_68 (by decide) ?_
        exact mv_iret (pc := 69) B hr rfl d_Exprs_after_69 (Nat.le_refl _) (Nat.le_refl _) ⟨_, rfl, xrh_i hf r_g10⟩
    · skip
      have hf := xif_f h30 hf
      refine mv_aload_n (pc := 33) B d_Exprs_after_33 rfl 2 rfl ?_
      refine mv_iload_n (pc := 34) B d_Exprs_after_34 rfl 0 rfl ?_
      obtain ⟨g11, eg11, hf⟩ := xhv_e hf
      refine mv_callVv (pc := 35) (n := 1) (ci := 6) (C := R_Exprs) B (mK_ok sk sv) hNs rfl rfl (ch_Exprs_endBinaries_a l hi _ (xrw r_g4 hb) _ eg11) rfl (ma_goodc kc_Exprs_endBinaries) (B.2.2.2.1 _ k_1485) (B.2.2.2.1 _ k_1487) (B.2.2.2.1 _ ks_56) (B.2.2.2.1 _ k_7) ⟨by decide +kernel, by decide +kernel, by decide +kernel⟩ rfl d_Exprs_after_35 rfl (Nat.le_of_ble_eq_true rfl) ⟨by decide, by decide⟩ ⟨by decide, by decide⟩ ⟨by decide, by decide⟩ (mv_noH hno _) (fun σ35 h35 => ?_)
      obtain ⟨rfl, s_g11⟩ := h35
      have r_g11 : mv_r g11 = mv_r h := s_g11.trans r_g4
      refine mv_aload_n (pc := 38) B d_Exprs_after_38 rfl 2 rfl ?_
      refine mv_iload_n (pc := 39) B d_Exprs_after_39 rfl 1 rfl ?_
      refine mv_aload_n (pc := 40) B d_Exprs_after_40 rfl 2 rfl ?_
      refine mv_getR (pc := 41) (ci := 6) (C := R_Exprs) (T := F_Exprs) (N := 11) B 0 rfl rfl (by decide) i_Exprs (B.2.2.2.1 _ k_193) rfl ((congrFun (congrFun r_g11 22) 0).trans (hb.1.1 22 0 _ rfl)) d_Exprs_after_41 ?_
      refine mv_iload_n (pc := 44) B d_Exprs_after_44 rfl 1 rfl ?_
      obtain ⟨v13, g12, eg12, hf⟩ := xhb_e hf
      refine mv_callVi (pc := 45) (n := 1) (ci := 2) (C := R_Tokens) B (mK_ok sk sv) hNs rfl rfl (ch_Tokens_take l hi _ (xrw r_g11 hb.t) _ eg12) rfl (ma_goodc kc_Tokens_take) (B.2.2.2.1 _ k_1424) (B.2.2.2.1 _ k_1267) (B.2.2.2.1 _ k_1268) (B.2.2.2.1 _ k_3) ⟨by decide +kernel, by decide +kernel, by decide +kernel⟩ rfl d_Exprs_after_45 rfl (Nat.le_of_ble_eq_true rfl) ⟨by decide, by decide⟩ ⟨by decide, by decide⟩ ⟨by decide, by decide⟩ (mv_noH hno _) (fun w45 σ45 h45 => ?_)
      obtain ⟨rfl, rfl, s_g12⟩ := h45
      have r_g12 : mv_r g12 = mv_r h := s_g12.trans r_g11
      obtain ⟨g14, eg14, hf⟩ := xhv_e hf
      refine mv_callVv (pc := 48) (n := 2) (ci := 6) (C := R_Exprs) B (mK_ok sk sv) hNs rfl rfl (ch_Exprs_mark l hi _ (xrw r_g12 hb.t) _ _ eg14) rfl (ma_goodc kc_Exprs_mark) (B.2.2.2.1 _ k_1416) (B.2.2.2.1 _ k_1418) (B.2.2.2.1 _ ks_48) (B.2.2.2.1 _ k_7) ⟨by decide +kernel, by decide +kernel, by decide +kernel⟩ rfl d_Exprs_after_48 rfl (Nat.le_of_ble_eq_true rfl) ⟨by decide, by decide⟩ ⟨by decide, by decide⟩ ⟨by decide, by decide⟩ (mv_noH hno _) (fun σ48 h48 => ?_)
      obtain ⟨rfl, s_g14⟩ := h48
      have r_g14 : mv_r g14 = mv_r h := s_g14.trans r_g12
      refine mv_iconst (pc := 51) (v := 0) B d_Exprs_after_51 (by decide) ?_
      exact mv_iret (pc := 52) B hr rfl d_Exprs_after_52 (Nat.le_refl _) (Nat.le_refl _) ⟨_, rfl, xrh_i hf r_g14⟩
  · skip
    have hf := xif_t h11 hf
    refine mv_aload_n (pc := 14) B d_Exprs_after_14 rfl 1 rfl ?_
    obtain ⟨g15, eg15, hf⟩ := xhv_e hf
    refine mv_callVv (pc := 15) (n := 0) (ci := 6) (C := R_Exprs) B (mK_ok sk sv) hNs rfl rfl (ch_Exprs_part_a l hi _ (xrw r_g1 hb) eg15) rfl (ma_goodc kc_Exprs_part) (B.2.2.2.1 _ k_1464) (B.2.2.2.1 _ k_1466) (B.2.2.2.1 _ ks_54) (B.2.2.2.1 _ k_7) ⟨by decide +kernel, by decide +kernel, by decide +kernel⟩ rfl d_Exprs_after_15 rfl (Nat.le_of_ble_eq_true rfl) ⟨by decide, by decide⟩ ⟨by decide, by decide⟩ ⟨by decide, by decide⟩ (mv_noH hno _) (fun σ15 h15 => ?_)
    obtain ⟨rfl, s_g15⟩ := h15
    have r_g15 : mv_r g15 = mv_r h := s_g15.trans r_g1
    refine mv_iconst (pc := 18) (v := 1) B d_Exprs_after_18 (by decide) ?_
    exact mv_iret (pc := 19) B hr rfl d_Exprs_after_19 (Nat.le_refl _) (Nat.le_refl _) ⟨_, rfl, xrh_i hf r_g15⟩
set_option maxHeartbeats 4000000 in
set_option maxRecDepth 100000 in
theorem ch_Exprs_after_b (l : Launch) {dA : FieldType → ClassId} {D : va_G} {al : Nat → Nat} {ext : mv_Sh} {sk sv : Nat → Nat} (hi : mv_inj (mg dA D al ext)) (h : mv_H) (hb : xRP 48 (mv_r h))  {rv : Int32} {rg : mv_H} (hf : f_Exprs_after 48 h = some (rv, rg)) : mv_C l y_Exprs_after (Cond.code y_Exprs_after b_Exprs_after 3 (Option.some Jvm.ClassFile.FieldType.int) :: ma) ({ frames := 5, cells := 0, slots := 0, locals := 112 }) (mg dA D al ext) (mK sk sv) [.ref (al 22)] h (mv_Ri (fun v σ1 => rv = v ∧ rg = σ1 ∧ mv_r σ1 = mv_r h)) := by
  refine mv_C.ofV (cc := b_Exprs_after) (nL := 3) (ret := (Option.some Jvm.ClassFile.FieldType.int)) (by decide +kernel) rfl hi (Nat.le_of_ble_eq_true rfl) ?_
  intro p e s m below meth c B hNs hr hnm hno
  unfold f_Exprs_after at hf
  refine mv_aload_n (pc := 0) B d_Exprs_after_0 rfl 0 rfl ?_
  refine mv_getR (pc := 1) (ci := 6) (C := R_Exprs) (T := F_Exprs) (N := 11) B 0 rfl rfl (by decide) i_Exprs (B.2.2.2.1 _ k_193) rfl (hb.1.1 22 0 _ rfl) d_Exprs_after_1 ?_
  obtain ⟨v2, g1, eg1, hf⟩ := xhb_e hf
  refine mv_callVi (pc := 4) (n := 0) (ci := 2) (C := R_Tokens) B (mK_ok sk sv) hNs rfl rfl (ch_Tokens_kind l hi _ (hb.t) eg1) rfl (ma_goodc kc_Tokens_kind) (B.2.2.2.1 _ k_1414) (B.2.2.2.1 _ k_1271) (B.2.2.2.1 _ k_1272) (B.2.2.2.1 _ k_3) ⟨by decide +kernel, by decide +kernel, by decide +kernel⟩ rfl d_Exprs_after_4 rfl (Nat.le_of_ble_eq_true rfl) ⟨by decide, by decide⟩ ⟨by decide, by decide⟩ ⟨by decide, by decide⟩ (mv_noH hno _) (fun w4 σ4 h4 => ?_)
  obtain ⟨rfl, rfl, s_g1⟩ := h4
  have r_g1 : mv_r g1 = mv_r h := s_g1.trans rfl
  refine mv_istore_n (pc := 7) B d_Exprs_after_7 rfl (by decide) rfl ?_
  refine mv_iload_n (pc := 8) B d_Exprs_after_8 rfl 0 rfl ?_
  refine mv_bipush (pc := 9) (v := 91) B d_Exprs_after_9 (by decide) ?_
  refine mv_icmp_ne (pc := 11) (tgt := 20) B d_Exprs_after_11 rfl (fun h11 => ?_) (fun h11 => ?_)
  · skip
    have hf := xif_f h11 hf
    refine mv_aload_n (pc := 20) B d_Exprs_after_20 rfl 1 rfl ?_
    obtain ⟨g3, eg3, hf⟩ := xhv_e hf
    refine mv_callVv (pc := 21) (n := 0) (ci := 6) (C := R_Exprs) B (mK_ok sk sv) hNs rfl rfl (ch_Exprs_endSigns_b l hi _ (xrw r_g1 hb) eg3) rfl (ma_goodc kc_Exprs_endSigns) (B.2.2.2.1 _ k_1478) (B.2.2.2.1 _ k_1480) (B.2.2.2.1 _ ks_55) (B.2.2.2.1 _ k_7) ⟨by decide +kernel, by decide +kernel, by decide +kernel⟩ rfl d_Exprs_after_21 rfl (Nat.le_of_ble_eq_true rfl) ⟨by decide, by decide⟩ ⟨by decide, by decide⟩ ⟨by decide, by decide⟩ (mv_noH hno _) (fun σ21 h21 => ?_)
    obtain ⟨rfl, s_g3⟩ := h21
    have r_g3 : mv_r g3 = mv_r h := s_g3.trans r_g1
    refine mv_iload_n (pc := 24) B d_Exprs_after_24 rfl 0 rfl ?_
    obtain ⟨v5, g4, eg4, hf⟩ := xhb_e hf
    refine mv_callSi (pc := 25) (n := 1) B (mK_ok sk sv) hNs (ch_Exprs_levelOf l hi _ _ eg4) rfl (ma_goodc kc_Exprs_levelOf) (B.2.2.2.1 _ k_1482) (B.2.2.2.1 _ k_1483) (B.2.2.2.1 _ k_7) ⟨by decide +kernel, by decide +kernel, by decide +kernel⟩ rfl d_Exprs_after_25 rfl (Nat.le_of_ble_eq_true rfl) ⟨by decide, by decide⟩ ⟨by decide, by decide⟩ ⟨by decide, by decide⟩ (mv_noH hno _) (fun w25 σ25 h25 => ?_)
    obtain ⟨rfl, rfl, s_g4⟩ := h25
    have r_g4 : mv_r g4 = mv_r h := s_g4.trans r_g3
    refine mv_istore_n (pc := 28) B d_Exprs_after_28 rfl (by decide) rfl ?_
    refine mv_iload_n (pc := 29) B d_Exprs_after_29 rfl 0 rfl ?_
    refine mv_if_le (pc := 30) (tgt := 53) B d_Exprs_after_30 rfl (fun h30 => ?_) (fun h30 => ?_)
    · skip
      have hf := xif_t h30 hf
      refine mv_aload_n (pc := 53) B d_Exprs_after_53 rfl 2 rfl ?_
      refine mv_iconst (pc := 54) (v := 1) B d_Exprs_after_54 (by decide) ?_
      obtain ⟨g6, eg6, hf⟩ := xhv_e hf
      refine mv_callVv (pc := 55) (n := 1) (ci := 6) (C := R_Exprs) B (mK_ok sk sv) hNs rfl rfl (ch_Exprs_endBinaries_b l hi _ (xrw r_g4 hb) _ eg6) rfl (ma_goodc kc_Exprs_endBinaries) (B.2.2.2.1 _ k_1485) (B.2.2.2.1 _ k_1487) (B.2.2.2.1 _ ks_56) (B.2.2.2.1 _ k_7) ⟨by decide +kernel, by decide +kernel, by decide +kernel⟩ rfl d_Exprs_after_55 rfl (Nat.le_of_ble_eq_true rfl) ⟨by decide, by decide⟩ ⟨by decide, by decide⟩ ⟨by decide, by decide⟩ (mv_noH hno _) (fun σ55 h55 => ?_)
      obtain ⟨rfl, s_g6⟩ := h55
      have r_g6 : mv_r g6 = mv_r h := s_g6.trans r_g4
      refine mv_iload_n (pc := 58) B d_Exprs_after_58 rfl 1 rfl ?_
      refine mv_bipush (pc := 59) (v := 63) B d_Exprs_after_59 (by decide) ?_
      refine mv_icmp_ne (pc := 61) (tgt := 70) B d_Exprs_after_61 rfl (fun h61 => ?_) (fun h61 => ?_)
      · skip
        have hf := xif_f h61 hf
        refine mv_aload_n (pc := 70) B d_Exprs_after_70 rfl 2 rfl ?_
        obtain ⟨g7, eg7, hf⟩ := xhv_e hf
        refine mv_callVv (pc := 71) (n := 0) (ci := 6) (C := R_Exprs) B (mK_ok sk sv) hNs rfl rfl (ch_Exprs_endChoices_b l hi _ (xrw r_g6 hb) eg7) rfl (ma_goodc kc_Exprs_endChoices) (B.2.2.2.1 _ k_1497) (B.2.2.2.1 _ k_1499) (B.2.2.2.1 _ ks_59) (B.2.2.2.1 _ k_7) ⟨by decide +kernel, by decide +kernel, by decide +kernel⟩ rfl d_Exprs_after_71 rfl (Nat.le_of_ble_eq_true rfl) ⟨by decide, by decide⟩ ⟨by decide, by decide⟩ ⟨by decide, by decide⟩ (mv_noH hno _) (fun σ71 h71 => ?_)
        obtain ⟨rfl, s_g7⟩ := h71
        have r_g7 : mv_r g7 = mv_r h := s_g7.trans r_g6
        refine mv_aload_n (pc := 74) B d_Exprs_after_74 rfl 2 rfl ?_
        refine mv_getI (pc := 75) (ci := 6) (C := R_Exprs) (T := F_Exprs) (N := 11) B 8 rfl rfl (by decide) i_Exprs (B.2.2.2.1 _ k_202) rfl d_Exprs_after_75 ?_
        refine mv_if_ne (pc := 78) (tgt := 83) B d_Exprs_after_78 rfl (fun h78 => ?_) (fun h78 => ?_)
        · skip
          have hf := xif_f h78 hf
          refine mv_aload_n (pc := 83) B d_Exprs_after_83 rfl 2 rfl ?_
          refine mv_iload_n (pc := 84) B d_Exprs_after_84 rfl 1 rfl ?_
          obtain ⟨v9, g8, eg8, hf⟩ := xhb_e hf
          refine mv_callVi (pc := 85) (n := 1) (ci := 6) (C := R_Exprs) B (mK_ok sk sv) hNs rfl rfl (ch_Exprs_goOn_b l hi _ (xrw r_g7 hb) _ eg8) rfl (ma_goodc kc_Exprs_goOn) (B.2.2.2.1 _ k_1502) (B.2.2.2.1 _ k_1504) (B.2.2.2.1 _ ks_60) (B.2.2.2.1 _ k_7) ⟨by decide +kernel, by decide +kernel, by decide +kernel⟩ rfl d_Exprs_after_85 rfl (Nat.le_of_ble_eq_true rfl) ⟨by decide, by decide⟩ ⟨by decide, by decide⟩ ⟨by decide, by decide⟩ (mv_noH hno _) (fun w85 σ85 h85 => ?_)
          obtain ⟨rfl, rfl, s_g8⟩ := h85
          have r_g8 : mv_r g8 = mv_r h := s_g8.trans r_g7
          exact mv_iret (pc := 88) B hr rfl d_Exprs_after_88 (Nat.le_refl _) (Nat.le_refl _) ⟨_, rfl, xrh_i hf r_g8⟩
        · skip
          have hf := xif_t h78 hf
          refine mv_iconst (pc := 81) (v := 2) B d_Exprs_after_81 (by decide) ?_
          exact mv_iret (pc := 82) B hr rfl d_Exprs_after_82 (Nat.le_refl _) (Nat.le_refl _) ⟨_, rfl, xrh_i hf r_g7⟩
      · skip
        have hf := xif_t h61 hf
        refine mv_aload_n (pc := 64) B d_Exprs_after_64 rfl 2 rfl ?_
        obtain ⟨g10, eg10, hf⟩ := xhv_e hf
        refine mv_callVv (pc := 65) (n := 0) (ci := 6) (C := R_Exprs) B (mK_ok sk sv) hNs rfl rfl (ch_Exprs_choose_b l hi _ (xrw r_g6 hb) eg10) rfl (ma_goodc kc_Exprs_choose) (B.2.2.2.1 _ k_1493) (B.2.2.2.1 _ k_1495) (B.2.2.2.1 _ ks_58) (B.2.2.2.1 _ k_7) ⟨by decide +kernel, by decide +kernel, by decide +kernel⟩ rfl d_Exprs_after_65 rfl (Nat.le_of_ble_eq_true rfl) ⟨by decide, by decide⟩ ⟨by decide, by decide⟩ ⟨by decide, by decide⟩ (mv_noH hno _) (fun σ65 h65 => ?_)
        obtain ⟨rfl, s_g10⟩ := h65
        have r_g10 : mv_r g10 = mv_r h := s_g10.trans r_g6
        refine mv_iconst (pc := 68) (v := 0) B d_Exprs_after_68 (by decide) ?_
        exact mv_iret (pc := 69) B hr rfl d_Exprs_after_69 (Nat.le_refl _) (Nat.le_refl _) ⟨_, rfl, xrh_i hf r_g10⟩
    · skip
      have hf := xif_f h30 hf
      refine mv_aload_n (pc := 33) B d_Exprs_after_33 rfl 2 rfl ?_
      refine mv_iload_n (pc := 34) B d_Exprs_after_34 rfl 0 rfl ?_
      obtain ⟨g11, eg11, hf⟩ := xhv_e hf
      refine mv_callVv (pc := 35) (n := 1) (ci := 6) (C := R_Exprs) B (mK_ok sk sv) hNs rfl rfl (ch_Exprs_endBinaries_b l hi _ (xrw r_g4 hb) _ eg11) rfl (ma_goodc kc_Exprs_endBinaries) (B.2.2.2.1 _ k_1485) (B.2.2.2.1 _ k_1487) (B.2.2.2.1 _ ks_56) (B.2.2.2.1 _ k_7) ⟨by decide +kernel, by decide +kernel, by decide +kernel⟩ rfl d_Exprs_after_35 rfl (Nat.le_of_ble_eq_true rfl) ⟨by decide, by decide⟩ ⟨by decide, by decide⟩ ⟨by decide, by decide⟩ (mv_noH hno _) (fun σ35 h35 => ?_)
      obtain ⟨rfl, s_g11⟩ := h35
      have r_g11 : mv_r g11 = mv_r h := s_g11.trans r_g4
      refine mv_aload_n (pc := 38) B d_Exprs_after_38 rfl 2 rfl ?_
      refine mv_iload_n (pc := 39) B d_Exprs_after_39 rfl 1 rfl ?_
      refine mv_aload_n (pc := 40) B d_Exprs_after_40 rfl 2 rfl ?_
      refine mv_getR (pc := 41) (ci := 6) (C := R_Exprs) (T := F_Exprs) (N := 11) B 0 rfl rfl (by decide) i_Exprs (B.2.2.2.1 _ k_193) rfl ((congrFun (congrFun r_g11 22) 0).trans (hb.1.1 22 0 _ rfl)) d_Exprs_after_41 ?_
      refine mv_iload_n (pc := 44) B d_Exprs_after_44 rfl 1 rfl ?_
      obtain ⟨v13, g12, eg12, hf⟩ := xhb_e hf
      refine mv_callVi (pc := 45) (n := 1) (ci := 2) (C := R_Tokens) B (mK_ok sk sv) hNs rfl rfl (ch_Tokens_take l hi _ (xrw r_g11 hb.t) _ eg12) rfl (ma_goodc kc_Tokens_take) (B.2.2.2.1 _ k_1424) (B.2.2.2.1 _ k_1267) (B.2.2.2.1 _ k_1268) (B.2.2.2.1 _ k_3) ⟨by decide +kernel, by decide +kernel, by decide +kernel⟩ rfl d_Exprs_after_45 rfl (Nat.le_of_ble_eq_true rfl) ⟨by decide, by decide⟩ ⟨by decide, by decide⟩ ⟨by decide, by decide⟩ (mv_noH hno _) (fun w45 σ45 h45 => ?_)
      obtain ⟨rfl, rfl, s_g12⟩ := h45
      have r_g12 : mv_r g12 = mv_r h := s_g12.trans r_g11
      obtain ⟨g14, eg14, hf⟩ := xhv_e hf
      refine mv_callVv (pc := 48) (n := 2) (ci := 6) (C := R_Exprs) B (mK_ok sk sv) hNs rfl rfl (ch_Exprs_mark l hi _ (xrw r_g12 hb.t) _ _ eg14) rfl (ma_goodc kc_Exprs_mark) (B.2.2.2.1 _ k_1416) (B.2.2.2.1 _ k_1418) (B.2.2.2.1 _ ks_48) (B.2.2.2.1 _ k_7) ⟨by decide +kernel, by decide +kernel, by decide +kernel⟩ rfl d_Exprs_after_48 rfl (Nat.le_of_ble_eq_true rfl) ⟨by decide, by decide⟩ ⟨by decide, by decide⟩ ⟨by decide, by decide⟩ (mv_noH hno _) (fun σ48 h48 => ?_)
      obtain ⟨rfl, s_g14⟩ := h48
      have r_g14 : mv_r g14 = mv_r h := s_g14.trans r_g12
      refine mv_iconst (pc := 51) (v := 0) B d_Exprs_after_51 (by decide) ?_
      exact mv_iret (pc := 52) B hr rfl d_Exprs_after_52 (Nat.le_refl _) (Nat.le_refl _) ⟨_, rfl, xrh_i hf r_g14⟩
  · skip
    have hf := xif_t h11 hf
    refine mv_aload_n (pc := 14) B d_Exprs_after_14 rfl 1 rfl ?_
    obtain ⟨g15, eg15, hf⟩ := xhv_e hf
    refine mv_callVv (pc := 15) (n := 0) (ci := 6) (C := R_Exprs) B (mK_ok sk sv) hNs rfl rfl (ch_Exprs_part_b l hi _ (xrw r_g1 hb) eg15) rfl (ma_goodc kc_Exprs_part) (B.2.2.2.1 _ k_1464) (B.2.2.2.1 _ k_1466) (B.2.2.2.1 _ ks_54) (B.2.2.2.1 _ k_7) ⟨by decide +kernel, by decide +kernel, by decide +kernel⟩ rfl d_Exprs_after_15 rfl (Nat.le_of_ble_eq_true rfl) ⟨by decide, by decide⟩ ⟨by decide, by decide⟩ ⟨by decide, by decide⟩ (mv_noH hno _) (fun σ15 h15 => ?_)
    obtain ⟨rfl, s_g15⟩ := h15
    have r_g15 : mv_r g15 = mv_r h := s_g15.trans r_g1
    refine mv_iconst (pc := 18) (v := 1) B d_Exprs_after_18 (by decide) ?_
    exact mv_iret (pc := 19) B hr rfl d_Exprs_after_19 (Nat.le_refl _) (Nat.le_refl _) ⟨_, rfl, xrh_i hf r_g15⟩
