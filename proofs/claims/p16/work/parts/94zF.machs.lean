/-! exact runs of the machine that runs the shipped program -/
def f_Tree_leafOf_s_59 (P : Nat) (x3 : Int32) (hz : mv_H) : Option (Int32 × mv_H) := some (x3, hz)
def f_Tree_leafOf_s_52 (P : Nat) (k5 : Int64 → Int32 → Int32 → mv_H → Option (Int32 × mv_H)) (x1 : Int64) (x4 : Int32) (y0 : Int32) (hz : mv_H) : Option (Int32 × mv_H) := k5 x1 y0 (x4 + 1) hz
def fF_Tree_leafOf_s_5 (P : Nat) (k5 : Int64 → Int32 → Int32 → mv_H → Option (Int32 × mv_H)) (x1 : Int64) (x3 : Int32) (x4 : Int32) (hz : mv_H) : Option (Int32 × mv_H) := if (64 : Int32) < x4 then (f_Tree_leafOf_s_59 P x3 hz) else (bif xvi x3 97 then if (mv_a hz (P + 13) (x3).toNatClampNeg) = (-1 : Int32) then (f_Tree_leafOf_s_59 P x3 hz) else (bif xvi x3 97 then if (lg_cmp ((((x1).toUInt64 >>> (((mv_a hz (P + 13) (x3).toNatClampNeg)).toInt64.toUInt64 &&& Int64.toUInt64 63)).toInt64) &&& (1 : Int64)) (0 : Int64)) = (0 : Int32) then (bif xvi x3 97 then f_Tree_leafOf_s_52 P k5 x1 x4 (mv_a hz (P + 14) (x3).toNatClampNeg) hz else none) else (bif xvi x3 97 then f_Tree_leafOf_s_52 P k5 x1 x4 (mv_a hz (P + 15) (x3).toNatClampNeg) hz else none) else none) else none)
def f_Tree_leafOf_s_5 (P : Nat) : Nat → Int64 → Int32 → Int32 → mv_H → Option (Int32 × mv_H)
  | 0 => fun _ _ _ _ => none
  | nn + 1 => fF_Tree_leafOf_s_5 P (f_Tree_leafOf_s_5 P nn)
def f_Tree_leafOf_s (P : Nat) (h : mv_H) (a0 : Int64) : Option (Int32 × mv_H) := f_Tree_leafOf_s_5 P 200000 a0 (0 : Int32) (0 : Int32) h
set_option maxHeartbeats 4000000 in
set_option maxRecDepth 100000 in
theorem ch_Tree_leafOf_s_c (l : Launch) {dA : FieldType → ClassId} {D : va_G} {al : Nat → Nat} {sk sv : Nat → Nat} (hi : mv_inj (mg dA D al me)) (h : mv_H) (hb : Rf 145 (mv_r h))  (a0 : Int64) {rv : Int32} {rg : mv_H} (hf : f_Tree_leafOf_s 145 h a0 = some (rv, rg)) : mv_C l y_Tree_leafOf (Cond.code y_Tree_leafOf b_Tree_leafOf 5 (Option.some Jvm.ClassFile.FieldType.int) :: ma) ({ frames := 0, cells := 0, slots := 0, locals := 0 }) (mg dA D al me) (mK sk sv) [.ref (al 156), .long a0] h (mv_Ri (fun v σ1 => rv = v ∧ rg = σ1 ∧ mv_r σ1 = mv_r h)) := by
  refine mv_C.ofV (cc := b_Tree_leafOf) (nL := 5) (ret := (Option.some Jvm.ClassFile.FieldType.int)) (by decide +kernel) rfl hi (Nat.le_of_ble_eq_true rfl) ?_
  intro p e s m below meth c B hNs hr hnm hno
  have jn59 : ∀ (x3 : Int32) (hz : mv_H), mv_r hz = mv_r h → f_Tree_leafOf_s_59 145 x3 hz = some (rv, rg) → mv_V p l e ({ frames := 0, cells := 0, slots := 0, locals := 0 }) s m ([.ref (al 156), .long a0] : List Value).toArray below meth c (mg dA D al me) 5 0 0 (mv_Q (mg dA D al me) below s 0 0 (mv_Ri (fun v σ1 => rv = v ∧ rg = σ1 ∧ mv_r σ1 = mv_r h))) hz 59 [(3, .int x3)] [] := by
    intro x3 hz r_hz hf
    unfold f_Tree_leafOf_s_59 at hf
    refine mv_iload_n (pc := 59) B d_Tree_leafOf_59 rfl 0 rfl ?_
    exact mv_iret (pc := 60) B hr rfl d_Tree_leafOf_60 (Nat.le_refl _) (Nat.le_refl _) ⟨_, rfl, xrh_i hf r_hz⟩
  have lp5 : ∀ (nn5 : Nat) (x1 : Int64) (x3 : Int32) (x4 : Int32) (hz : mv_H), mv_r hz = mv_r h → f_Tree_leafOf_s_5 145 nn5 x1 x3 x4 hz = some (rv, rg) → mv_V p l e ({ frames := 0, cells := 0, slots := 0, locals := 0 }) s m ([.ref (al 156), .long a0] : List Value).toArray below meth c (mg dA D al me) 5 0 0 (mv_Q (mg dA D al me) below s 0 0 (mv_Ri (fun v σ1 => rv = v ∧ rg = σ1 ∧ mv_r σ1 = mv_r h))) hz 5 [(0, .ref (al 156)), (1, .long x1), (3, .int x3), (4, .int x4)] [] := by
    intro nn5
    induction nn5 with
    | zero => intro x1 x3 x4 hz r_hz hf; cases hf
    | succ nn5 ih5 =>
      intro x1 x3 x4 hz r_hz hf
      have jn52 : ∀ (x1 : Int64) (x4 : Int32) (y0 : Int32) (hz : mv_H), mv_r hz = mv_r h → f_Tree_leafOf_s_52 145 (f_Tree_leafOf_s_5 145 nn5) x1 x4 y0 hz = some (rv, rg) → mv_V p l e ({ frames := 0, cells := 0, slots := 0, locals := 0 }) s m ([.ref (al 156), .long a0] : List Value).toArray below meth c (mg dA D al me) 5 0 0 (mv_Q (mg dA D al me) below s 0 0 (mv_Ri (fun v σ1 => rv = v ∧ rg = σ1 ∧ mv_r σ1 = mv_r h))) hz 52 [(0, .ref (al 156)), (1, .long x1), (4, .int x4)] [.int y0] := by
        intro x1 x4 y0 hz r_hz hf
        unfold f_Tree_leafOf_s_52 at hf
        refine mv_istore_n (pc := 52) B d_Tree_leafOf_52 rfl (by decide) rfl ?_
        refine mv_iinc (pc := 53) (j := 3) (v := 1) B d_Tree_leafOf_53 rfl (by decide) (by decide) rfl ?_
        refine mv_goto (pc := 56) (tgt := 5) B d_Tree_leafOf_56 rfl ?_
        refine mv_lpick [2, 3, 1, 0] rfl ?_
        exact ih5 _ _ _ _ r_hz hf
      have hf : fF_Tree_leafOf_s_5 145 (f_Tree_leafOf_s_5 145 nn5) x1 x3 x4 hz = some (rv, rg) := hf
      unfold fF_Tree_leafOf_s_5 at hf
      refine mv_iload (pc := 5) B d_Tree_leafOf_5 3 rfl ?_
      refine mv_bipush (pc := 7) (v := 64) B d_Tree_leafOf_7 (by decide) ?_
      refine mv_icmp_gt (pc := 9) (tgt := 59) B d_Tree_leafOf_9 rfl (fun h9 => ?_) (fun h9 => ?_)
      · skip
        have hf := xif_t h9 hf
        refine mv_lpick [2] rfl ?_
        exact jn59 _ _ r_hz hf
      · skip
        have hf := xif_f h9 hf
        refine mv_aload_n (pc := 12) B d_Tree_leafOf_12 rfl 0 rfl ?_
        refine mv_getR (pc := 13) (ci := 8) (C := R_Tree) (T := F_Tree) (N := 5) B 1 rfl rfl (by decide) i_Tree (B.2.2.2.1 _ k_293) rfl ((congrFun (congrFun r_hz 156) 1).trans (hb.2.1 156 1 158 rfl)) d_Tree_leafOf_13 ?_
        refine mv_iload_n (pc := 16) B d_Tree_leafOf_16 rfl 2 rfl ?_
        obtain ⟨q1, hf⟩ := xvi_e hf
        refine mv_iald (pc := 17) B rfl q1 d_Tree_leafOf_17 ?_
        refine mv_iconst (pc := 18) (v := -1) B d_Tree_leafOf_18 (by decide) ?_
        refine mv_icmp_eq (pc := 19) (tgt := 59) B d_Tree_leafOf_19 rfl (fun h19 => ?_) (fun h19 => ?_)
        · skip
          have hf := xif_t h19 hf
          refine mv_lpick [2] rfl ?_
          exact jn59 _ _ r_hz hf
        · skip
          have hf := xif_f h19 hf
          refine mv_lload_n (pc := 22) B d_Tree_leafOf_22 rfl 1 rfl ?_
          refine mv_aload_n (pc := 23) B d_Tree_leafOf_23 rfl 0 rfl ?_
          refine mv_getR (pc := 24) (ci := 8) (C := R_Tree) (T := F_Tree) (N := 5) B 1 rfl rfl (by decide) i_Tree (B.2.2.2.1 _ k_293) rfl ((congrFun (congrFun r_hz 156) 1).trans (hb.2.1 156 1 158 rfl)) d_Tree_leafOf_24 ?_
          refine mv_iload_n (pc := 27) B d_Tree_leafOf_27 rfl 2 rfl ?_
          obtain ⟨q2, hf⟩ := xvi_e hf
          refine mv_iald (pc := 28) B rfl q2 d_Tree_leafOf_28 ?_
          refine mv_lushr (pc := 29) B d_Tree_leafOf_29 ?_
          refine mv_lconst (pc := 30) (v := 1) B d_Tree_leafOf_30 (by decide) ?_
          refine mv_land (pc := 31) B d_Tree_leafOf_31 ?_
          refine mv_lconst (pc := 32) (v := 0) B d_Tree_leafOf_32 (by decide) ?_
          refine mv_lcmp (pc := 33) B d_Tree_leafOf_33 ?_
          refine mv_if_ne (pc := 34) (tgt := 46) B d_Tree_leafOf_34 rfl (fun h34 => ?_) (fun h34 => ?_)
          · skip
            have hf := xif_f h34 hf
            refine mv_aload_n (pc := 46) B d_Tree_leafOf_46 rfl 0 rfl ?_
            refine mv_getR (pc := 47) (ci := 8) (C := R_Tree) (T := F_Tree) (N := 5) B 3 rfl rfl (by decide) i_Tree (B.2.2.2.1 _ k_296) rfl ((congrFun (congrFun r_hz 156) 3).trans (hb.2.1 156 3 160 rfl)) d_Tree_leafOf_47 ?_
            refine mv_iload_n (pc := 50) B d_Tree_leafOf_50 rfl 2 rfl ?_
            obtain ⟨q3, hf⟩ := xvi_e hf
            refine mv_iald (pc := 51) B rfl q3 d_Tree_leafOf_51 ?_
            refine mv_lpick [0, 1, 3] rfl ?_
            exact jn52 _ _ _ _ r_hz hf
          · skip
            have hf := xif_t h34 hf
            refine mv_aload_n (pc := 37) B d_Tree_leafOf_37 rfl 0 rfl ?_
            refine mv_getR (pc := 38) (ci := 8) (C := R_Tree) (T := F_Tree) (N := 5) B 2 rfl rfl (by decide) i_Tree (B.2.2.2.1 _ k_294) rfl ((congrFun (congrFun r_hz 156) 2).trans (hb.2.1 156 2 159 rfl)) d_Tree_leafOf_38 ?_
            refine mv_iload_n (pc := 41) B d_Tree_leafOf_41 rfl 2 rfl ?_
            obtain ⟨q4, hf⟩ := xvi_e hf
            refine mv_iald (pc := 42) B rfl q4 d_Tree_leafOf_42 ?_
            refine mv_goto (pc := 43) (tgt := 52) B d_Tree_leafOf_43 rfl ?_
            refine mv_lpick [0, 1, 3] rfl ?_
            exact jn52 _ _ _ _ r_hz hf
  unfold f_Tree_leafOf_s at hf
  refine mv_iconst (pc := 0) (v := 0) B d_Tree_leafOf_0 (by decide) ?_
  refine mv_istore_n (pc := 1) B d_Tree_leafOf_1 rfl (by decide) rfl ?_
  refine mv_iconst (pc := 2) (v := 0) B d_Tree_leafOf_2 (by decide) ?_
  refine mv_istore (pc := 3) B d_Tree_leafOf_3 (by decide) rfl ?_
  refine mv_lpick [2, 3, 1, 0] rfl ?_
  exact lp5 _ _ _ _ _ rfl hf
def f_Machine_push_s (P : Nat) (h : mv_H) (a0 : Int64) : Option mv_H := bif xvi (mv_i h 64 4) 1024 then xk (mv_sb h 67 ((mv_i h 64 4)).toNatClampNeg a0) fun g2 => xk (mv_si g2 64 4 ((mv_i g2 64 4) + (1 : Int32))) fun g3 => some g3 else none
set_option maxHeartbeats 4000000 in
set_option maxRecDepth 100000 in
theorem ch_Machine_push_s_c (l : Launch) {dA : FieldType → ClassId} {D : va_G} {al : Nat → Nat} {sk sv : Nat → Nat} (hi : mv_inj (mg dA D al me)) (h : mv_H) (hb : Rf 145 (mv_r h))  (a0 : Int64) {rg : mv_H} (hf : f_Machine_push_s 145 h a0 = some rg) : mv_C l y_Machine_push (Cond.code y_Machine_push b_Machine_push 3 (Option.none : Option Jvm.ClassFile.FieldType) :: ma) ({ frames := 0, cells := 0, slots := 0, locals := 0 }) (mg dA D al me) (mK sk sv) [.ref (al 64), .long a0] h (mv_Rv (fun σ1 => rg = σ1 ∧ mv_r σ1 = mv_r h)) := by
  refine mv_C.ofV (cc := b_Machine_push) (nL := 3) (ret := (Option.none : Option Jvm.ClassFile.FieldType)) (by decide +kernel) rfl hi (Nat.le_of_ble_eq_true rfl) ?_
  intro p e s m below meth c B hNs hr hnm hno
  unfold f_Machine_push_s at hf
  refine mv_aload_n (pc := 0) B d_Machine_push_0 rfl 0 rfl ?_
  refine mv_getR (pc := 1) (ci := 9) (C := R_Machine) (T := F_Machine) (N := 13) B 3 rfl rfl (by decide) i_Machine (B.2.2.2.1 _ k_445) rfl (hb.1 64 3 _ rfl) d_Machine_push_1 ?_
  refine mv_aload_n (pc := 4) B d_Machine_push_4 rfl 0 rfl ?_
  refine mv_getI (pc := 5) (ci := 9) (C := R_Machine) (T := F_Machine) (N := 13) B 4 rfl rfl (by decide) i_Machine (B.2.2.2.1 _ k_446) rfl d_Machine_push_5 ?_
  refine mv_lload_n (pc := 8) B d_Machine_push_8 rfl 1 rfl ?_
  obtain ⟨q1, hf⟩ := xvi_e hf
  refine mv_last (pc := 9) B rfl q1 d_Machine_push_9 ?_
  refine mvh_hp (R9 := mv_r h) hf rfl (fun g2 hf r_g2 => ?_)
  refine mv_aload_n (pc := 10) B d_Machine_push_10 rfl 0 rfl ?_
  refine mv_dup (pc := 11) B d_Machine_push_11 rfl ?_
  refine mv_getI (pc := 12) (ci := 9) (C := R_Machine) (T := F_Machine) (N := 13) B 4 rfl rfl (by decide) i_Machine (B.2.2.2.1 _ k_446) rfl d_Machine_push_12 ?_
  refine mv_iconst (pc := 15) (v := 1) B d_Machine_push_15 (by decide) ?_
  refine mv_iadd (pc := 16) B d_Machine_push_16 ?_
  refine mv_putI (pc := 17) (ci := 9) (C := R_Machine) (T := F_Machine) (N := 13) B 4 rfl rfl (by decide) i_Machine t_Machine_ok n_Machine (B.2.2.2.1 _ k_446) rfl rfl rfl rfl d_Machine_push_17 ?_
  refine mvh_hp (R9 := mv_r h) hf r_g2 (fun g3 hf r_g3 => ?_)
  exact mv_vret (pc := 20) B hr d_Machine_push_20 (Nat.le_refl _) (Nat.le_refl _) ⟨rfl, xrh_v hf r_g3⟩
def f_Machine_pop_s (P : Nat) (h : mv_H) : Option (Int64 × mv_H) := xk (mv_si h 64 4 ((mv_i h 64 4) - (1 : Int32))) fun g1 => bif xvi (mv_i g1 64 4) 1024 then some ((mv_b g1 67 ((mv_i g1 64 4)).toNatClampNeg), g1) else none
set_option maxHeartbeats 4000000 in
set_option maxRecDepth 100000 in
theorem ch_Machine_pop_s_c (l : Launch) {dA : FieldType → ClassId} {D : va_G} {al : Nat → Nat} {sk sv : Nat → Nat} (hi : mv_inj (mg dA D al me)) (h : mv_H) (hb : Rf 145 (mv_r h))  {rv : Int64} {rg : mv_H} (hf : f_Machine_pop_s 145 h = some (rv, rg)) : mv_C l y_Machine_pop (Cond.code y_Machine_pop b_Machine_pop 1 (Option.some Jvm.ClassFile.FieldType.long) :: ma) ({ frames := 0, cells := 0, slots := 0, locals := 0 }) (mg dA D al me) (mK sk sv) [.ref (al 64)] h (mv_Rl (fun v σ1 => rv = v ∧ rg = σ1 ∧ mv_r σ1 = mv_r h)) := by
  refine mv_C.ofV (cc := b_Machine_pop) (nL := 1) (ret := (Option.some Jvm.ClassFile.FieldType.long)) (by decide +kernel) rfl hi (Nat.le_of_ble_eq_true rfl) ?_
  intro p e s m below meth c B hNs hr hnm hno
  unfold f_Machine_pop_s at hf
  refine mv_aload_n (pc := 0) B d_Machine_pop_0 rfl 0 rfl ?_
  refine mv_dup (pc := 1) B d_Machine_pop_1 rfl ?_
  refine mv_getI (pc := 2) (ci := 9) (C := R_Machine) (T := F_Machine) (N := 13) B 4 rfl rfl (by decide) i_Machine (B.2.2.2.1 _ k_446) rfl d_Machine_pop_2 ?_
  refine mv_iconst (pc := 5) (v := 1) B d_Machine_pop_5 (by decide) ?_
  refine mv_isub (pc := 6) B d_Machine_pop_6 ?_
  refine mv_putI (pc := 7) (ci := 9) (C := R_Machine) (T := F_Machine) (N := 13) B 4 rfl rfl (by decide) i_Machine t_Machine_ok n_Machine (B.2.2.2.1 _ k_446) rfl rfl rfl rfl d_Machine_pop_7 ?_
  refine mvh_hp (R9 := mv_r h) hf rfl (fun g1 hf r_g1 => ?_)
  refine mv_aload_n (pc := 10) B d_Machine_pop_10 rfl 0 rfl ?_
  refine mv_getR (pc := 11) (ci := 9) (C := R_Machine) (T := F_Machine) (N := 13) B 3 rfl rfl (by decide) i_Machine (B.2.2.2.1 _ k_445) rfl ((congrFun (congrFun r_g1 64) 3).trans (hb.1 64 3 _ rfl)) d_Machine_pop_11 ?_
  refine mv_aload_n (pc := 14) B d_Machine_pop_14 rfl 0 rfl ?_
  refine mv_getI (pc := 15) (ci := 9) (C := R_Machine) (T := F_Machine) (N := 13) B 4 rfl rfl (by decide) i_Machine (B.2.2.2.1 _ k_446) rfl d_Machine_pop_15 ?_
  obtain ⟨q2, hf⟩ := xvi_e hf
  refine mv_lald (pc := 18) B rfl q2 d_Machine_pop_18 ?_
  exact mv_lret (pc := 19) B hr d_Machine_pop_19 (Nat.le_refl _) (Nat.le_refl _) ⟨_, rfl, xrh_l hf r_g1⟩
def f_Machine_put_s_16 (P : Nat) (x1 : Int32) (x2 : Int32) (x3 : Int64) (hz : mv_H) : Option mv_H := bif xvi x1 64 then bif xvi x1 64 then xhb (f_Bits_mask hz (mv_a hz (P + 1) (x1).toNatClampNeg)) fun v4 g3 => bif xvi ((mv_a hz (P + 3) (x1).toNatClampNeg) + x2) 65600 then xk (mv_sb g3 65 (((mv_a hz (P + 3) (x1).toNatClampNeg) + x2)).toNatClampNeg (x3 &&& v4)) fun g6 => some g6 else none else none else none
def f_Machine_put_s (P : Nat) (h : mv_H) (a0 : Int32) (a1 : Int32) (a2 : Int64) : Option mv_H := if (0 : Int32) < a1 then (f_Machine_put_s_16 P a0 a1 a2 h) else (bif xvi a0 64 then if (mv_a h (P + 4) (a0).toNatClampNeg) = (0 : Int32) then (f_Machine_put_s_16 P a0 a1 a2 h) else (some h) else none)
set_option maxHeartbeats 4000000 in
set_option maxRecDepth 100000 in
theorem ch_Machine_put_s_c (l : Launch) {dA : FieldType → ClassId} {D : va_G} {al : Nat → Nat} {sk sv : Nat → Nat} (hi : mv_inj (mg dA D al me)) (h : mv_H) (hb : Rf 145 (mv_r h))  (a0 : Int32) (a1 : Int32) (a2 : Int64) {rg : mv_H} (hf : f_Machine_put_s 145 h a0 a1 a2 = some rg) : mv_C l y_Machine_put (Cond.code y_Machine_put b_Machine_put 5 (Option.none : Option Jvm.ClassFile.FieldType) :: ma) ({ frames := 1, cells := 0, slots := 0, locals := 20 }) (mg dA D al me) (mK sk sv) [.ref (al 64), .int a0, .int a1, .long a2] h (mv_Rv (fun σ1 => rg = σ1 ∧ mv_r σ1 = mv_r h)) := by
  refine mv_C.ofV (cc := b_Machine_put) (nL := 5) (ret := (Option.none : Option Jvm.ClassFile.FieldType)) (by decide +kernel) rfl hi (Nat.le_of_ble_eq_true rfl) ?_
  intro p e s m below meth c B hNs hr hnm hno
  have jn16 : ∀ (x1 : Int32) (x2 : Int32) (x3 : Int64) (hz : mv_H), mv_r hz = mv_r h → f_Machine_put_s_16 145 x1 x2 x3 hz = some rg → mv_V p l e ({ frames := 1, cells := 0, slots := 0, locals := 20 }) s m ([.ref (al 64), .int a0, .int a1, .long a2] : List Value).toArray below meth c (mg dA D al me) 5 0 0 (mv_Q (mg dA D al me) below s 0 0 (mv_Rv (fun σ1 => rg = σ1 ∧ mv_r σ1 = mv_r h))) hz 16 [(0, .ref (al 64)), (1, .int x1), (2, .int x2), (3, .long x3)] [] := by
    intro x1 x2 x3 hz r_hz hf
    unfold f_Machine_put_s_16 at hf
    refine mv_aload_n (pc := 16) B d_Machine_put_16 rfl 0 rfl ?_
    refine mv_getR (pc := 17) (ci := 9) (C := R_Machine) (T := F_Machine) (N := 13) B 1 rfl rfl (by decide) i_Machine (B.2.2.2.1 _ k_442) rfl ((congrFun (congrFun r_hz 64) 1).trans (hb.1 64 1 _ rfl)) d_Machine_put_17 ?_
    refine mv_aload_n (pc := 20) B d_Machine_put_20 rfl 0 rfl ?_
    refine mv_getR (pc := 21) (ci := 9) (C := R_Machine) (T := F_Machine) (N := 13) B 0 rfl rfl (by decide) i_Machine (B.2.2.2.1 _ k_440) rfl ((congrFun (congrFun r_hz 64) 0).trans hb.2.2) d_Machine_put_21 ?_
    refine mv_getR (pc := 24) (ci := 7) (C := R_Program) (T := F_Program) (N := 19) B 4 rfl rfl (by decide) i_Program (B.2.2.2.1 _ k_327) rfl ((congrFun (congrFun r_hz 145) 4).trans (hb.2.1 145 4 148 rfl)) d_Machine_put_24 ?_
    refine mv_iload_n (pc := 27) B d_Machine_put_27 rfl 1 rfl ?_
    obtain ⟨q1, hf⟩ := xvi_e hf
    refine mv_iald (pc := 28) B rfl q1 d_Machine_put_28 ?_
    refine mv_iload_n (pc := 29) B d_Machine_put_29 rfl 2 rfl ?_
    refine mv_iadd (pc := 30) B d_Machine_put_30 ?_
    refine mv_lload_n (pc := 31) B d_Machine_put_31 rfl 3 rfl ?_
    refine mv_aload_n (pc := 32) B d_Machine_put_32 rfl 0 rfl ?_
    refine mv_getR (pc := 33) (ci := 9) (C := R_Machine) (T := F_Machine) (N := 13) B 0 rfl rfl (by decide) i_Machine (B.2.2.2.1 _ k_440) rfl ((congrFun (congrFun r_hz 64) 0).trans hb.2.2) d_Machine_put_33 ?_
    refine mv_getR (pc := 36) (ci := 7) (C := R_Program) (T := F_Program) (N := 19) B 2 rfl rfl (by decide) i_Program (B.2.2.2.1 _ k_319) rfl ((congrFun (congrFun r_hz 145) 2).trans (hb.2.1 145 2 146 rfl)) d_Machine_put_36 ?_
    refine mv_iload_n (pc := 39) B d_Machine_put_39 rfl 1 rfl ?_
    obtain ⟨q2, hf⟩ := xvi_e hf
    refine mv_iald (pc := 40) B rfl q2 d_Machine_put_40 ?_
    obtain ⟨v4, g3, eg3, hf⟩ := xhb_e hf
    refine mv_callSl (pc := 41) (n := 1) B (mK_ok sk sv) hNs (ch_Bits_mask l hi _ _ eg3) rfl (ma_goodc kc_Bits_mask) (B.2.2.2.1 _ k_1604) (B.2.2.2.1 _ k_1437) (B.2.2.2.1 _ k_33) ⟨by decide +kernel, by decide +kernel, by decide +kernel⟩ rfl d_Machine_put_41 rfl (Nat.le_of_ble_eq_true rfl) ⟨by decide, by decide⟩ ⟨by decide, by decide⟩ ⟨by decide, by decide⟩ (mv_noH hno _) (fun w41 σ41 h41 => ?_)
    obtain ⟨rfl, rfl, s_g3⟩ := h41
    have r_g3 : mv_r g3 = mv_r h := s_g3.trans r_hz
    refine mv_land (pc := 44) B d_Machine_put_44 ?_
    obtain ⟨q5, hf⟩ := xvi_e hf
    refine mv_last (pc := 45) B rfl q5 d_Machine_put_45 ?_
    refine mvh_hp (R9 := mv_r h) hf r_g3 (fun g6 hf r_g6 => ?_)
    exact mv_vret (pc := 46) B hr d_Machine_put_46 (Nat.le_refl _) (Nat.le_refl _) ⟨rfl, xrh_v hf r_g6⟩
  unfold f_Machine_put_s at hf
  refine mv_iload_n (pc := 0) B d_Machine_put_0 rfl 2 rfl ?_
  refine mv_if_gt (pc := 1) (tgt := 16) B d_Machine_put_1 rfl (fun h1 => ?_) (fun h1 => ?_)
  · skip
    have hf := xif_t h1 hf
    refine mv_lpick [0, 1, 2, 3] rfl ?_
    exact jn16 _ _ _ _ rfl hf
  · skip
    have hf := xif_f h1 hf
    refine mv_aload_n (pc := 4) B d_Machine_put_4 rfl 0 rfl ?_
    refine mv_getR (pc := 5) (ci := 9) (C := R_Machine) (T := F_Machine) (N := 13) B 0 rfl rfl (by decide) i_Machine (B.2.2.2.1 _ k_440) rfl hb.2.2 d_Machine_put_5 ?_
    refine mv_getR (pc := 8) (ci := 7) (C := R_Program) (T := F_Program) (N := 19) B 5 rfl rfl (by decide) i_Program (B.2.2.2.1 _ k_331) rfl (hb.2.1 145 5 149 rfl) d_Machine_put_8 ?_
    refine mv_iload_n (pc := 11) B d_Machine_put_11 rfl 1 rfl ?_
    obtain ⟨q7, hf⟩ := xvi_e hf
    refine mv_zald (pc := 12) B rfl q7 d_Machine_put_12 ?_
    refine mv_if_ne (pc := 13) (tgt := 46) B d_Machine_put_13 rfl (fun h13 => ?_) (fun h13 => ?_)
    · skip
      have hf := xif_f h13 hf
      exact mv_vret (pc := 46) B hr d_Machine_put_46 (Nat.le_refl _) (Nat.le_refl _) ⟨rfl, xrh_v hf rfl⟩
    · skip
      have hf := xif_t h13 hf
      refine mv_lpick [0, 1, 2, 3] rfl ?_
      exact jn16 _ _ _ _ rfl hf
def f_Machine_assign_s (P : Nat) (h : mv_H) (a0 : Int32) (a1 : Int32) (a2 : Int64) : Option mv_H := bif xvi a0 64 then bif xvi (mv_i h 64 7) 8193 then xk (mv_sa h 68 ((mv_i h 64 7)).toNatClampNeg ((mv_a h (P + 3) (a0).toNatClampNeg) + a1)) fun g3 => bif xvi ((mv_a h (P + 3) (a0).toNatClampNeg) + a1) 65600 then bif xvi (mv_i g3 64 7) 8193 then xk (mv_sb g3 69 ((mv_i g3 64 7)).toNatClampNeg (mv_b g3 65 (((mv_a h (P + 3) (a0).toNatClampNeg) + a1)).toNatClampNeg)) fun g6 => xk (mv_si g6 64 7 ((mv_i g6 64 7) + (1 : Int32))) fun g7 => xhv (f_Machine_put_s P g7 a0 a1 a2) fun g8 => some g8 else none else none else none else none
set_option maxHeartbeats 4000000 in
set_option maxRecDepth 100000 in
theorem ch_Machine_assign_s_c (l : Launch) {dA : FieldType → ClassId} {D : va_G} {al : Nat → Nat} {sk sv : Nat → Nat} (hi : mv_inj (mg dA D al me)) (h : mv_H) (hb : Rf 145 (mv_r h))  (a0 : Int32) (a1 : Int32) (a2 : Int64) {rg : mv_H} (hf : f_Machine_assign_s 145 h a0 a1 a2 = some rg) : mv_C l y_Machine_assign (Cond.code y_Machine_assign b_Machine_assign 6 (Option.none : Option Jvm.ClassFile.FieldType) :: ma) ({ frames := 2, cells := 0, slots := 0, locals := 44 }) (mg dA D al me) (mK sk sv) [.ref (al 64), .int a0, .int a1, .long a2] h (mv_Rv (fun σ1 => rg = σ1 ∧ mv_r σ1 = mv_r h)) := by
  refine mv_C.ofV (cc := b_Machine_assign) (nL := 6) (ret := (Option.none : Option Jvm.ClassFile.FieldType)) (by decide +kernel) rfl hi (Nat.le_of_ble_eq_true rfl) ?_
  intro p e s m below meth c B hNs hr hnm hno
  unfold f_Machine_assign_s at hf
  refine mv_aload_n (pc := 0) B d_Machine_assign_0 rfl 0 rfl ?_
  refine mv_getR (pc := 1) (ci := 9) (C := R_Machine) (T := F_Machine) (N := 13) B 0 rfl rfl (by decide) i_Machine (B.2.2.2.1 _ k_440) rfl hb.2.2 d_Machine_assign_1 ?_
  refine mv_getR (pc := 4) (ci := 7) (C := R_Program) (T := F_Program) (N := 19) B 4 rfl rfl (by decide) i_Program (B.2.2.2.1 _ k_327) rfl (hb.2.1 145 4 148 rfl) d_Machine_assign_4 ?_
  refine mv_iload_n (pc := 7) B d_Machine_assign_7 rfl 1 rfl ?_
  obtain ⟨q1, hf⟩ := xvi_e hf
  refine mv_iald (pc := 8) B rfl q1 d_Machine_assign_8 ?_
  refine mv_iload_n (pc := 9) B d_Machine_assign_9 rfl 2 rfl ?_
  refine mv_iadd (pc := 10) B d_Machine_assign_10 ?_
  refine mv_istore (pc := 11) B d_Machine_assign_11 (by decide) rfl ?_
  refine mv_aload_n (pc := 13) B d_Machine_assign_13 rfl 1 rfl ?_
  refine mv_getR (pc := 14) (ci := 9) (C := R_Machine) (T := F_Machine) (N := 13) B 5 rfl rfl (by decide) i_Machine (B.2.2.2.1 _ k_447) rfl (hb.1 64 5 _ rfl) d_Machine_assign_14 ?_
  refine mv_aload_n (pc := 17) B d_Machine_assign_17 rfl 1 rfl ?_
  refine mv_getI (pc := 18) (ci := 9) (C := R_Machine) (T := F_Machine) (N := 13) B 7 rfl rfl (by decide) i_Machine (B.2.2.2.1 _ k_449) rfl d_Machine_assign_18 ?_
  refine mv_iload (pc := 21) B d_Machine_assign_21 0 rfl ?_
  obtain ⟨q2, hf⟩ := xvi_e hf
  refine mv_iast (pc := 23) B rfl q2 d_Machine_assign_23 ?_
  refine mvh_hp (R9 := mv_r h) hf rfl (fun g3 hf r_g3 => ?_)
  refine mv_aload_n (pc := 24) B d_Machine_assign_24 rfl 1 rfl ?_
  refine mv_getR (pc := 25) (ci := 9) (C := R_Machine) (T := F_Machine) (N := 13) B 6 rfl rfl (by decide) i_Machine (B.2.2.2.1 _ k_448) rfl ((congrFun (congrFun r_g3 64) 6).trans (hb.1 64 6 _ rfl)) d_Machine_assign_25 ?_
  refine mv_aload_n (pc := 28) B d_Machine_assign_28 rfl 1 rfl ?_
  refine mv_getI (pc := 29) (ci := 9) (C := R_Machine) (T := F_Machine) (N := 13) B 7 rfl rfl (by decide) i_Machine (B.2.2.2.1 _ k_449) rfl d_Machine_assign_29 ?_
  refine mv_aload_n (pc := 32) B d_Machine_assign_32 rfl 1 rfl ?_
  refine mv_getR (pc := 33) (ci := 9) (C := R_Machine) (T := F_Machine) (N := 13) B 1 rfl rfl (by decide) i_Machine (B.2.2.2.1 _ k_442) rfl ((congrFun (congrFun r_g3 64) 1).trans (hb.1 64 1 _ rfl)) d_Machine_assign_33 ?_
  refine mv_iload (pc := 36) B d_Machine_assign_36 0 rfl ?_
  obtain ⟨q4, hf⟩ := xvi_e hf
  refine mv_lald (pc := 38) B rfl q4 d_Machine_assign_38 ?_
  obtain ⟨q5, hf⟩ := xvi_e hf
  refine mv_last (pc := 39) B rfl q5 d_Machine_assign_39 ?_
  refine mvh_hp (R9 := mv_r h) hf r_g3 (fun g6 hf r_g6 => ?_)
  refine mv_aload_n (pc := 40) B d_Machine_assign_40 rfl 1 rfl ?_
  refine mv_dup (pc := 41) B d_Machine_assign_41 rfl ?_
  refine mv_getI (pc := 42) (ci := 9) (C := R_Machine) (T := F_Machine) (N := 13) B 7 rfl rfl (by decide) i_Machine (B.2.2.2.1 _ k_449) rfl d_Machine_assign_42 ?_
  refine mv_iconst (pc := 45) (v := 1) B d_Machine_assign_45 (by decide) ?_
  refine mv_iadd (pc := 46) B d_Machine_assign_46 ?_
  refine mv_putI (pc := 47) (ci := 9) (C := R_Machine) (T := F_Machine) (N := 13) B 7 rfl rfl (by decide) i_Machine t_Machine_ok n_Machine (B.2.2.2.1 _ k_449) rfl rfl rfl rfl d_Machine_assign_47 ?_
  refine mvh_hp (R9 := mv_r h) hf r_g6 (fun g7 hf r_g7 => ?_)
  refine mv_aload_n (pc := 50) B d_Machine_assign_50 rfl 1 rfl ?_
  refine mv_iload_n (pc := 51) B d_Machine_assign_51 rfl 2 rfl ?_
  refine mv_iload_n (pc := 52) B d_Machine_assign_52 rfl 3 rfl ?_
  refine mv_lload_n (pc := 53) B d_Machine_assign_53 rfl 4 rfl ?_
  obtain ⟨g8, eg8, hf⟩ := xhv_e hf
  refine mv_callVv (pc := 54) (n := 3) (ci := 9) (C := R_Machine) B (mK_ok sk sv) hNs rfl rfl (ch_Machine_put_s_c l hi _ (xrw r_g7 hb) _ _ _ eg8) rfl (ma_goodc kc_Machine_put) (B.2.2.2.1 _ k_1600) (B.2.2.2.1 _ k_1601) (B.2.2.2.1 _ k_1602) (B.2.2.2.1 _ k_11) ⟨by decide +kernel, by decide +kernel, by decide +kernel⟩ rfl d_Machine_assign_54 rfl (Nat.le_of_ble_eq_true rfl) ⟨by decide, by decide⟩ ⟨by decide, by decide⟩ ⟨by decide, by decide⟩ (mv_noH hno _) (fun σ54 h54 => ?_)
  obtain ⟨rfl, s_g8⟩ := h54
  have r_g8 : mv_r g8 = mv_r h := s_g8.trans r_g7
  exact mv_vret (pc := 57) B hr d_Machine_assign_57 (Nat.le_refl _) (Nat.le_refl _) ⟨rfl, xrh_v hf r_g8⟩
def f_Machine_ofCell_s_88 (P : Nat) (hz : mv_H) : Option (Int32 × mv_H) := bif xzb (1 : Int32) then some ((1 : Int32), hz) else none
def f_Machine_ofCell_s_45 (P : Nat) (hz : mv_H) : Option (Int32 × mv_H) := bif xzb (0 : Int32) then some ((0 : Int32), hz) else none
def f_Machine_ofCell_s_15 (P : Nat) (x1 : Int32) (x2 : Int32) (y0 : Int64) (hz : mv_H) : Option (Int32 × mv_H) := xhb (f_Machine_pop_s P hz) fun v4 g3 => if (lg_cmp v4 (0 : Int64)) < (0 : Int32) then (f_Machine_ofCell_s_45 P  g3) else (bif xvi x2 64 then if (lg_cmp v4 (((mv_a g3 (P + 2) (x2).toNatClampNeg)).toInt64)) < (0 : Int32) then (if x1 = (315 : Int32) then (xhv (f_Machine_assign_s P g3 x2 ((v4).toInt32) y0) fun g9 => f_Machine_ofCell_s_88 P  g9) else (bif xvi x2 64 then bif xvi ((mv_a g3 (P + 3) (x2).toNatClampNeg) + ((v4).toInt32)) 65600 then xhv (f_Machine_push_s P g3 (mv_b g3 65 (((mv_a g3 (P + 3) (x2).toNatClampNeg) + ((v4).toInt32))).toNatClampNeg)) fun g8 => f_Machine_ofCell_s_88 P  g8 else none else none)) else (f_Machine_ofCell_s_45 P  g3) else none)
def f_Machine_ofCell_s (P : Nat) (h : mv_H) (a0 : Int32) (a1 : Int32) : Option (Int32 × mv_H) := if a0 = (315 : Int32) then (xhb (f_Machine_pop_s P h) fun v11 g10 => f_Machine_ofCell_s_15 P a0 a1 v11 g10) else (f_Machine_ofCell_s_15 P a0 a1 (0 : Int64) h)
set_option maxHeartbeats 4000000 in
set_option maxRecDepth 100000 in
theorem ch_Machine_ofCell_s_c (l : Launch) {dA : FieldType → ClassId} {D : va_G} {al : Nat → Nat} {sk sv : Nat → Nat} (hi : mv_inj (mg dA D al me)) (h : mv_H) (hb : Rf 145 (mv_r h))  (a0 : Int32) (a1 : Int32) {rv : Int32} {rg : mv_H} (hf : f_Machine_ofCell_s 145 h a0 a1 = some (rv, rg)) : mv_C l y_Machine_ofCell (Cond.code y_Machine_ofCell b_Machine_ofCell 7 (Option.some Jvm.ClassFile.FieldType.boolean) :: ma) ({ frames := 3, cells := 0, slots := 0, locals := 69 }) (mg dA D al me) (mK sk sv) [.ref (al 64), .int a0, .int a1] h (mv_Ri (fun v σ1 => rv = v ∧ rg = σ1 ∧ mv_r σ1 = mv_r h)) := by
  refine mv_C.ofV (cc := b_Machine_ofCell) (nL := 7) (ret := (Option.some Jvm.ClassFile.FieldType.boolean)) (by decide +kernel) rfl hi (Nat.le_of_ble_eq_true rfl) ?_
  intro p e s m below meth c B hNs hr hnm hno
  have jn88 : ∀ (hz : mv_H), mv_r hz = mv_r h → f_Machine_ofCell_s_88 145  hz = some (rv, rg) → mv_V p l e ({ frames := 3, cells := 0, slots := 0, locals := 69 }) s m ([.ref (al 64), .int a0, .int a1] : List Value).toArray below meth c (mg dA D al me) 7 0 0 (mv_Q (mg dA D al me) below s 0 0 (mv_Ri (fun v σ1 => rv = v ∧ rg = σ1 ∧ mv_r σ1 = mv_r h))) hz 88 [] [] := by
    intro  hz r_hz hf
    unfold f_Machine_ofCell_s_88 at hf
    refine mv_iconst (pc := 88) (v := 1) B d_Machine_ofCell_88 (by decide) ?_
    obtain ⟨q1, hf⟩ := xzb_e hf
    exact mv_iret (pc := 89) B hr (xzb_n q1) d_Machine_ofCell_89 (Nat.le_refl _) (Nat.le_refl _) ⟨_, rfl, xrh_i hf r_hz⟩
  have jn45 : ∀ (hz : mv_H), mv_r hz = mv_r h → f_Machine_ofCell_s_45 145  hz = some (rv, rg) → mv_V p l e ({ frames := 3, cells := 0, slots := 0, locals := 69 }) s m ([.ref (al 64), .int a0, .int a1] : List Value).toArray below meth c (mg dA D al me) 7 0 0 (mv_Q (mg dA D al me) below s 0 0 (mv_Ri (fun v σ1 => rv = v ∧ rg = σ1 ∧ mv_r σ1 = mv_r h))) hz 45 [] [] := by
    intro  hz r_hz hf
    unfold f_Machine_ofCell_s_45 at hf
    refine mv_iconst (pc := 45) (v := 0) B d_Machine_ofCell_45 (by decide) ?_
    obtain ⟨q2, hf⟩ := xzb_e hf
    exact mv_iret (pc := 46) B hr (xzb_n q2) d_Machine_ofCell_46 (Nat.le_refl _) (Nat.le_refl _) ⟨_, rfl, xrh_i hf r_hz⟩
  have jn15 : ∀ (x1 : Int32) (x2 : Int32) (y0 : Int64) (hz : mv_H), mv_r hz = mv_r h → f_Machine_ofCell_s_15 145 x1 x2 y0 hz = some (rv, rg) → mv_V p l e ({ frames := 3, cells := 0, slots := 0, locals := 69 }) s m ([.ref (al 64), .int a0, .int a1] : List Value).toArray below meth c (mg dA D al me) 7 0 0 (mv_Q (mg dA D al me) below s 0 0 (mv_Ri (fun v σ1 => rv = v ∧ rg = σ1 ∧ mv_r σ1 = mv_r h))) hz 15 [(0, .ref (al 64)), (1, .int x1), (2, .int x2)] [.long y0] := by
    intro x1 x2 y0 hz r_hz hf
    unfold f_Machine_ofCell_s_15 at hf
    refine mv_lstore_n (pc := 15) B d_Machine_ofCell_15 rfl (by decide) rfl ?_
    refine mv_aload_n (pc := 16) B d_Machine_ofCell_16 rfl 1 rfl ?_
    obtain ⟨v4, g3, eg3, hf⟩ := xhb_e hf
    refine mv_callVl (pc := 17) (n := 0) (ci := 9) (C := R_Machine) B (mK_ok sk sv) hNs rfl rfl (ch_Machine_pop_s_c l hi _ (xrw r_hz hb) eg3) rfl (ma_goodc kc_Machine_pop) (B.2.2.2.1 _ k_1592) (B.2.2.2.1 _ k_1594) (B.2.2.2.1 _ ks_72) (B.2.2.2.1 _ k_11) ⟨by decide +kernel, by decide +kernel, by decide +kernel⟩ rfl d_Machine_ofCell_17 rfl (Nat.le_of_ble_eq_true rfl) ⟨by decide, by decide⟩ ⟨by decide, by decide⟩ ⟨by decide, by decide⟩ (mv_noH hno _) (fun w17 σ17 h17 => ?_)
    obtain ⟨rfl, rfl, s_g3⟩ := h17
    have r_g3 : mv_r g3 = mv_r h := s_g3.trans r_hz
    refine mv_lstore (pc := 20) B d_Machine_ofCell_20 (by decide) rfl ?_
    refine mv_lload (pc := 22) B d_Machine_ofCell_22 0 rfl ?_
    refine mv_lconst (pc := 24) (v := 0) B d_Machine_ofCell_24 (by decide) ?_
    refine mv_lcmp (pc := 25) B d_Machine_ofCell_25 ?_
    refine mv_if_lt (pc := 26) (tgt := 45) B d_Machine_ofCell_26 rfl (fun h26 => ?_) (fun h26 => ?_)
    · skip
      have hf := xif_t h26 hf
      refine mv_lpick [] rfl ?_
      exact jn45  _ r_g3 hf
    · skip
      have hf := xif_f h26 hf
      refine mv_lload (pc := 29) B d_Machine_ofCell_29 0 rfl ?_
      refine mv_aload_n (pc := 31) B d_Machine_ofCell_31 rfl 2 rfl ?_
      refine mv_getR (pc := 32) (ci := 9) (C := R_Machine) (T := F_Machine) (N := 13) B 0 rfl rfl (by decide) i_Machine (B.2.2.2.1 _ k_440) rfl ((congrFun (congrFun r_g3 64) 0).trans hb.2.2) d_Machine_ofCell_32 ?_
      refine mv_getR (pc := 35) (ci := 7) (C := R_Program) (T := F_Program) (N := 19) B 3 rfl rfl (by decide) i_Program (B.2.2.2.1 _ k_324) rfl ((congrFun (congrFun r_g3 145) 3).trans (hb.2.1 145 3 147 rfl)) d_Machine_ofCell_35 ?_
      refine mv_iload_n (pc := 38) B d_Machine_ofCell_38 rfl 4 rfl ?_
      obtain ⟨q5, hf⟩ := xvi_e hf
      refine mv_iald (pc := 39) B rfl q5 d_Machine_ofCell_39 ?_
      refine mv_i2l (pc := 40) B d_Machine_ofCell_40 ?_
      refine mv_lcmp (pc := 41) B d_Machine_ofCell_41 ?_
      refine mv_if_lt (pc := 42) (tgt := 47) B d_Machine_ofCell_42 rfl (fun h42 => ?_) (fun h42 => ?_)
      · skip
        have hf := xif_t h42 hf
        refine mv_iload_n (pc := 47) B d_Machine_ofCell_47 rfl 3 rfl ?_
        refine mv_sipush (pc := 48) (v := 315) B d_Machine_ofCell_48 (by decide) ?_
        refine mv_icmp_ne (pc := 51) (tgt := 66) B d_Machine_ofCell_51 rfl (fun h51 => ?_) (fun h51 => ?_)
        · skip
          have hf := xif_f h51 hf
          refine mv_aload_n (pc := 66) B d_Machine_ofCell_66 rfl 2 rfl ?_
          refine mv_aload_n (pc := 67) B d_Machine_ofCell_67 rfl 2 rfl ?_
          refine mv_getR (pc := 68) (ci := 9) (C := R_Machine) (T := F_Machine) (N := 13) B 1 rfl rfl (by decide) i_Machine (B.2.2.2.1 _ k_442) rfl ((congrFun (congrFun r_g3 64) 1).trans (hb.1 64 1 _ rfl)) d_Machine_ofCell_68 ?_
          refine mv_aload_n (pc := 71) B d_Machine_ofCell_71 rfl 2 rfl ?_
          refine mv_getR (pc := 72) (ci := 9) (C := R_Machine) (T := F_Machine) (N := 13) B 0 rfl rfl (by decide) i_Machine (B.2.2.2.1 _ k_440) rfl ((congrFun (congrFun r_g3 64) 0).trans hb.2.2) d_Machine_ofCell_72 ?_
          refine mv_getR (pc := 75) (ci := 7) (C := R_Program) (T := F_Program) (N := 19) B 4 rfl rfl (by decide) i_Program (B.2.2.2.1 _ k_327) rfl ((congrFun (congrFun r_g3 145) 4).trans (hb.2.1 145 4 148 rfl)) d_Machine_ofCell_75 ?_
          refine mv_iload_n (pc := 78) B d_Machine_ofCell_78 rfl 4 rfl ?_
          obtain ⟨q6, hf⟩ := xvi_e hf
          refine mv_iald (pc := 79) B rfl q6 d_Machine_ofCell_79 ?_
          refine mv_lload (pc := 80) B d_Machine_ofCell_80 0 rfl ?_
          refine mv_l2i (pc := 82) B d_Machine_ofCell_82 ?_
          refine mv_iadd (pc := 83) B d_Machine_ofCell_83 ?_
          obtain ⟨q7, hf⟩ := xvi_e hf
          refine mv_lald (pc := 84) B rfl q7 d_Machine_ofCell_84 ?_
          obtain ⟨g8, eg8, hf⟩ := xhv_e hf
          refine mv_callVv (pc := 85) (n := 1) (ci := 9) (C := R_Machine) B (mK_ok sk sv) hNs rfl rfl (ch_Machine_push_s_c l hi _ (xrw r_g3 hb) _ eg8) rfl (ma_goodc kc_Machine_push) (B.2.2.2.1 _ k_1584) (B.2.2.2.1 _ k_1586) (B.2.2.2.1 _ ks_70) (B.2.2.2.1 _ k_11) ⟨by decide +kernel, by decide +kernel, by decide +kernel⟩ rfl d_Machine_ofCell_85 rfl (Nat.le_of_ble_eq_true rfl) ⟨by decide, by decide⟩ ⟨by decide, by decide⟩ ⟨by decide, by decide⟩ (mv_noH hno _) (fun σ85 h85 => ?_)
          obtain ⟨rfl, s_g8⟩ := h85
          have r_g8 : mv_r g8 = mv_r h := s_g8.trans r_g3
          refine mv_lpick [] rfl ?_
          exact jn88  _ r_g8 hf
        · skip
          have hf := xif_t h51 hf
          refine mv_aload_n (pc := 54) B d_Machine_ofCell_54 rfl 2 rfl ?_
          refine mv_iload_n (pc := 55) B d_Machine_ofCell_55 rfl 4 rfl ?_
          refine mv_lload (pc := 56) B d_Machine_ofCell_56 0 rfl ?_
          refine mv_l2i (pc := 58) B d_Machine_ofCell_58 ?_
          refine mv_lload_n (pc := 59) B d_Machine_ofCell_59 rfl 1 rfl ?_
          obtain ⟨g9, eg9, hf⟩ := xhv_e hf
          refine mv_callVv (pc := 60) (n := 3) (ci := 9) (C := R_Machine) B (mK_ok sk sv) hNs rfl rfl (ch_Machine_assign_s_c l hi _ (xrw r_g3 hb) _ _ _ eg9) rfl (ma_goodc kc_Machine_assign) (B.2.2.2.1 _ k_1596) (B.2.2.2.1 _ k_1598) (B.2.2.2.1 _ ks_73) (B.2.2.2.1 _ k_11) ⟨by decide +kernel, by decide +kernel, by decide +kernel⟩ rfl d_Machine_ofCell_60 rfl (Nat.le_of_ble_eq_true rfl) ⟨by decide, by decide⟩ ⟨by decide, by decide⟩ ⟨by decide, by decide⟩ (mv_noH hno _) (fun σ60 h60 => ?_)
          obtain ⟨rfl, s_g9⟩ := h60
          have r_g9 : mv_r g9 = mv_r h := s_g9.trans r_g3
          refine mv_goto (pc := 63) (tgt := 88) B d_Machine_ofCell_63 rfl ?_
          refine mv_lpick [] rfl ?_
          exact jn88  _ r_g9 hf
      · skip
        have hf := xif_f h42 hf
        refine mv_lpick [] rfl ?_
        exact jn45  _ r_g3 hf
  unfold f_Machine_ofCell_s at hf
  refine mv_iload_n (pc := 0) B d_Machine_ofCell_0 rfl 1 rfl ?_
  refine mv_sipush (pc := 1) (v := 315) B d_Machine_ofCell_1 (by decide) ?_
  refine mv_icmp_ne (pc := 4) (tgt := 14) B d_Machine_ofCell_4 rfl (fun h4 => ?_) (fun h4 => ?_)
  · skip
    have hf := xif_f h4 hf
    refine mv_lconst (pc := 14) (v := 0) B d_Machine_ofCell_14 (by decide) ?_
    refine mv_lpick [0, 1, 2] rfl ?_
    exact jn15 _ _ _ _ rfl hf
  · skip
    have hf := xif_t h4 hf
    refine mv_aload_n (pc := 7) B d_Machine_ofCell_7 rfl 0 rfl ?_
    obtain ⟨v11, g10, eg10, hf⟩ := xhb_e hf
    refine mv_callVl (pc := 8) (n := 0) (ci := 9) (C := R_Machine) B (mK_ok sk sv) hNs rfl rfl (ch_Machine_pop_s_c l hi _ (hb) eg10) rfl (ma_goodc kc_Machine_pop) (B.2.2.2.1 _ k_1592) (B.2.2.2.1 _ k_1594) (B.2.2.2.1 _ ks_72) (B.2.2.2.1 _ k_11) ⟨by decide +kernel, by decide +kernel, by decide +kernel⟩ rfl d_Machine_ofCell_8 rfl (Nat.le_of_ble_eq_true rfl) ⟨by decide, by decide⟩ ⟨by decide, by decide⟩ ⟨by decide, by decide⟩ (mv_noH hno _) (fun w8 σ8 h8 => ?_)
    obtain ⟨rfl, rfl, s_g10⟩ := h8
    have r_g10 : mv_r g10 = mv_r h := s_g10.trans rfl
    refine mv_goto (pc := 11) (tgt := 15) B d_Machine_ofCell_11 rfl ?_
    refine mv_lpick [0, 1, 2] rfl ?_
    exact jn15 _ _ _ _ r_g10 hf
def f_Machine_work_s_279 (P : Nat) (x1 : Int32) (x2 : Int64) (hz : mv_H) : Option mv_H := xhb (f_Machine_pop_s P hz) fun v2 g1 => xhb (f_Machine_pop_s P g1) fun v4 g3 => xhb (f_Bits_ofTwo g3 x1 v4 v2 ((x2).toInt32)) fun v6 g5 => xhv (f_Machine_push_s P g5 v6) fun g7 => some g7
def f_Machine_work_s_183 (P : Nat) (x2 : Int64) (hz : mv_H) : Option mv_H := xhb (f_Machine_pop_s P hz) fun v9 g8 => xhv (f_Machine_push_s P g8 ((v9 ^^^ (-1 : Int64)) &&& x2)) fun g10 => some g10
def f_Machine_work_s_152 (P : Nat) (x2 : Int64) (y0 : Int32) (hz : mv_H) : Option mv_H := bif xzb y0 then xk (mv_si hz 64 8 y0) fun g12 => xhb (f_Machine_pop_s P g12) fun v14 g13 => xhv (f_Machine_assign_s P g13 ((x2).toInt32) (0 : Int32) v14) fun g15 => some g15 else none
def f_Machine_work_s_147 (P : Nat) (x2 : Int64) (hz : mv_H) : Option mv_H := f_Machine_work_s_152 P x2 (1 : Int32) hz
def f_Machine_work_s (P : Nat) (h : mv_H) (a0 : Int32) (a1 : Int64) : Option mv_H := if (a0).toInt = 300 then (xhv (f_Machine_push_s P h a1) fun g16 => some g16) else (if (a0).toInt = 301 then (f_Machine_work_s_279 P a0 a1 h) else (if (a0).toInt = 302 then (bif xvi ((a1).toInt32) 64 then xhv (f_Machine_push_s P h (mv_b h 66 (((a1).toInt32)).toNatClampNeg)) fun g18 => some g18 else none) else (if (a0).toInt = 303 then (bif xvi ((a1).toInt32) 65600 then xhv (f_Machine_push_s P h (mv_b h 65 (((a1).toInt32)).toNatClampNeg)) fun g20 => some g20 else none) else (if (a0).toInt = 304 then (f_Machine_work_s_279 P a0 a1 h) else (if (a0).toInt = 305 then (xhb (f_Machine_pop_s P h) fun v22 g21 => xhv (f_Machine_push_s P g21 (((-v22)) &&& a1)) fun g23 => some g23) else (if (a0).toInt = 306 then (f_Machine_work_s_183 P a1 h) else (if (a0).toInt = 307 then (f_Machine_work_s_183 P a1 h) else (if (a0).toInt = 308 then (xhb (f_Machine_pop_s P h) fun v25 g24 => xhb (f_Bits_mask g24 (((a1 >>> (((8 : Int32)).toInt64 &&& 63))).toInt32)) fun v27 g26 => xhv (f_Machine_push_s P g26 ((((v25).toUInt64 >>> (((((a1 &&& (255 : Int64))).toInt32)).toInt64.toUInt64 &&& Int64.toUInt64 63)).toInt64) &&& v27)) fun g28 => some g28) else (if (a0).toInt = 309 then (xhb (f_Machine_pop_s P h) fun v30 g29 => xhb (f_Machine_pop_s P g29) fun v32 g31 => xhv (f_Machine_push_s P g31 ((v32 <<< ((((a1).toInt32)).toInt64 &&& 63)) ||| v30)) fun g33 => some g33) else (if (a0).toInt = 310 then (xhb (f_Machine_pop_s P h) fun v35 g34 => xhb (f_Bits_signed g34 v35 (((a1 &&& (255 : Int64))).toInt32)) fun v37 g36 => xhb (f_Bits_mask g36 (((a1 >>> (((8 : Int32)).toInt64 &&& 63))).toInt32)) fun v39 g38 => xhv (f_Machine_push_s P g38 (v37 &&& v39)) fun g40 => some g40) else (if (a0).toInt = 311 then (f_Machine_work_s_279 P a0 a1 h) else (if (a0).toInt = 312 then (f_Machine_work_s_279 P a0 a1 h) else (if (a0).toInt = 313 then (xhb (f_Machine_pop_s P h) fun v42 g41 => bif xvi ((a1).toInt32) 64 then xk (mv_sb g41 66 (((a1).toInt32)).toNatClampNeg v42) fun g44 => some g44 else none) else (if (a0).toInt = 314 then (if (mv_i h 64 8) = (0 : Int32) then (if (lg_cmp a1 (((mv_i h P 8)).toInt64)) = (0 : Int32) then (f_Machine_work_s_147 P a1 h) else (f_Machine_work_s_152 P a1 (0 : Int32) h)) else (f_Machine_work_s_147 P a1 h)) else (f_Machine_work_s_279 P a0 a1 h)))))))))))))))
set_option maxHeartbeats 4000000 in
set_option maxRecDepth 100000 in
theorem ch_Machine_work_s_c (l : Launch) {dA : FieldType → ClassId} {D : va_G} {al : Nat → Nat} {sk sv : Nat → Nat} (hi : mv_inj (mg dA D al me)) (h : mv_H) (hb : Rf 145 (mv_r h))  (a0 : Int32) (a1 : Int64) {rg : mv_H} (hf : f_Machine_work_s 145 h a0 a1 = some rg) : mv_C l y_Machine_work (Cond.code y_Machine_work b_Machine_work 8 (Option.none : Option Jvm.ClassFile.FieldType) :: ma) ({ frames := 3, cells := 0, slots := 0, locals := 74 }) (mg dA D al me) (mK sk sv) [.ref (al 64), .int a0, .long a1] h (mv_Rv (fun σ1 => rg = σ1 ∧ mv_r σ1 = mv_r h)) := by
  refine mv_C.ofV (cc := b_Machine_work) (nL := 8) (ret := (Option.none : Option Jvm.ClassFile.FieldType)) (by decide +kernel) rfl hi (Nat.le_of_ble_eq_true rfl) ?_
  intro p e s m below meth c B hNs hr hnm hno
  have jn279 : ∀ (x1 : Int32) (x2 : Int64) (hz : mv_H), mv_r hz = mv_r h → f_Machine_work_s_279 145 x1 x2 hz = some rg → mv_V p l e ({ frames := 3, cells := 0, slots := 0, locals := 74 }) s m ([.ref (al 64), .int a0, .long a1] : List Value).toArray below meth c (mg dA D al me) 8 0 0 (mv_Q (mg dA D al me) below s 0 0 (mv_Rv (fun σ1 => rg = σ1 ∧ mv_r σ1 = mv_r h))) hz 279 [(0, .ref (al 64)), (1, .int x1), (2, .long x2)] [] := by
    intro x1 x2 hz r_hz hf
    unfold f_Machine_work_s_279 at hf
    refine mv_aload_n (pc := 279) B d_Machine_work_279 rfl 0 rfl ?_
    obtain ⟨v2, g1, eg1, hf⟩ := xhb_e hf
    refine mv_callVl (pc := 280) (n := 0) (ci := 9) (C := R_Machine) B (mK_ok sk sv) hNs rfl rfl (ch_Machine_pop_s_c l hi _ (xrw r_hz hb) eg1) rfl (ma_goodc kc_Machine_pop) (B.2.2.2.1 _ k_1592) (B.2.2.2.1 _ k_1594) (B.2.2.2.1 _ ks_72) (B.2.2.2.1 _ k_11) ⟨by decide +kernel, by decide +kernel, by decide +kernel⟩ rfl d_Machine_work_280 rfl (Nat.le_of_ble_eq_true rfl) ⟨by decide, by decide⟩ ⟨by decide, by decide⟩ ⟨by decide, by decide⟩ (mv_noH hno _) (fun w280 σ280 h280 => ?_)
    obtain ⟨rfl, rfl, s_g1⟩ := h280
    have r_g1 : mv_r g1 = mv_r h := s_g1.trans r_hz
    refine mv_lstore (pc := 283) B d_Machine_work_283 (by decide) rfl ?_
    refine mv_aload_n (pc := 285) B d_Machine_work_285 rfl 1 rfl ?_
    refine mv_iload_n (pc := 286) B d_Machine_work_286 rfl 2 rfl ?_
    refine mv_aload_n (pc := 287) B d_Machine_work_287 rfl 1 rfl ?_
    obtain ⟨v4, g3, eg3, hf⟩ := xhb_e hf
    refine mv_callVl (pc := 288) (n := 0) (ci := 9) (C := R_Machine) B (mK_ok sk sv) hNs rfl rfl (ch_Machine_pop_s_c l hi _ (xrw r_g1 hb) eg3) rfl (ma_goodc kc_Machine_pop) (B.2.2.2.1 _ k_1592) (B.2.2.2.1 _ k_1594) (B.2.2.2.1 _ ks_72) (B.2.2.2.1 _ k_11) ⟨by decide +kernel, by decide +kernel, by decide +kernel⟩ rfl d_Machine_work_288 rfl (Nat.le_of_ble_eq_true rfl) ⟨by decide, by decide⟩ ⟨by decide, by decide⟩ ⟨by decide, by decide⟩ (mv_noH hno _) (fun w288 σ288 h288 => ?_)
    obtain ⟨rfl, rfl, s_g3⟩ := h288
    have r_g3 : mv_r g3 = mv_r h := s_g3.trans r_g1
    refine mv_lload (pc := 291) B d_Machine_work_291 0 rfl ?_
    refine mv_lload_n (pc := 293) B d_Machine_work_293 rfl 3 rfl ?_
    refine mv_l2i (pc := 294) B d_Machine_work_294 ?_
    obtain ⟨v6, g5, eg5, hf⟩ := xhb_e hf
    refine mv_callSl (pc := 295) (n := 4) B (mK_ok sk sv) hNs (ch_Bits_ofTwo l hi _ _ _ _ _ eg5) rfl (ma_goodc kc_Bits_ofTwo) (B.2.2.2.1 _ k_1614) (B.2.2.2.1 _ k_1615) (B.2.2.2.1 _ k_33) ⟨by decide +kernel, by decide +kernel, by decide +kernel⟩ rfl d_Machine_work_295 rfl (Nat.le_of_ble_eq_true rfl) ⟨by decide, by decide⟩ ⟨by decide, by decide⟩ ⟨by decide, by decide⟩ (mv_noH hno _) (fun w295 σ295 h295 => ?_)
    obtain ⟨rfl, rfl, s_g5⟩ := h295
    have r_g5 : mv_r g5 = mv_r h := s_g5.trans r_g3
    obtain ⟨g7, eg7, hf⟩ := xhv_e hf
    refine mv_callVv (pc := 298) (n := 1) (ci := 9) (C := R_Machine) B (mK_ok sk sv) hNs rfl rfl (ch_Machine_push_s_c l hi _ (xrw r_g5 hb) _ eg7) rfl (ma_goodc kc_Machine_push) (B.2.2.2.1 _ k_1584) (B.2.2.2.1 _ k_1586) (B.2.2.2.1 _ ks_70) (B.2.2.2.1 _ k_11) ⟨by decide +kernel, by decide +kernel, by decide +kernel⟩ rfl d_Machine_work_298 rfl (Nat.le_of_ble_eq_true rfl) ⟨by decide, by decide⟩ ⟨by decide, by decide⟩ ⟨by decide, by decide⟩ (mv_noH hno _) (fun σ298 h298 => ?_)
    obtain ⟨rfl, s_g7⟩ := h298
    have r_g7 : mv_r g7 = mv_r h := s_g7.trans r_g5
    exact mv_vret (pc := 301) B hr d_Machine_work_301 (Nat.le_refl _) (Nat.le_refl _) ⟨rfl, xrh_v hf r_g7⟩
  have jn183 : ∀ (x2 : Int64) (hz : mv_H), mv_r hz = mv_r h → f_Machine_work_s_183 145 x2 hz = some rg → mv_V p l e ({ frames := 3, cells := 0, slots := 0, locals := 74 }) s m ([.ref (al 64), .int a0, .long a1] : List Value).toArray below meth c (mg dA D al me) 8 0 0 (mv_Q (mg dA D al me) below s 0 0 (mv_Rv (fun σ1 => rg = σ1 ∧ mv_r σ1 = mv_r h))) hz 183 [(0, .ref (al 64)), (2, .long x2)] [] := by
    intro x2 hz r_hz hf
    unfold f_Machine_work_s_183 at hf
    refine mv_aload_n (pc := 183) B d_Machine_work_183 rfl 0 rfl ?_
    refine mv_aload_n (pc := 184) B d_Machine_work_184 rfl 0 rfl ?_
    obtain ⟨v9, g8, eg8, hf⟩ := xhb_e hf
    refine mv_callVl (pc := 185) (n := 0) (ci := 9) (C := R_Machine) B (mK_ok sk sv) hNs rfl rfl (ch_Machine_pop_s_c l hi _ (xrw r_hz hb) eg8) rfl (ma_goodc kc_Machine_pop) (B.2.2.2.1 _ k_1592) (B.2.2.2.1 _ k_1594) (B.2.2.2.1 _ ks_72) (B.2.2.2.1 _ k_11) ⟨by decide +kernel, by decide +kernel, by decide +kernel⟩ rfl d_Machine_work_185 rfl (Nat.le_of_ble_eq_true rfl) ⟨by decide, by decide⟩ ⟨by decide, by decide⟩ ⟨by decide, by decide⟩ (mv_noH hno _) (fun w185 σ185 h185 => ?_)
    obtain ⟨rfl, rfl, s_g8⟩ := h185
    have r_g8 : mv_r g8 = mv_r h := s_g8.trans r_hz
    refine mv_ldc2 (pc := 188) (v := -1) B (B.2.2.2.1 _ k_1609) d_Machine_work_188 ?_
    refine mv_lxor (pc := 191) B d_Machine_work_191 ?_
    refine mv_lload_n (pc := 192) B d_Machine_work_192 rfl 1 rfl ?_
    refine mv_land (pc := 193) B d_Machine_work_193 ?_
    obtain ⟨g10, eg10, hf⟩ := xhv_e hf
    refine mv_callVv (pc := 194) (n := 1) (ci := 9) (C := R_Machine) B (mK_ok sk sv) hNs rfl rfl (ch_Machine_push_s_c l hi _ (xrw r_g8 hb) _ eg10) rfl (ma_goodc kc_Machine_push) (B.2.2.2.1 _ k_1584) (B.2.2.2.1 _ k_1586) (B.2.2.2.1 _ ks_70) (B.2.2.2.1 _ k_11) ⟨by decide +kernel, by decide +kernel, by decide +kernel⟩ rfl d_Machine_work_194 rfl (Nat.le_of_ble_eq_true rfl) ⟨by decide, by decide⟩ ⟨by decide, by decide⟩ ⟨by decide, by decide⟩ (mv_noH hno _) (fun σ194 h194 => ?_)
    obtain ⟨rfl, s_g10⟩ := h194
    have r_g10 : mv_r g10 = mv_r h := s_g10.trans r_g8
    refine mv_goto (pc := 197) (tgt := 301) B d_Machine_work_197 rfl ?_
    exact mv_vret (pc := 301) B hr d_Machine_work_301 (Nat.le_refl _) (Nat.le_refl _) ⟨rfl, xrh_v hf r_g10⟩
  have jn152 : ∀ (x2 : Int64) (y0 : Int32) (hz : mv_H), mv_r hz = mv_r h → f_Machine_work_s_152 145 x2 y0 hz = some rg → mv_V p l e ({ frames := 3, cells := 0, slots := 0, locals := 74 }) s m ([.ref (al 64), .int a0, .long a1] : List Value).toArray below meth c (mg dA D al me) 8 0 0 (mv_Q (mg dA D al me) below s 0 0 (mv_Rv (fun σ1 => rg = σ1 ∧ mv_r σ1 = mv_r h))) hz 152 [(0, .ref (al 64)), (2, .long x2)] [.int y0, .ref (al 64)] := by
    intro x2 y0 hz r_hz hf
    unfold f_Machine_work_s_152 at hf
    obtain ⟨q11, hf⟩ := xzb_e hf
    refine mv_putI (pc := 152) (ci := 9) (C := R_Machine) (T := F_Machine) (N := 13) B 8 rfl rfl (by decide) i_Machine t_Machine_ok n_Machine (B.2.2.2.1 _ k_450) rfl rfl (xzb_n q11) (xzb_f q11) d_Machine_work_152 ?_
    refine mvh_hp (R9 := mv_r h) hf r_hz (fun g12 hf r_g12 => ?_)
    refine mv_aload_n (pc := 155) B d_Machine_work_155 rfl 0 rfl ?_
    refine mv_lload_n (pc := 156) B d_Machine_work_156 rfl 1 rfl ?_
    refine mv_l2i (pc := 157) B d_Machine_work_157 ?_
    refine mv_iconst (pc := 158) (v := 0) B d_Machine_work_158 (by decide) ?_
    refine mv_aload_n (pc := 159) B d_Machine_work_159 rfl 0 rfl ?_
    obtain ⟨v14, g13, eg13, hf⟩ := xhb_e hf
    refine mv_callVl (pc := 160) (n := 0) (ci := 9) (C := R_Machine) B (mK_ok sk sv) hNs rfl rfl (ch_Machine_pop_s_c l hi _ (xrw r_g12 hb) eg13) rfl (ma_goodc kc_Machine_pop) (B.2.2.2.1 _ k_1592) (B.2.2.2.1 _ k_1594) (B.2.2.2.1 _ ks_72) (B.2.2.2.1 _ k_11) ⟨by decide +kernel, by decide +kernel, by decide +kernel⟩ rfl d_Machine_work_160 rfl (Nat.le_of_ble_eq_true rfl) ⟨by decide, by decide⟩ ⟨by decide, by decide⟩ ⟨by decide, by decide⟩ (mv_noH hno _) (fun w160 σ160 h160 => ?_)
    obtain ⟨rfl, rfl, s_g13⟩ := h160
    have r_g13 : mv_r g13 = mv_r h := s_g13.trans r_g12
    obtain ⟨g15, eg15, hf⟩ := xhv_e hf
    refine mv_callVv (pc := 163) (n := 3) (ci := 9) (C := R_Machine) B (mK_ok sk sv) hNs rfl rfl (ch_Machine_assign_s_c l hi _ (xrw r_g13 hb) _ _ _ eg15) rfl (ma_goodc kc_Machine_assign) (B.2.2.2.1 _ k_1596) (B.2.2.2.1 _ k_1598) (B.2.2.2.1 _ ks_73) (B.2.2.2.1 _ k_11) ⟨by decide +kernel, by decide +kernel, by decide +kernel⟩ rfl d_Machine_work_163 rfl (Nat.le_of_ble_eq_true rfl) ⟨by decide, by decide⟩ ⟨by decide, by decide⟩ ⟨by decide, by decide⟩ (mv_noH hno _) (fun σ163 h163 => ?_)
    obtain ⟨rfl, s_g15⟩ := h163
    have r_g15 : mv_r g15 = mv_r h := s_g15.trans r_g13
    refine mv_goto (pc := 166) (tgt := 301) B d_Machine_work_166 rfl ?_
    exact mv_vret (pc := 301) B hr d_Machine_work_301 (Nat.le_refl _) (Nat.le_refl _) ⟨rfl, xrh_v hf r_g15⟩
  have jn147 : ∀ (x2 : Int64) (hz : mv_H), mv_r hz = mv_r h → f_Machine_work_s_147 145 x2 hz = some rg → mv_V p l e ({ frames := 3, cells := 0, slots := 0, locals := 74 }) s m ([.ref (al 64), .int a0, .long a1] : List Value).toArray below meth c (mg dA D al me) 8 0 0 (mv_Q (mg dA D al me) below s 0 0 (mv_Rv (fun σ1 => rg = σ1 ∧ mv_r σ1 = mv_r h))) hz 147 [(0, .ref (al 64)), (2, .long x2)] [.ref (al 64)] := by
    intro x2 hz r_hz hf
    unfold f_Machine_work_s_147 at hf
    refine mv_iconst (pc := 147) (v := 1) B d_Machine_work_147 (by decide) ?_
    refine mv_goto (pc := 148) (tgt := 152) B d_Machine_work_148 rfl ?_
    refine mv_lpick [0, 1] rfl ?_
    exact jn152 _ _ _ r_hz hf
  unfold f_Machine_work_s at hf
  refine mv_iload_n (pc := 0) B d_Machine_work_0 rfl 1 rfl ?_
  refine mv_tsw (pc := 1) B d_Machine_work_1 (by decide) (by decide) ?_
  refine ⟨fun h1 => ?_, fun h1n300 => ?_⟩
  · skip
    have hf := xif_t h1 hf
    show mv_V _ _ _ _ _ _ _ _ _ _ _ _ _ _ _ _ 76 _ _
    refine mv_aload_n (pc := 76) B d_Machine_work_76 rfl 0 rfl ?_
    refine mv_lload_n (pc := 77) B d_Machine_work_77 rfl 2 rfl ?_
    obtain ⟨g16, eg16, hf⟩ := xhv_e hf
    refine mv_callVv (pc := 78) (n := 1) (ci := 9) (C := R_Machine) B (mK_ok sk sv) hNs rfl rfl (ch_Machine_push_s_c l hi _ (hb) _ eg16) rfl (ma_goodc kc_Machine_push) (B.2.2.2.1 _ k_1584) (B.2.2.2.1 _ k_1586) (B.2.2.2.1 _ ks_70) (B.2.2.2.1 _ k_11) ⟨by decide +kernel, by decide +kernel, by decide +kernel⟩ rfl d_Machine_work_78 rfl (Nat.le_of_ble_eq_true rfl) ⟨by decide, by decide⟩ ⟨by decide, by decide⟩ ⟨by decide, by decide⟩ (mv_noH hno _) (fun σ78 h78 => ?_)
    obtain ⟨rfl, s_g16⟩ := h78
    have r_g16 : mv_r g16 = mv_r h := s_g16.trans rfl
    refine mv_goto (pc := 81) (tgt := 301) B d_Machine_work_81 rfl ?_
    exact mv_vret (pc := 301) B hr d_Machine_work_301 (Nat.le_refl _) (Nat.le_refl _) ⟨rfl, xrh_v hf r_g16⟩
  have hf := xif_f h1n300 hf
  refine ⟨fun h1 => ?_, fun h1n301 => ?_⟩
  · skip
    have hf := xif_t h1 hf
    show mv_V _ _ _ _ _ _ _ _ _ _ _ _ _ _ _ _ 279 _ _
    refine mv_lpick [0, 1, 2] rfl ?_
    exact jn279 _ _ _ rfl hf
  have hf := xif_f h1n301 hf
  refine ⟨fun h1 => ?_, fun h1n302 => ?_⟩
  · skip
    have hf := xif_t h1 hf
    show mv_V _ _ _ _ _ _ _ _ _ _ _ _ _ _ _ _ 84 _ _
    refine mv_aload_n (pc := 84) B d_Machine_work_84 rfl 0 rfl ?_
    refine mv_aload_n (pc := 85) B d_Machine_work_85 rfl 0 rfl ?_
    refine mv_getR (pc := 86) (ci := 9) (C := R_Machine) (T := F_Machine) (N := 13) B 2 rfl rfl (by decide) i_Machine (B.2.2.2.1 _ k_444) rfl (hb.1 64 2 _ rfl) d_Machine_work_86 ?_
    refine mv_lload_n (pc := 89) B d_Machine_work_89 rfl 2 rfl ?_
    refine mv_l2i (pc := 90) B d_Machine_work_90 ?_
    obtain ⟨q17, hf⟩ := xvi_e hf
    refine mv_lald (pc := 91) B rfl q17 d_Machine_work_91 ?_
    obtain ⟨g18, eg18, hf⟩ := xhv_e hf
    refine mv_callVv (pc := 92) (n := 1) (ci := 9) (C := R_Machine) B (mK_ok sk sv) hNs rfl rfl (ch_Machine_push_s_c l hi _ (hb) _ eg18) rfl (ma_goodc kc_Machine_push) (B.2.2.2.1 _ k_1584) (B.2.2.2.1 _ k_1586) (B.2.2.2.1 _ ks_70) (B.2.2.2.1 _ k_11) ⟨by decide +kernel, by decide +kernel, by decide +kernel⟩ rfl d_Machine_work_92 rfl (Nat.le_of_ble_eq_true rfl) ⟨by decide, by decide⟩ ⟨by decide, by decide⟩ ⟨by decide, by decide⟩ (mv_noH hno _) (fun σ92 h92 => ?_)
    obtain ⟨rfl, s_g18⟩ := h92
    have r_g18 : mv_r g18 = mv_r h := s_g18.trans rfl
    refine mv_goto (pc := 95) (tgt := 301) B d_Machine_work_95 rfl ?_
    exact mv_vret (pc := 301) B hr d_Machine_work_301 (Nat.le_refl _) (Nat.le_refl _) ⟨rfl, xrh_v hf r_g18⟩
  have hf := xif_f h1n302 hf
  refine ⟨fun h1 => ?_, fun h1n303 => ?_⟩
  · skip
    have hf := xif_t h1 hf
    show mv_V _ _ _ _ _ _ _ _ _ _ _ _ _ _ _ _ 98 _ _
    refine mv_aload_n (pc := 98) B d_Machine_work_98 rfl 0 rfl ?_
    refine mv_aload_n (pc := 99) B d_Machine_work_99 rfl 0 rfl ?_
    refine mv_getR (pc := 100) (ci := 9) (C := R_Machine) (T := F_Machine) (N := 13) B 1 rfl rfl (by decide) i_Machine (B.2.2.2.1 _ k_442) rfl (hb.1 64 1 _ rfl) d_Machine_work_100 ?_
    refine mv_lload_n (pc := 103) B d_Machine_work_103 rfl 2 rfl ?_
    refine mv_l2i (pc := 104) B d_Machine_work_104 ?_
    obtain ⟨q19, hf⟩ := xvi_e hf
    refine mv_lald (pc := 105) B rfl q19 d_Machine_work_105 ?_
    obtain ⟨g20, eg20, hf⟩ := xhv_e hf
    refine mv_callVv (pc := 106) (n := 1) (ci := 9) (C := R_Machine) B (mK_ok sk sv) hNs rfl rfl (ch_Machine_push_s_c l hi _ (hb) _ eg20) rfl (ma_goodc kc_Machine_push) (B.2.2.2.1 _ k_1584) (B.2.2.2.1 _ k_1586) (B.2.2.2.1 _ ks_70) (B.2.2.2.1 _ k_11) ⟨by decide +kernel, by decide +kernel, by decide +kernel⟩ rfl d_Machine_work_106 rfl (Nat.le_of_ble_eq_true rfl) ⟨by decide, by decide⟩ ⟨by decide, by decide⟩ ⟨by decide, by decide⟩ (mv_noH hno _) (fun σ106 h106 => ?_)
    obtain ⟨rfl, s_g20⟩ := h106
    have r_g20 : mv_r g20 = mv_r h := s_g20.trans rfl
    refine mv_goto (pc := 109) (tgt := 301) B d_Machine_work_109 rfl ?_
    exact mv_vret (pc := 301) B hr d_Machine_work_301 (Nat.le_refl _) (Nat.le_refl _) ⟨rfl, xrh_v hf r_g20⟩
  have hf := xif_f h1n303 hf
  refine ⟨fun h1 => ?_, fun h1n304 => ?_⟩
  · skip
    have hf := xif_t h1 hf
    show mv_V _ _ _ _ _ _ _ _ _ _ _ _ _ _ _ _ 279 _ _
    refine mv_lpick [0, 1, 2] rfl ?_
    exact jn279 _ _ _ rfl hf
  have hf := xif_f h1n304 hf
  refine ⟨fun h1 => ?_, fun h1n305 => ?_⟩
  · skip
    have hf := xif_t h1 hf
    show mv_V _ _ _ _ _ _ _ _ _ _ _ _ _ _ _ _ 169 _ _
    refine mv_aload_n (pc := 169) B d_Machine_work_169 rfl 0 rfl ?_
    refine mv_aload_n (pc := 170) B d_Machine_work_170 rfl 0 rfl ?_
    obtain ⟨v22, g21, eg21, hf⟩ := xhb_e hf
    refine mv_callVl (pc := 171) (n := 0) (ci := 9) (C := R_Machine) B (mK_ok sk sv) hNs rfl rfl (ch_Machine_pop_s_c l hi _ (hb) eg21) rfl (ma_goodc kc_Machine_pop) (B.2.2.2.1 _ k_1592) (B.2.2.2.1 _ k_1594) (B.2.2.2.1 _ ks_72) (B.2.2.2.1 _ k_11) ⟨by decide +kernel, by decide +kernel, by decide +kernel⟩ rfl d_Machine_work_171 rfl (Nat.le_of_ble_eq_true rfl) ⟨by decide, by decide⟩ ⟨by decide, by decide⟩ ⟨by decide, by decide⟩ (mv_noH hno _) (fun w171 σ171 h171 => ?_)
    obtain ⟨rfl, rfl, s_g21⟩ := h171
    have r_g21 : mv_r g21 = mv_r h := s_g21.trans rfl
    refine mv_lneg (pc := 174) B d_Machine_work_174 ?_
    refine mv_lload_n (pc := 175) B d_Machine_work_175 rfl 2 rfl ?_
    refine mv_land (pc := 176) B d_Machine_work_176 ?_
    obtain ⟨g23, eg23, hf⟩ := xhv_e hf
    refine mv_callVv (pc := 177) (n := 1) (ci := 9) (C := R_Machine) B (mK_ok sk sv) hNs rfl rfl (ch_Machine_push_s_c l hi _ (xrw r_g21 hb) _ eg23) rfl (ma_goodc kc_Machine_push) (B.2.2.2.1 _ k_1584) (B.2.2.2.1 _ k_1586) (B.2.2.2.1 _ ks_70) (B.2.2.2.1 _ k_11) ⟨by decide +kernel, by decide +kernel, by decide +kernel⟩ rfl d_Machine_work_177 rfl (Nat.le_of_ble_eq_true rfl) ⟨by decide, by decide⟩ ⟨by decide, by decide⟩ ⟨by decide, by decide⟩ (mv_noH hno _) (fun σ177 h177 => ?_)
    obtain ⟨rfl, s_g23⟩ := h177
    have r_g23 : mv_r g23 = mv_r h := s_g23.trans r_g21
    refine mv_goto (pc := 180) (tgt := 301) B d_Machine_work_180 rfl ?_
    exact mv_vret (pc := 301) B hr d_Machine_work_301 (Nat.le_refl _) (Nat.le_refl _) ⟨rfl, xrh_v hf r_g23⟩
  have hf := xif_f h1n305 hf
  refine ⟨fun h1 => ?_, fun h1n306 => ?_⟩
  · skip
    have hf := xif_t h1 hf
    show mv_V _ _ _ _ _ _ _ _ _ _ _ _ _ _ _ _ 183 _ _
    refine mv_lpick [0, 2] rfl ?_
    exact jn183 _ _ rfl hf
  have hf := xif_f h1n306 hf
  refine ⟨fun h1 => ?_, fun h1n307 => ?_⟩
  · skip
    have hf := xif_t h1 hf
    show mv_V _ _ _ _ _ _ _ _ _ _ _ _ _ _ _ _ 183 _ _
    refine mv_lpick [0, 2] rfl ?_
    exact jn183 _ _ rfl hf
  have hf := xif_f h1n307 hf
  refine ⟨fun h1 => ?_, fun h1n308 => ?_⟩
  · skip
    have hf := xif_t h1 hf
    show mv_V _ _ _ _ _ _ _ _ _ _ _ _ _ _ _ _ 200 _ _
    refine mv_aload_n (pc := 200) B d_Machine_work_200 rfl 0 rfl ?_
    refine mv_aload_n (pc := 201) B d_Machine_work_201 rfl 0 rfl ?_
    obtain ⟨v25, g24, eg24, hf⟩ := xhb_e hf
    refine mv_callVl (pc := 202) (n := 0) (ci := 9) (C := R_Machine) B (mK_ok sk sv) hNs rfl rfl (ch_Machine_pop_s_c l hi _ (hb) eg24) rfl (ma_goodc kc_Machine_pop) (B.2.2.2.1 _ k_1592) (B.2.2.2.1 _ k_1594) (B.2.2.2.1 _ ks_72) (B.2.2.2.1 _ k_11) ⟨by decide +kernel, by decide +kernel, by decide +kernel⟩ rfl d_Machine_work_202 rfl (Nat.le_of_ble_eq_true rfl) ⟨by decide, by decide⟩ ⟨by decide, by decide⟩ ⟨by decide, by decide⟩ (mv_noH hno _) (fun w202 σ202 h202 => ?_)
    obtain ⟨rfl, rfl, s_g24⟩ := h202
    have r_g24 : mv_r g24 = mv_r h := s_g24.trans rfl
    refine mv_lload_n (pc := 205) B d_Machine_work_205 rfl 2 rfl ?_
    refine mv_ldc2 (pc := 206) (v := 255) B (B.2.2.2.1 _ k_1610) d_Machine_work_206 ?_
    refine mv_land (pc := 209) B d_Machine_work_209 ?_
    refine mv_l2i (pc := 210) B d_Machine_work_210 ?_
    refine mv_lushr (pc := 211) B d_Machine_work_211 ?_
    refine mv_lload_n (pc := 212) B d_Machine_work_212 rfl 2 rfl ?_
    refine mv_bipush (pc := 213) (v := 8) B d_Machine_work_213 (by decide) ?_
    refine mv_lshr (pc := 215) B d_Machine_work_215 ?_
    refine mv_l2i (pc := 216) B d_Machine_work_216 ?_
    obtain ⟨v27, g26, eg26, hf⟩ := xhb_e hf
    refine mv_callSl (pc := 217) (n := 1) B (mK_ok sk sv) hNs (ch_Bits_mask l hi _ _ eg26) rfl (ma_goodc kc_Bits_mask) (B.2.2.2.1 _ k_1604) (B.2.2.2.1 _ k_1437) (B.2.2.2.1 _ k_33) ⟨by decide +kernel, by decide +kernel, by decide +kernel⟩ rfl d_Machine_work_217 rfl (Nat.le_of_ble_eq_true rfl) ⟨by decide, by decide⟩ ⟨by decide, by decide⟩ ⟨by decide, by decide⟩ (mv_noH hno _) (fun w217 σ217 h217 => ?_)
    obtain ⟨rfl, rfl, s_g26⟩ := h217
    have r_g26 : mv_r g26 = mv_r h := s_g26.trans r_g24
    refine mv_land (pc := 220) B d_Machine_work_220 ?_
    obtain ⟨g28, eg28, hf⟩ := xhv_e hf
    refine mv_callVv (pc := 221) (n := 1) (ci := 9) (C := R_Machine) B (mK_ok sk sv) hNs rfl rfl (ch_Machine_push_s_c l hi _ (xrw r_g26 hb) _ eg28) rfl (ma_goodc kc_Machine_push) (B.2.2.2.1 _ k_1584) (B.2.2.2.1 _ k_1586) (B.2.2.2.1 _ ks_70) (B.2.2.2.1 _ k_11) ⟨by decide +kernel, by decide +kernel, by decide +kernel⟩ rfl d_Machine_work_221 rfl (Nat.le_of_ble_eq_true rfl) ⟨by decide, by decide⟩ ⟨by decide, by decide⟩ ⟨by decide, by decide⟩ (mv_noH hno _) (fun σ221 h221 => ?_)
    obtain ⟨rfl, s_g28⟩ := h221
    have r_g28 : mv_r g28 = mv_r h := s_g28.trans r_g26
    refine mv_goto (pc := 224) (tgt := 301) B d_Machine_work_224 rfl ?_
    exact mv_vret (pc := 301) B hr d_Machine_work_301 (Nat.le_refl _) (Nat.le_refl _) ⟨rfl, xrh_v hf r_g28⟩
  have hf := xif_f h1n308 hf
  refine ⟨fun h1 => ?_, fun h1n309 => ?_⟩
  · skip
    have hf := xif_t h1 hf
    show mv_V _ _ _ _ _ _ _ _ _ _ _ _ _ _ _ _ 256 _ _
    refine mv_aload_n (pc := 256) B d_Machine_work_256 rfl 0 rfl ?_
    obtain ⟨v30, g29, eg29, hf⟩ := xhb_e hf
    refine mv_callVl (pc := 257) (n := 0) (ci := 9) (C := R_Machine) B (mK_ok sk sv) hNs rfl rfl (ch_Machine_pop_s_c l hi _ (hb) eg29) rfl (ma_goodc kc_Machine_pop) (B.2.2.2.1 _ k_1592) (B.2.2.2.1 _ k_1594) (B.2.2.2.1 _ ks_72) (B.2.2.2.1 _ k_11) ⟨by decide +kernel, by decide +kernel, by decide +kernel⟩ rfl d_Machine_work_257 rfl (Nat.le_of_ble_eq_true rfl) ⟨by decide, by decide⟩ ⟨by decide, by decide⟩ ⟨by decide, by decide⟩ (mv_noH hno _) (fun w257 σ257 h257 => ?_)
    obtain ⟨rfl, rfl, s_g29⟩ := h257
    have r_g29 : mv_r g29 = mv_r h := s_g29.trans rfl
    refine mv_lstore (pc := 260) B d_Machine_work_260 (by decide) rfl ?_
    refine mv_aload_n (pc := 262) B d_Machine_work_262 rfl 1 rfl ?_
    refine mv_aload_n (pc := 263) B d_Machine_work_263 rfl 1 rfl ?_
    obtain ⟨v32, g31, eg31, hf⟩ := xhb_e hf
    refine mv_callVl (pc := 264) (n := 0) (ci := 9) (C := R_Machine) B (mK_ok sk sv) hNs rfl rfl (ch_Machine_pop_s_c l hi _ (xrw r_g29 hb) eg31) rfl (ma_goodc kc_Machine_pop) (B.2.2.2.1 _ k_1592) (B.2.2.2.1 _ k_1594) (B.2.2.2.1 _ ks_72) (B.2.2.2.1 _ k_11) ⟨by decide +kernel, by decide +kernel, by decide +kernel⟩ rfl d_Machine_work_264 rfl (Nat.le_of_ble_eq_true rfl) ⟨by decide, by decide⟩ ⟨by decide, by decide⟩ ⟨by decide, by decide⟩ (mv_noH hno _) (fun w264 σ264 h264 => ?_)
    obtain ⟨rfl, rfl, s_g31⟩ := h264
    have r_g31 : mv_r g31 = mv_r h := s_g31.trans r_g29
    refine mv_lload_n (pc := 267) B d_Machine_work_267 rfl 3 rfl ?_
    refine mv_l2i (pc := 268) B d_Machine_work_268 ?_
    refine mv_lshl (pc := 269) B d_Machine_work_269 ?_
    refine mv_lload (pc := 270) B d_Machine_work_270 0 rfl ?_
    refine mv_lor (pc := 272) B d_Machine_work_272 ?_
    obtain ⟨g33, eg33, hf⟩ := xhv_e hf
    refine mv_callVv (pc := 273) (n := 1) (ci := 9) (C := R_Machine) B (mK_ok sk sv) hNs rfl rfl (ch_Machine_push_s_c l hi _ (xrw r_g31 hb) _ eg33) rfl (ma_goodc kc_Machine_push) (B.2.2.2.1 _ k_1584) (B.2.2.2.1 _ k_1586) (B.2.2.2.1 _ ks_70) (B.2.2.2.1 _ k_11) ⟨by decide +kernel, by decide +kernel, by decide +kernel⟩ rfl d_Machine_work_273 rfl (Nat.le_of_ble_eq_true rfl) ⟨by decide, by decide⟩ ⟨by decide, by decide⟩ ⟨by decide, by decide⟩ (mv_noH hno _) (fun σ273 h273 => ?_)
    obtain ⟨rfl, s_g33⟩ := h273
    have r_g33 : mv_r g33 = mv_r h := s_g33.trans r_g31
    refine mv_goto (pc := 276) (tgt := 301) B d_Machine_work_276 rfl ?_
    exact mv_vret (pc := 301) B hr d_Machine_work_301 (Nat.le_refl _) (Nat.le_refl _) ⟨rfl, xrh_v hf r_g33⟩
  have hf := xif_f h1n309 hf
  refine ⟨fun h1 => ?_, fun h1n310 => ?_⟩
  · skip
    have hf := xif_t h1 hf
    show mv_V _ _ _ _ _ _ _ _ _ _ _ _ _ _ _ _ 227 _ _
    refine mv_aload_n (pc := 227) B d_Machine_work_227 rfl 0 rfl ?_
    refine mv_aload_n (pc := 228) B d_Machine_work_228 rfl 0 rfl ?_
    obtain ⟨v35, g34, eg34, hf⟩ := xhb_e hf
    refine mv_callVl (pc := 229) (n := 0) (ci := 9) (C := R_Machine) B (mK_ok sk sv) hNs rfl rfl (ch_Machine_pop_s_c l hi _ (hb) eg34) rfl (ma_goodc kc_Machine_pop) (B.2.2.2.1 _ k_1592) (B.2.2.2.1 _ k_1594) (B.2.2.2.1 _ ks_72) (B.2.2.2.1 _ k_11) ⟨by decide +kernel, by decide +kernel, by decide +kernel⟩ rfl d_Machine_work_229 rfl (Nat.le_of_ble_eq_true rfl) ⟨by decide, by decide⟩ ⟨by decide, by decide⟩ ⟨by decide, by decide⟩ (mv_noH hno _) (fun w229 σ229 h229 => ?_)
    obtain ⟨rfl, rfl, s_g34⟩ := h229
    have r_g34 : mv_r g34 = mv_r h := s_g34.trans rfl
    refine mv_lload_n (pc := 232) B d_Machine_work_232 rfl 2 rfl ?_
    refine mv_ldc2 (pc := 233) (v := 255) B (B.2.2.2.1 _ k_1610) d_Machine_work_233 ?_
    refine mv_land (pc := 236) B d_Machine_work_236 ?_
    refine mv_l2i (pc := 237) B d_Machine_work_237 ?_
    obtain ⟨v37, g36, eg36, hf⟩ := xhb_e hf
    refine mv_callSl (pc := 238) (n := 2) B (mK_ok sk sv) hNs (ch_Bits_signed l hi _ _ _ eg36) rfl (ma_goodc kc_Bits_signed) (B.2.2.2.1 _ k_1611) (B.2.2.2.1 _ k_1612) (B.2.2.2.1 _ k_33) ⟨by decide +kernel, by decide +kernel, by decide +kernel⟩ rfl d_Machine_work_238 rfl (Nat.le_of_ble_eq_true rfl) ⟨by decide, by decide⟩ ⟨by decide, by decide⟩ ⟨by decide, by decide⟩ (mv_noH hno _) (fun w238 σ238 h238 => ?_)
    obtain ⟨rfl, rfl, s_g36⟩ := h238
    have r_g36 : mv_r g36 = mv_r h := s_g36.trans r_g34
    refine mv_lload_n (pc := 241) B d_Machine_work_241 rfl 2 rfl ?_
    refine mv_bipush (pc := 242) (v := 8) B d_Machine_work_242 (by decide) ?_
    refine mv_lshr (pc := 244) B d_Machine_work_244 ?_
    refine mv_l2i (pc := 245) B d_Machine_work_245 ?_
    obtain ⟨v39, g38, eg38, hf⟩ := xhb_e hf
    refine mv_callSl (pc := 246) (n := 1) B (mK_ok sk sv) hNs (ch_Bits_mask l hi _ _ eg38) rfl (ma_goodc kc_Bits_mask) (B.2.2.2.1 _ k_1604) (B.2.2.2.1 _ k_1437) (B.2.2.2.1 _ k_33) ⟨by decide +kernel, by decide +kernel, by decide +kernel⟩ rfl d_Machine_work_246 rfl (Nat.le_of_ble_eq_true rfl) ⟨by decide, by decide⟩ ⟨by decide, by decide⟩ ⟨by decide, by decide⟩ (mv_noH hno _) (fun w246 σ246 h246 => ?_)
    obtain ⟨rfl, rfl, s_g38⟩ := h246
    have r_g38 : mv_r g38 = mv_r h := s_g38.trans r_g36
    refine mv_land (pc := 249) B d_Machine_work_249 ?_
    obtain ⟨g40, eg40, hf⟩ := xhv_e hf
    refine mv_callVv (pc := 250) (n := 1) (ci := 9) (C := R_Machine) B (mK_ok sk sv) hNs rfl rfl (ch_Machine_push_s_c l hi _ (xrw r_g38 hb) _ eg40) rfl (ma_goodc kc_Machine_push) (B.2.2.2.1 _ k_1584) (B.2.2.2.1 _ k_1586) (B.2.2.2.1 _ ks_70) (B.2.2.2.1 _ k_11) ⟨by decide +kernel, by decide +kernel, by decide +kernel⟩ rfl d_Machine_work_250 rfl (Nat.le_of_ble_eq_true rfl) ⟨by decide, by decide⟩ ⟨by decide, by decide⟩ ⟨by decide, by decide⟩ (mv_noH hno _) (fun σ250 h250 => ?_)
    obtain ⟨rfl, s_g40⟩ := h250
    have r_g40 : mv_r g40 = mv_r h := s_g40.trans r_g38
    refine mv_goto (pc := 253) (tgt := 301) B d_Machine_work_253 rfl ?_
    exact mv_vret (pc := 301) B hr d_Machine_work_301 (Nat.le_refl _) (Nat.le_refl _) ⟨rfl, xrh_v hf r_g40⟩
  have hf := xif_f h1n310 hf
  refine ⟨fun h1 => ?_, fun h1n311 => ?_⟩
  · skip
    have hf := xif_t h1 hf
    show mv_V _ _ _ _ _ _ _ _ _ _ _ _ _ _ _ _ 279 _ _
    refine mv_lpick [0, 1, 2] rfl ?_
    exact jn279 _ _ _ rfl hf
  have hf := xif_f h1n311 hf
  refine ⟨fun h1 => ?_, fun h1n312 => ?_⟩
  · skip
    have hf := xif_t h1 hf
    show mv_V _ _ _ _ _ _ _ _ _ _ _ _ _ _ _ _ 279 _ _
    refine mv_lpick [0, 1, 2] rfl ?_
    exact jn279 _ _ _ rfl hf
  have hf := xif_f h1n312 hf
  refine ⟨fun h1 => ?_, fun h1n313 => ?_⟩
  · skip
    have hf := xif_t h1 hf
    show mv_V _ _ _ _ _ _ _ _ _ _ _ _ _ _ _ _ 112 _ _
    refine mv_aload_n (pc := 112) B d_Machine_work_112 rfl 0 rfl ?_
    refine mv_getR (pc := 113) (ci := 9) (C := R_Machine) (T := F_Machine) (N := 13) B 2 rfl rfl (by decide) i_Machine (B.2.2.2.1 _ k_444) rfl (hb.1 64 2 _ rfl) d_Machine_work_113 ?_
    refine mv_lload_n (pc := 116) B d_Machine_work_116 rfl 2 rfl ?_
    refine mv_l2i (pc := 117) B d_Machine_work_117 ?_
    refine mv_aload_n (pc := 118) B d_Machine_work_118 rfl 0 rfl ?_
    obtain ⟨v42, g41, eg41, hf⟩ := xhb_e hf
    refine mv_callVl (pc := 119) (n := 0) (ci := 9) (C := R_Machine) B (mK_ok sk sv) hNs rfl rfl (ch_Machine_pop_s_c l hi _ (hb) eg41) rfl (ma_goodc kc_Machine_pop) (B.2.2.2.1 _ k_1592) (B.2.2.2.1 _ k_1594) (B.2.2.2.1 _ ks_72) (B.2.2.2.1 _ k_11) ⟨by decide +kernel, by decide +kernel, by decide +kernel⟩ rfl d_Machine_work_119 rfl (Nat.le_of_ble_eq_true rfl) ⟨by decide, by decide⟩ ⟨by decide, by decide⟩ ⟨by decide, by decide⟩ (mv_noH hno _) (fun w119 σ119 h119 => ?_)
    obtain ⟨rfl, rfl, s_g41⟩ := h119
    have r_g41 : mv_r g41 = mv_r h := s_g41.trans rfl
    obtain ⟨q43, hf⟩ := xvi_e hf
    refine mv_last (pc := 122) B rfl q43 d_Machine_work_122 ?_
    refine mvh_hp (R9 := mv_r h) hf r_g41 (fun g44 hf r_g44 => ?_)
    refine mv_goto (pc := 123) (tgt := 301) B d_Machine_work_123 rfl ?_
    exact mv_vret (pc := 301) B hr d_Machine_work_301 (Nat.le_refl _) (Nat.le_refl _) ⟨rfl, xrh_v hf r_g44⟩
  have hf := xif_f h1n313 hf
  refine ⟨fun h1 => ?_, fun h1n314 => ?_⟩
  · skip
    have hf := xif_t h1 hf
    show mv_V _ _ _ _ _ _ _ _ _ _ _ _ _ _ _ _ 126 _ _
    refine mv_aload_n (pc := 126) B d_Machine_work_126 rfl 0 rfl ?_
    refine mv_aload_n (pc := 127) B d_Machine_work_127 rfl 0 rfl ?_
    refine mv_getI (pc := 128) (ci := 9) (C := R_Machine) (T := F_Machine) (N := 13) B 8 rfl rfl (by decide) i_Machine (B.2.2.2.1 _ k_450) rfl d_Machine_work_128 ?_
    refine mv_if_ne (pc := 131) (tgt := 147) B d_Machine_work_131 rfl (fun h131 => ?_) (fun h131 => ?_)
    · skip
      have hf := xif_f h131 hf
      refine mv_lpick [0, 2] rfl ?_
      exact jn147 _ _ rfl hf
    · skip
      have hf := xif_t h131 hf
      refine mv_lload_n (pc := 134) B d_Machine_work_134 rfl 2 rfl ?_
      refine mv_aload_n (pc := 135) B d_Machine_work_135 rfl 0 rfl ?_
      refine mv_getR (pc := 136) (ci := 9) (C := R_Machine) (T := F_Machine) (N := 13) B 0 rfl rfl (by decide) i_Machine (B.2.2.2.1 _ k_440) rfl hb.2.2 d_Machine_work_136 ?_
      refine mv_getI (pc := 139) (ci := 7) (C := R_Program) (T := F_Program) (N := 19) B 8 rfl rfl (by decide) i_Program (B.2.2.2.1 _ k_338) rfl d_Machine_work_139 ?_
      refine mv_i2l (pc := 142) B d_Machine_work_142 ?_
      refine mv_lcmp (pc := 143) B d_Machine_work_143 ?_
      refine mv_if_ne (pc := 144) (tgt := 151) B d_Machine_work_144 rfl (fun h144 => ?_) (fun h144 => ?_)
      · skip
        have hf := xif_f h144 hf
        refine mv_iconst (pc := 151) (v := 0) B d_Machine_work_151 (by decide) ?_
        refine mv_lpick [0, 2] rfl ?_
        exact jn152 _ _ _ rfl hf
      · skip
        have hf := xif_t h144 hf
        refine mv_lpick [0, 2] rfl ?_
        exact jn147 _ _ rfl hf
  have hf := xif_f h1n314 hf
  show mv_V _ _ _ _ _ _ _ _ _ _ _ _ _ _ _ _ 279 _ _
  refine mv_lpick [0, 1, 2] rfl ?_
  exact jn279 _ _ _ rfl hf
def f_Machine_perform_s_241 (P : Nat) (hz : mv_H) : Option (Int32 × mv_H) := some ((0 : Int32), hz)
def f_Machine_perform_s_235 (P : Nat) (k11 : Int64 → Int32 → Int32 → mv_H → Option (Int32 × mv_H)) (x2 : Int64) (x4 : Int32) (x5 : Int32) (hz : mv_H) : Option (Int32 × mv_H) := k11 x2 x4 (x5 + 1) hz
def f_Machine_perform_s_227 (P : Nat) (k11 : Int64 → Int32 → Int32 → mv_H → Option (Int32 × mv_H)) (x2 : Int64) (x4 : Int32) (x5 : Int32) (x6 : Int32) (x7 : Int64) (hz : mv_H) : Option (Int32 × mv_H) := xhv (f_Machine_work_s P hz x6 x7) fun g1 => f_Machine_perform_s_235 P k11 x2 x4 x5 g1
def f_Machine_perform_s_212 (P : Nat) (k11 : Int64 → Int32 → Int32 → mv_H → Option (Int32 × mv_H)) (x2 : Int64) (x4 : Int32) (x5 : Int32) (x6 : Int32) (x7 : Int64) (hz : mv_H) : Option (Int32 × mv_H) := xhb (f_Machine_ofCell_s P hz x6 ((x7).toInt32)) fun v3 g2 => if v3 = (0 : Int32) then (some ((-3 : Int32), g2)) else (f_Machine_perform_s_235 P k11 x2 x4 x5 g2)
def f_Machine_perform_s_194 (P : Nat) (k11 : Int64 → Int32 → Int32 → mv_H → Option (Int32 × mv_H)) (x2 : Int64) (x5 : Int32) (y0 : Int32) (hz : mv_H) : Option (Int32 × mv_H) := f_Machine_perform_s_235 P k11 x2 y0 x5 hz
def fF_Machine_perform_s_11 (P : Nat) (k11 : Int64 → Int32 → Int32 → mv_H → Option (Int32 × mv_H)) (x2 : Int64) (x4 : Int32) (x5 : Int32) (hz : mv_H) : Option (Int32 × mv_H) := if (mv_i hz P 17) ≤ x5 then (f_Machine_perform_s_241 P  hz) else (if (mv_i hz P 17) ≤ x4 then (f_Machine_perform_s_241 P  hz) else (bif xvi x4 8192 then bif xvi x4 8192 then if ((mv_a hz (P + 9) (x4).toNatClampNeg)).toInt = 301 then (xhb (f_Bits_gather hz x2 (mv_b hz (P + 10) (x4).toNatClampNeg)) fun v7 g6 => xhv (f_Machine_push_s P g6 v7) fun g8 => f_Machine_perform_s_235 P k11 x2 (x4 + 1) x5 g8) else (if ((mv_a hz (P + 9) (x4).toNatClampNeg)).toInt = 302 then (f_Machine_perform_s_227 P k11 x2 (x4 + 1) x5 (mv_a hz (P + 9) (x4).toNatClampNeg) (mv_b hz (P + 10) (x4).toNatClampNeg) hz) else (if ((mv_a hz (P + 9) (x4).toNatClampNeg)).toInt = 303 then (f_Machine_perform_s_227 P k11 x2 (x4 + 1) x5 (mv_a hz (P + 9) (x4).toNatClampNeg) (mv_b hz (P + 10) (x4).toNatClampNeg) hz) else (if ((mv_a hz (P + 9) (x4).toNatClampNeg)).toInt = 304 then (f_Machine_perform_s_212 P k11 x2 (x4 + 1) x5 (mv_a hz (P + 9) (x4).toNatClampNeg) (mv_b hz (P + 10) (x4).toNatClampNeg) hz) else (if ((mv_a hz (P + 9) (x4).toNatClampNeg)).toInt = 305 then (f_Machine_perform_s_227 P k11 x2 (x4 + 1) x5 (mv_a hz (P + 9) (x4).toNatClampNeg) (mv_b hz (P + 10) (x4).toNatClampNeg) hz) else (if ((mv_a hz (P + 9) (x4).toNatClampNeg)).toInt = 306 then (f_Machine_perform_s_227 P k11 x2 (x4 + 1) x5 (mv_a hz (P + 9) (x4).toNatClampNeg) (mv_b hz (P + 10) (x4).toNatClampNeg) hz) else (if ((mv_a hz (P + 9) (x4).toNatClampNeg)).toInt = 307 then (f_Machine_perform_s_227 P k11 x2 (x4 + 1) x5 (mv_a hz (P + 9) (x4).toNatClampNeg) (mv_b hz (P + 10) (x4).toNatClampNeg) hz) else (if ((mv_a hz (P + 9) (x4).toNatClampNeg)).toInt = 308 then (f_Machine_perform_s_227 P k11 x2 (x4 + 1) x5 (mv_a hz (P + 9) (x4).toNatClampNeg) (mv_b hz (P + 10) (x4).toNatClampNeg) hz) else (if ((mv_a hz (P + 9) (x4).toNatClampNeg)).toInt = 309 then (f_Machine_perform_s_227 P k11 x2 (x4 + 1) x5 (mv_a hz (P + 9) (x4).toNatClampNeg) (mv_b hz (P + 10) (x4).toNatClampNeg) hz) else (if ((mv_a hz (P + 9) (x4).toNatClampNeg)).toInt = 310 then (f_Machine_perform_s_227 P k11 x2 (x4 + 1) x5 (mv_a hz (P + 9) (x4).toNatClampNeg) (mv_b hz (P + 10) (x4).toNatClampNeg) hz) else (if ((mv_a hz (P + 9) (x4).toNatClampNeg)).toInt = 311 then (f_Machine_perform_s_235 P k11 x2 (((mv_b hz (P + 10) (x4).toNatClampNeg)).toInt32) x5 hz) else (if ((mv_a hz (P + 9) (x4).toNatClampNeg)).toInt = 312 then (xk (mv_si hz 64 4 ((mv_i hz 64 4) - (1 : Int32))) fun g9 => bif xvi (mv_i g9 64 4) 1024 then if (lg_cmp (mv_b g9 67 ((mv_i g9 64 4)).toNatClampNeg) (0 : Int64)) = (0 : Int32) then (f_Machine_perform_s_194 P k11 x2 x5 (((mv_b hz (P + 10) (x4).toNatClampNeg)).toInt32) g9) else (f_Machine_perform_s_194 P k11 x2 x5 (x4 + 1) g9) else none) else (if ((mv_a hz (P + 9) (x4).toNatClampNeg)).toInt = 313 then (f_Machine_perform_s_227 P k11 x2 (x4 + 1) x5 (mv_a hz (P + 9) (x4).toNatClampNeg) (mv_b hz (P + 10) (x4).toNatClampNeg) hz) else (if ((mv_a hz (P + 9) (x4).toNatClampNeg)).toInt = 314 then (f_Machine_perform_s_227 P k11 x2 (x4 + 1) x5 (mv_a hz (P + 9) (x4).toNatClampNeg) (mv_b hz (P + 10) (x4).toNatClampNeg) hz) else (if ((mv_a hz (P + 9) (x4).toNatClampNeg)).toInt = 315 then (f_Machine_perform_s_212 P k11 x2 (x4 + 1) x5 (mv_a hz (P + 9) (x4).toNatClampNeg) (mv_b hz (P + 10) (x4).toNatClampNeg) hz) else (if ((mv_a hz (P + 9) (x4).toNatClampNeg)).toInt = 316 then (some ((((mv_b hz (P + 10) (x4).toNatClampNeg)).toInt32), hz)) else (if ((mv_a hz (P + 9) (x4).toNatClampNeg)).toInt = 317 then (some ((0 : Int32), hz)) else (f_Machine_perform_s_227 P k11 x2 (x4 + 1) x5 (mv_a hz (P + 9) (x4).toNatClampNeg) (mv_b hz (P + 10) (x4).toNatClampNeg) hz))))))))))))))))) else none else none))
def f_Machine_perform_s_11 (P : Nat) : Nat → Int64 → Int32 → Int32 → mv_H → Option (Int32 × mv_H)
  | 0 => fun _ _ _ _ => none
  | nn + 1 => fF_Machine_perform_s_11 P (f_Machine_perform_s_11 P nn)
def f_Machine_perform_s (P : Nat) (h : mv_H) (a0 : Int32) (a1 : Int64) : Option (Int32 × mv_H) := xk (mv_si h 64 4 (0 : Int32)) fun g11 => f_Machine_perform_s_11 P 200000 a1 a0 (0 : Int32) g11
set_option maxHeartbeats 4000000 in
set_option maxRecDepth 100000 in
theorem ch_Machine_perform_s_c (l : Launch) {dA : FieldType → ClassId} {D : va_G} {al : Nat → Nat} {sk sv : Nat → Nat} (hi : mv_inj (mg dA D al me)) (h : mv_H) (hb : Rf 145 (mv_r h))  (a0 : Int32) (a1 : Int64) {rv : Int32} {rg : mv_H} (hf : f_Machine_perform_s 145 h a0 a1 = some (rv, rg)) : mv_C l y_Machine_perform (Cond.code y_Machine_perform b_Machine_perform 9 (Option.some Jvm.ClassFile.FieldType.int) :: ma) ({ frames := 4, cells := 0, slots := 0, locals := 101 }) (mg dA D al me) (mK sk sv) [.ref (al 64), .int a0, .long a1] h (mv_Ri (fun v σ1 => rv = v ∧ rg = σ1 ∧ mv_r σ1 = mv_r h)) := by
  refine mv_C.ofV (cc := b_Machine_perform) (nL := 9) (ret := (Option.some Jvm.ClassFile.FieldType.int)) (by decide +kernel) rfl hi (Nat.le_of_ble_eq_true rfl) ?_
  intro p e s m below meth c B hNs hr hnm hno
  have jn241 : ∀ (hz : mv_H), mv_r hz = mv_r h → f_Machine_perform_s_241 145  hz = some (rv, rg) → mv_V p l e ({ frames := 4, cells := 0, slots := 0, locals := 101 }) s m ([.ref (al 64), .int a0, .long a1] : List Value).toArray below meth c (mg dA D al me) 9 0 0 (mv_Q (mg dA D al me) below s 0 0 (mv_Ri (fun v σ1 => rv = v ∧ rg = σ1 ∧ mv_r σ1 = mv_r h))) hz 241 [] [] := by
    intro  hz r_hz hf
    unfold f_Machine_perform_s_241 at hf
    refine mv_iconst (pc := 241) (v := 0) B d_Machine_perform_241 (by decide) ?_
    exact mv_iret (pc := 242) B hr rfl d_Machine_perform_242 (Nat.le_refl _) (Nat.le_refl _) ⟨_, rfl, xrh_i hf r_hz⟩
  have lp11 : ∀ (nn11 : Nat) (x2 : Int64) (x4 : Int32) (x5 : Int32) (hz : mv_H), mv_r hz = mv_r h → f_Machine_perform_s_11 145 nn11 x2 x4 x5 hz = some (rv, rg) → mv_V p l e ({ frames := 4, cells := 0, slots := 0, locals := 101 }) s m ([.ref (al 64), .int a0, .long a1] : List Value).toArray below meth c (mg dA D al me) 9 0 0 (mv_Q (mg dA D al me) below s 0 0 (mv_Ri (fun v σ1 => rv = v ∧ rg = σ1 ∧ mv_r σ1 = mv_r h))) hz 11 [(0, .ref (al 64)), (2, .long x2), (4, .int x4), (5, .int x5)] [] := by
    intro nn11
    induction nn11 with
    | zero => intro x2 x4 x5 hz r_hz hf; cases hf
    | succ nn11 ih11 =>
      intro x2 x4 x5 hz r_hz hf
      have jn235 : ∀ (x2 : Int64) (x4 : Int32) (x5 : Int32) (hz : mv_H), mv_r hz = mv_r h → f_Machine_perform_s_235 145 (f_Machine_perform_s_11 145 nn11) x2 x4 x5 hz = some (rv, rg) → mv_V p l e ({ frames := 4, cells := 0, slots := 0, locals := 101 }) s m ([.ref (al 64), .int a0, .long a1] : List Value).toArray below meth c (mg dA D al me) 9 0 0 (mv_Q (mg dA D al me) below s 0 0 (mv_Ri (fun v σ1 => rv = v ∧ rg = σ1 ∧ mv_r σ1 = mv_r h))) hz 235 [(0, .ref (al 64)), (2, .long x2), (4, .int x4), (5, .int x5)] [] := by
        intro x2 x4 x5 hz r_hz hf
        unfold f_Machine_perform_s_235 at hf
        refine mv_iinc (pc := 235) (j := 3) (v := 1) B d_Machine_perform_235 rfl (by decide) (by decide) rfl ?_
        refine mv_goto (pc := 238) (tgt := 11) B d_Machine_perform_238 rfl ?_
        refine mv_lpick [1, 2, 3, 0] rfl ?_
        exact ih11 _ _ _ _ r_hz hf
      have jn227 : ∀ (x2 : Int64) (x4 : Int32) (x5 : Int32) (x6 : Int32) (x7 : Int64) (hz : mv_H), mv_r hz = mv_r h → f_Machine_perform_s_227 145 (f_Machine_perform_s_11 145 nn11) x2 x4 x5 x6 x7 hz = some (rv, rg) → mv_V p l e ({ frames := 4, cells := 0, slots := 0, locals := 101 }) s m ([.ref (al 64), .int a0, .long a1] : List Value).toArray below meth c (mg dA D al me) 9 0 0 (mv_Q (mg dA D al me) below s 0 0 (mv_Ri (fun v σ1 => rv = v ∧ rg = σ1 ∧ mv_r σ1 = mv_r h))) hz 227 [(0, .ref (al 64)), (2, .long x2), (4, .int x4), (5, .int x5), (6, .int x6), (7, .long x7)] [] := by
        intro x2 x4 x5 x6 x7 hz r_hz hf
        unfold f_Machine_perform_s_227 at hf
        refine mv_aload_n (pc := 227) B d_Machine_perform_227 rfl 0 rfl ?_
        refine mv_iload (pc := 228) B d_Machine_perform_228 4 rfl ?_
        refine mv_lload (pc := 230) B d_Machine_perform_230 5 rfl ?_
        obtain ⟨g1, eg1, hf⟩ := xhv_e hf
        refine mv_callVv (pc := 232) (n := 2) (ci := 9) (C := R_Machine) B (mK_ok sk sv) hNs rfl rfl (ch_Machine_work_s_c l hi _ (xrw r_hz hb) _ _ eg1) rfl (ma_goodc kc_Machine_work) (B.2.2.2.1 _ k_1605) (B.2.2.2.1 _ k_1607) (B.2.2.2.1 _ ks_74) (B.2.2.2.1 _ k_11) ⟨by decide +kernel, by decide +kernel, by decide +kernel⟩ rfl d_Machine_perform_232 rfl (Nat.le_of_ble_eq_true rfl) ⟨by decide, by decide⟩ ⟨by decide, by decide⟩ ⟨by decide, by decide⟩ (mv_noH hno _) (fun σ232 h232 => ?_)
        obtain ⟨rfl, s_g1⟩ := h232
        have r_g1 : mv_r g1 = mv_r h := s_g1.trans r_hz
        refine mv_lpick [0, 1, 2, 3] rfl ?_
        exact jn235 _ _ _ _ r_g1 hf
      have jn212 : ∀ (x2 : Int64) (x4 : Int32) (x5 : Int32) (x6 : Int32) (x7 : Int64) (hz : mv_H), mv_r hz = mv_r h → f_Machine_perform_s_212 145 (f_Machine_perform_s_11 145 nn11) x2 x4 x5 x6 x7 hz = some (rv, rg) → mv_V p l e ({ frames := 4, cells := 0, slots := 0, locals := 101 }) s m ([.ref (al 64), .int a0, .long a1] : List Value).toArray below meth c (mg dA D al me) 9 0 0 (mv_Q (mg dA D al me) below s 0 0 (mv_Ri (fun v σ1 => rv = v ∧ rg = σ1 ∧ mv_r σ1 = mv_r h))) hz 212 [(0, .ref (al 64)), (2, .long x2), (4, .int x4), (5, .int x5), (6, .int x6), (7, .long x7)] [] := by
        intro x2 x4 x5 x6 x7 hz r_hz hf
        unfold f_Machine_perform_s_212 at hf
        refine mv_aload_n (pc := 212) B d_Machine_perform_212 rfl 0 rfl ?_
        refine mv_iload (pc := 213) B d_Machine_perform_213 4 rfl ?_
        refine mv_lload (pc := 215) B d_Machine_perform_215 5 rfl ?_
        refine mv_l2i (pc := 217) B d_Machine_perform_217 ?_
        obtain ⟨v3, g2, eg2, hf⟩ := xhb_e hf
        refine mv_callVi (pc := 218) (n := 2) (ci := 9) (C := R_Machine) B (mK_ok sk sv) hNs rfl rfl (ch_Machine_ofCell_s_c l hi _ (xrw r_hz hb) _ _ eg2) rfl (ma_goodc kc_Machine_ofCell) (B.2.2.2.1 _ k_1588) (B.2.2.2.1 _ k_1590) (B.2.2.2.1 _ ks_71) (B.2.2.2.1 _ k_11) ⟨by decide +kernel, by decide +kernel, by decide +kernel⟩ rfl d_Machine_perform_218 rfl (Nat.le_of_ble_eq_true rfl) ⟨by decide, by decide⟩ ⟨by decide, by decide⟩ ⟨by decide, by decide⟩ (mv_noH hno _) (fun w218 σ218 h218 => ?_)
        obtain ⟨rfl, rfl, s_g2⟩ := h218
        have r_g2 : mv_r g2 = mv_r h := s_g2.trans r_hz
        refine mv_if_ne (pc := 221) (tgt := 235) B d_Machine_perform_221 rfl (fun h221 => ?_) (fun h221 => ?_)
        · skip
          have hf := xif_f h221 hf
          refine mv_lpick [0, 1, 2, 3] rfl ?_
          exact jn235 _ _ _ _ r_g2 hf
        · skip
          have hf := xif_t h221 hf
          refine mv_bipush (pc := 224) (v := -3) B d_Machine_perform_224 (by decide) ?_
          exact mv_iret (pc := 226) B hr rfl d_Machine_perform_226 (Nat.le_refl _) (Nat.le_refl _) ⟨_, rfl, xrh_i hf r_g2⟩
      have jn194 : ∀ (x2 : Int64) (x5 : Int32) (y0 : Int32) (hz : mv_H), mv_r hz = mv_r h → f_Machine_perform_s_194 145 (f_Machine_perform_s_11 145 nn11) x2 x5 y0 hz = some (rv, rg) → mv_V p l e ({ frames := 4, cells := 0, slots := 0, locals := 101 }) s m ([.ref (al 64), .int a0, .long a1] : List Value).toArray below meth c (mg dA D al me) 9 0 0 (mv_Q (mg dA D al me) below s 0 0 (mv_Ri (fun v σ1 => rv = v ∧ rg = σ1 ∧ mv_r σ1 = mv_r h))) hz 194 [(0, .ref (al 64)), (2, .long x2), (5, .int x5)] [.int y0] := by
        intro x2 x5 y0 hz r_hz hf
        unfold f_Machine_perform_s_194 at hf
        refine mv_istore (pc := 194) B d_Machine_perform_194 (by decide) rfl ?_
        refine mv_goto (pc := 196) (tgt := 235) B d_Machine_perform_196 rfl ?_
        refine mv_lpick [1, 2, 0, 3] rfl ?_
        exact jn235 _ _ _ _ r_hz hf
      have hf : fF_Machine_perform_s_11 145 (f_Machine_perform_s_11 145 nn11) x2 x4 x5 hz = some (rv, rg) := hf
      unfold fF_Machine_perform_s_11 at hf
      refine mv_iload (pc := 11) B d_Machine_perform_11 3 rfl ?_
      refine mv_aload_n (pc := 13) B d_Machine_perform_13 rfl 0 rfl ?_
      refine mv_getR (pc := 14) (ci := 9) (C := R_Machine) (T := F_Machine) (N := 13) B 0 rfl rfl (by decide) i_Machine (B.2.2.2.1 _ k_440) rfl ((congrFun (congrFun r_hz 64) 0).trans hb.2.2) d_Machine_perform_14 ?_
      refine mv_getI (pc := 17) (ci := 7) (C := R_Program) (T := F_Program) (N := 19) B 17 rfl rfl (by decide) i_Program (B.2.2.2.1 _ k_362) rfl d_Machine_perform_17 ?_
      refine mv_icmp_ge (pc := 20) (tgt := 241) B d_Machine_perform_20 rfl (fun h20 => ?_) (fun h20 => ?_)
      · skip
        have hf := xif_t h20 hf
        refine mv_lpick [] rfl ?_
        exact jn241  _ r_hz hf
      · skip
        have hf := xif_f h20 hf
        refine mv_iload (pc := 23) B d_Machine_perform_23 2 rfl ?_
        refine mv_aload_n (pc := 25) B d_Machine_perform_25 rfl 0 rfl ?_
        refine mv_getR (pc := 26) (ci := 9) (C := R_Machine) (T := F_Machine) (N := 13) B 0 rfl rfl (by decide) i_Machine (B.2.2.2.1 _ k_440) rfl ((congrFun (congrFun r_hz 64) 0).trans hb.2.2) d_Machine_perform_26 ?_
        refine mv_getI (pc := 29) (ci := 7) (C := R_Program) (T := F_Program) (N := 19) B 17 rfl rfl (by decide) i_Program (B.2.2.2.1 _ k_362) rfl d_Machine_perform_29 ?_
        refine mv_icmp_ge (pc := 32) (tgt := 241) B d_Machine_perform_32 rfl (fun h32 => ?_) (fun h32 => ?_)
        · skip
          have hf := xif_t h32 hf
          refine mv_lpick [] rfl ?_
          exact jn241  _ r_hz hf
        · skip
          have hf := xif_f h32 hf
          refine mv_aload_n (pc := 35) B d_Machine_perform_35 rfl 0 rfl ?_
          refine mv_getR (pc := 36) (ci := 9) (C := R_Machine) (T := F_Machine) (N := 13) B 0 rfl rfl (by decide) i_Machine (B.2.2.2.1 _ k_440) rfl ((congrFun (congrFun r_hz 64) 0).trans hb.2.2) d_Machine_perform_36 ?_
          refine mv_getR (pc := 39) (ci := 7) (C := R_Program) (T := F_Program) (N := 19) B 15 rfl rfl (by decide) i_Program (B.2.2.2.1 _ k_358) rfl ((congrFun (congrFun r_hz 145) 15).trans (hb.2.1 145 15 154 rfl)) d_Machine_perform_39 ?_
          refine mv_iload (pc := 42) B d_Machine_perform_42 2 rfl ?_
          obtain ⟨q4, hf⟩ := xvi_e hf
          refine mv_iald (pc := 44) B rfl q4 d_Machine_perform_44 ?_
          refine mv_istore (pc := 45) B d_Machine_perform_45 (by decide) rfl ?_
          refine mv_aload_n (pc := 47) B d_Machine_perform_47 rfl 1 rfl ?_
          refine mv_getR (pc := 48) (ci := 9) (C := R_Machine) (T := F_Machine) (N := 13) B 0 rfl rfl (by decide) i_Machine (B.2.2.2.1 _ k_440) rfl ((congrFun (congrFun r_hz 64) 0).trans hb.2.2) d_Machine_perform_48 ?_
          refine mv_getR (pc := 51) (ci := 7) (C := R_Program) (T := F_Program) (N := 19) B 16 rfl rfl (by decide) i_Program (B.2.2.2.1 _ k_360) rfl ((congrFun (congrFun r_hz 145) 16).trans (hb.2.1 145 16 155 rfl)) d_Machine_perform_51 ?_
          refine mv_iload (pc := 54) B d_Machine_perform_54 3 rfl ?_
          obtain ⟨q5, hf⟩ := xvi_e hf
          refine mv_lald (pc := 56) B rfl q5 d_Machine_perform_56 ?_
          refine mv_lstore (pc := 57) B d_Machine_perform_57 (by decide) rfl ?_
          refine mv_iinc (pc := 59) (j := 4) (v := 1) B d_Machine_perform_59 rfl (by decide) (by decide) rfl ?_
          refine mv_iload (pc := 62) B d_Machine_perform_62 2 rfl ?_
          refine mv_tsw (pc := 64) B d_Machine_perform_64 (by decide) (by decide) ?_
          refine ⟨fun h64 => ?_, fun h64n301 => ?_⟩
          · skip
            have hf := xif_t h64 hf
            show mv_V _ _ _ _ _ _ _ _ _ _ _ _ _ _ _ _ 199 _ _
            refine mv_aload_n (pc := 199) B d_Machine_perform_199 rfl 3 rfl ?_
            refine mv_lload_n (pc := 200) B d_Machine_perform_200 rfl 4 rfl ?_
            refine mv_lload (pc := 201) B d_Machine_perform_201 1 rfl ?_
            obtain ⟨v7, g6, eg6, hf⟩ := xhb_e hf
            refine mv_callSl (pc := 203) (n := 2) B (mK_ok sk sv) hNs (ch_Bits_gather l hi _ _ _ eg6) rfl (ma_goodc kc_Bits_gather) (B.2.2.2.1 _ k_1581) (B.2.2.2.1 _ k_1582) (B.2.2.2.1 _ k_33) ⟨by decide +kernel, by decide +kernel, by decide +kernel⟩ rfl d_Machine_perform_203 rfl (Nat.le_of_ble_eq_true rfl) ⟨by decide, by decide⟩ ⟨by decide, by decide⟩ ⟨by decide, by decide⟩ (mv_noH hno _) (fun w203 σ203 h203 => ?_)
            obtain ⟨rfl, rfl, s_g6⟩ := h203
            have r_g6 : mv_r g6 = mv_r h := s_g6.trans r_hz
            obtain ⟨g8, eg8, hf⟩ := xhv_e hf
            refine mv_callVv (pc := 206) (n := 1) (ci := 9) (C := R_Machine) B (mK_ok sk sv) hNs rfl rfl (ch_Machine_push_s_c l hi _ (xrw r_g6 hb) _ eg8) rfl (ma_goodc kc_Machine_push) (B.2.2.2.1 _ k_1584) (B.2.2.2.1 _ k_1586) (B.2.2.2.1 _ ks_70) (B.2.2.2.1 _ k_11) ⟨by decide +kernel, by decide +kernel, by decide +kernel⟩ rfl d_Machine_perform_206 rfl (Nat.le_of_ble_eq_true rfl) ⟨by decide, by decide⟩ ⟨by decide, by decide⟩ ⟨by decide, by decide⟩ (mv_noH hno _) (fun σ206 h206 => ?_)
            obtain ⟨rfl, s_g8⟩ := h206
            have r_g8 : mv_r g8 = mv_r h := s_g8.trans r_g6
            refine mv_goto (pc := 209) (tgt := 235) B d_Machine_perform_209 rfl ?_
            refine mv_lpick [3, 4, 0, 5] rfl ?_
            exact jn235 _ _ _ _ r_g8 hf
          have hf := xif_f h64n301 hf
          refine ⟨fun h64 => ?_, fun h64n302 => ?_⟩
          · skip
            have hf := xif_t h64 hf
            show mv_V _ _ _ _ _ _ _ _ _ _ _ _ _ _ _ _ 227 _ _
            refine mv_lpick [3, 4, 0, 5, 2, 1] rfl ?_
            exact jn227 _ _ _ _ _ _ r_hz hf
          have hf := xif_f h64n302 hf
          refine ⟨fun h64 => ?_, fun h64n303 => ?_⟩
          · skip
            have hf := xif_t h64 hf
            show mv_V _ _ _ _ _ _ _ _ _ _ _ _ _ _ _ _ 227 _ _
            refine mv_lpick [3, 4, 0, 5, 2, 1] rfl ?_
            exact jn227 _ _ _ _ _ _ r_hz hf
          have hf := xif_f h64n303 hf
          refine ⟨fun h64 => ?_, fun h64n304 => ?_⟩
          · skip
            have hf := xif_t h64 hf
            show mv_V _ _ _ _ _ _ _ _ _ _ _ _ _ _ _ _ 212 _ _
            refine mv_lpick [3, 4, 0, 5, 2, 1] rfl ?_
            exact jn212 _ _ _ _ _ _ r_hz hf
          have hf := xif_f h64n304 hf
          refine ⟨fun h64 => ?_, fun h64n305 => ?_⟩
          · skip
            have hf := xif_t h64 hf
            show mv_V _ _ _ _ _ _ _ _ _ _ _ _ _ _ _ _ 227 _ _
            refine mv_lpick [3, 4, 0, 5, 2, 1] rfl ?_
            exact jn227 _ _ _ _ _ _ r_hz hf
          have hf := xif_f h64n305 hf
          refine ⟨fun h64 => ?_, fun h64n306 => ?_⟩
          · skip
            have hf := xif_t h64 hf
            show mv_V _ _ _ _ _ _ _ _ _ _ _ _ _ _ _ _ 227 _ _
            refine mv_lpick [3, 4, 0, 5, 2, 1] rfl ?_
            exact jn227 _ _ _ _ _ _ r_hz hf
          have hf := xif_f h64n306 hf
          refine ⟨fun h64 => ?_, fun h64n307 => ?_⟩
          · skip
            have hf := xif_t h64 hf
            show mv_V _ _ _ _ _ _ _ _ _ _ _ _ _ _ _ _ 227 _ _
            refine mv_lpick [3, 4, 0, 5, 2, 1] rfl ?_
            exact jn227 _ _ _ _ _ _ r_hz hf
          have hf := xif_f h64n307 hf
          refine ⟨fun h64 => ?_, fun h64n308 => ?_⟩
          · skip
            have hf := xif_t h64 hf
            show mv_V _ _ _ _ _ _ _ _ _ _ _ _ _ _ _ _ 227 _ _
            refine mv_lpick [3, 4, 0, 5, 2, 1] rfl ?_
            exact jn227 _ _ _ _ _ _ r_hz hf
          have hf := xif_f h64n308 hf
          refine ⟨fun h64 => ?_, fun h64n309 => ?_⟩
          · skip
            have hf := xif_t h64 hf
            show mv_V _ _ _ _ _ _ _ _ _ _ _ _ _ _ _ _ 227 _ _
            refine mv_lpick [3, 4, 0, 5, 2, 1] rfl ?_
            exact jn227 _ _ _ _ _ _ r_hz hf
          have hf := xif_f h64n309 hf
          refine ⟨fun h64 => ?_, fun h64n310 => ?_⟩
          · skip
            have hf := xif_t h64 hf
            show mv_V _ _ _ _ _ _ _ _ _ _ _ _ _ _ _ _ 227 _ _
            refine mv_lpick [3, 4, 0, 5, 2, 1] rfl ?_
            exact jn227 _ _ _ _ _ _ r_hz hf
          have hf := xif_f h64n310 hf
          refine ⟨fun h64 => ?_, fun h64n311 => ?_⟩
          · skip
            have hf := xif_t h64 hf
            show mv_V _ _ _ _ _ _ _ _ _ _ _ _ _ _ _ _ 154 _ _
            refine mv_lload (pc := 154) B d_Machine_perform_154 1 rfl ?_
            refine mv_l2i (pc := 156) B d_Machine_perform_156 ?_
            refine mv_istore (pc := 157) B d_Machine_perform_157 (by decide) rfl ?_
            refine mv_goto (pc := 159) (tgt := 235) B d_Machine_perform_159 rfl ?_
            refine mv_lpick [3, 4, 0, 5] rfl ?_
            exact jn235 _ _ _ _ r_hz hf
          have hf := xif_f h64n311 hf
          refine ⟨fun h64 => ?_, fun h64n312 => ?_⟩
          · skip
            have hf := xif_t h64 hf
            show mv_V _ _ _ _ _ _ _ _ _ _ _ _ _ _ _ _ 162 _ _
            refine mv_aload_n (pc := 162) B d_Machine_perform_162 rfl 3 rfl ?_
            refine mv_dup (pc := 163) B d_Machine_perform_163 rfl ?_
            refine mv_getI (pc := 164) (ci := 9) (C := R_Machine) (T := F_Machine) (N := 13) B 4 rfl rfl (by decide) i_Machine (B.2.2.2.1 _ k_446) rfl d_Machine_perform_164 ?_
            refine mv_iconst (pc := 167) (v := 1) B d_Machine_perform_167 (by decide) ?_
            refine mv_isub (pc := 168) B d_Machine_perform_168 ?_
            refine mv_putI (pc := 169) (ci := 9) (C := R_Machine) (T := F_Machine) (N := 13) B 4 rfl rfl (by decide) i_Machine t_Machine_ok n_Machine (B.2.2.2.1 _ k_446) rfl rfl rfl rfl d_Machine_perform_169 ?_
            refine mvh_hp (R9 := mv_r h) hf r_hz (fun g9 hf r_g9 => ?_)
            refine mv_aload_n (pc := 172) B d_Machine_perform_172 rfl 3 rfl ?_
            refine mv_getR (pc := 173) (ci := 9) (C := R_Machine) (T := F_Machine) (N := 13) B 3 rfl rfl (by decide) i_Machine (B.2.2.2.1 _ k_445) rfl ((congrFun (congrFun r_g9 64) 3).trans (hb.1 64 3 _ rfl)) d_Machine_perform_173 ?_
            refine mv_aload_n (pc := 176) B d_Machine_perform_176 rfl 3 rfl ?_
            refine mv_getI (pc := 177) (ci := 9) (C := R_Machine) (T := F_Machine) (N := 13) B 4 rfl rfl (by decide) i_Machine (B.2.2.2.1 _ k_446) rfl d_Machine_perform_177 ?_
            obtain ⟨q10, hf⟩ := xvi_e hf
            refine mv_lald (pc := 180) B rfl q10 d_Machine_perform_180 ?_
            refine mv_lconst (pc := 181) (v := 0) B d_Machine_perform_181 (by decide) ?_
            refine mv_lcmp (pc := 182) B d_Machine_perform_182 ?_
            refine mv_if_ne (pc := 183) (tgt := 192) B d_Machine_perform_183 rfl (fun h183 => ?_) (fun h183 => ?_)
            · skip
              have hf := xif_f h183 hf
              refine mv_iload (pc := 192) B d_Machine_perform_192 0 rfl ?_
              refine mv_lpick [3, 4, 5] rfl ?_
              exact jn194 _ _ _ _ r_g9 hf
            · skip
              have hf := xif_t h183 hf
              refine mv_lload (pc := 186) B d_Machine_perform_186 1 rfl ?_
              refine mv_l2i (pc := 188) B d_Machine_perform_188 ?_
              refine mv_goto (pc := 189) (tgt := 194) B d_Machine_perform_189 rfl ?_
              refine mv_lpick [3, 4, 5] rfl ?_
              exact jn194 _ _ _ _ r_g9 hf
          have hf := xif_f h64n312 hf
          refine ⟨fun h64 => ?_, fun h64n313 => ?_⟩
          · skip
            have hf := xif_t h64 hf
            show mv_V _ _ _ _ _ _ _ _ _ _ _ _ _ _ _ _ 227 _ _
            refine mv_lpick [3, 4, 0, 5, 2, 1] rfl ?_
            exact jn227 _ _ _ _ _ _ r_hz hf
          have hf := xif_f h64n313 hf
          refine ⟨fun h64 => ?_, fun h64n314 => ?_⟩
          · skip
            have hf := xif_t h64 hf
            show mv_V _ _ _ _ _ _ _ _ _ _ _ _ _ _ _ _ 227 _ _
            refine mv_lpick [3, 4, 0, 5, 2, 1] rfl ?_
            exact jn227 _ _ _ _ _ _ r_hz hf
          have hf := xif_f h64n314 hf
          refine ⟨fun h64 => ?_, fun h64n315 => ?_⟩
          · skip
            have hf := xif_t h64 hf
            show mv_V _ _ _ _ _ _ _ _ _ _ _ _ _ _ _ _ 212 _ _
            refine mv_lpick [3, 4, 0, 5, 2, 1] rfl ?_
            exact jn212 _ _ _ _ _ _ r_hz hf
          have hf := xif_f h64n315 hf
          refine ⟨fun h64 => ?_, fun h64n316 => ?_⟩
          · skip
            have hf := xif_t h64 hf
            show mv_V _ _ _ _ _ _ _ _ _ _ _ _ _ _ _ _ 150 _ _
            refine mv_lload (pc := 150) B d_Machine_perform_150 1 rfl ?_
            refine mv_l2i (pc := 152) B d_Machine_perform_152 ?_
            exact mv_iret (pc := 153) B hr rfl d_Machine_perform_153 (Nat.le_refl _) (Nat.le_refl _) ⟨_, rfl, xrh_i hf r_hz⟩
          have hf := xif_f h64n316 hf
          refine ⟨fun h64 => ?_, fun h64n317 => ?_⟩
          · skip
            have hf := xif_t h64 hf
            show mv_V _ _ _ _ _ _ _ _ _ _ _ _ _ _ _ _ 148 _ _
            refine mv_iconst (pc := 148) (v := 0) B d_Machine_perform_148 (by decide) ?_
            exact mv_iret (pc := 149) B hr rfl d_Machine_perform_149 (Nat.le_refl _) (Nat.le_refl _) ⟨_, rfl, xrh_i hf r_hz⟩
          have hf := xif_f h64n317 hf
          show mv_V _ _ _ _ _ _ _ _ _ _ _ _ _ _ _ _ 227 _ _
          refine mv_lpick [3, 4, 0, 5, 2, 1] rfl ?_
          exact jn227 _ _ _ _ _ _ r_hz hf
  unfold f_Machine_perform_s at hf
  refine mv_aload_n (pc := 0) B d_Machine_perform_0 rfl 0 rfl ?_
  refine mv_iconst (pc := 1) (v := 0) B d_Machine_perform_1 (by decide) ?_
  refine mv_putI (pc := 2) (ci := 9) (C := R_Machine) (T := F_Machine) (N := 13) B 4 rfl rfl (by decide) i_Machine t_Machine_ok n_Machine (B.2.2.2.1 _ k_446) rfl rfl rfl rfl d_Machine_perform_2 ?_
  refine mvh_hp (R9 := mv_r h) hf rfl (fun g11 hf r_g11 => ?_)
  refine mv_iload_n (pc := 5) B d_Machine_perform_5 rfl 1 rfl ?_
  refine mv_istore (pc := 6) B d_Machine_perform_6 (by decide) rfl ?_
  refine mv_iconst (pc := 8) (v := 0) B d_Machine_perform_8 (by decide) ?_
  refine mv_istore (pc := 9) B d_Machine_perform_9 (by decide) rfl ?_
  refine mv_lpick [2, 4, 1, 0] rfl ?_
  exact lp11 _ _ _ _ _ r_g11 hf
def f_Machine_goForth_s (P : Nat) (h : mv_H) : Option mv_H := if (mv_i h P 8) < (0 : Int32) then (some h) else (if (mv_i h 64 8) = (0 : Int32) then (bif xvi (mv_i h P 8) 64 then bif xvi (mv_a h (P + 3) ((mv_i h P 8)).toNatClampNeg) 65600 then xhv (f_Machine_put_s P h (mv_i h P 8) (0 : Int32) ((mv_b h 65 ((mv_a h (P + 3) ((mv_i h P 8)).toNatClampNeg)).toNatClampNeg) + ((((mv_i h P 0) / (8 : Int32))).toInt64))) fun g3 => some g3 else none else none) else (some h))
set_option maxHeartbeats 4000000 in
set_option maxRecDepth 100000 in
theorem ch_Machine_goForth_s_c (l : Launch) {dA : FieldType → ClassId} {D : va_G} {al : Nat → Nat} {sk sv : Nat → Nat} (hi : mv_inj (mg dA D al me)) (h : mv_H) (hb : Rf 145 (mv_r h))  {rg : mv_H} (hf : f_Machine_goForth_s 145 h = some rg) : mv_C l y_Machine_goForth (Cond.code y_Machine_goForth b_Machine_goForth 2 (Option.none : Option Jvm.ClassFile.FieldType) :: ma) ({ frames := 2, cells := 0, slots := 0, locals := 44 }) (mg dA D al me) (mK sk sv) [.ref (al 64)] h (mv_Rv (fun σ1 => rg = σ1 ∧ mv_r σ1 = mv_r h)) := by
  refine mv_C.ofV (cc := b_Machine_goForth) (nL := 2) (ret := (Option.none : Option Jvm.ClassFile.FieldType)) (by decide +kernel) rfl hi (Nat.le_of_ble_eq_true rfl) ?_
  intro p e s m below meth c B hNs hr hnm hno
  unfold f_Machine_goForth_s at hf
  refine mv_aload_n (pc := 0) B d_Machine_goForth_0 rfl 0 rfl ?_
  refine mv_getR (pc := 1) (ci := 9) (C := R_Machine) (T := F_Machine) (N := 13) B 0 rfl rfl (by decide) i_Machine (B.2.2.2.1 _ k_440) rfl hb.2.2 d_Machine_goForth_1 ?_
  refine mv_getI (pc := 4) (ci := 7) (C := R_Program) (T := F_Program) (N := 19) B 8 rfl rfl (by decide) i_Program (B.2.2.2.1 _ k_338) rfl d_Machine_goForth_4 ?_
  refine mv_istore_n (pc := 7) B d_Machine_goForth_7 rfl (by decide) rfl ?_
  refine mv_iload_n (pc := 8) B d_Machine_goForth_8 rfl 0 rfl ?_
  refine mv_if_lt (pc := 9) (tgt := 51) B d_Machine_goForth_9 rfl (fun h9 => ?_) (fun h9 => ?_)
  · skip
    have hf := xif_t h9 hf
    exact mv_vret (pc := 51) B hr d_Machine_goForth_51 (Nat.le_refl _) (Nat.le_refl _) ⟨rfl, xrh_v hf rfl⟩
  · skip
    have hf := xif_f h9 hf
    refine mv_aload_n (pc := 12) B d_Machine_goForth_12 rfl 1 rfl ?_
    refine mv_getI (pc := 13) (ci := 9) (C := R_Machine) (T := F_Machine) (N := 13) B 8 rfl rfl (by decide) i_Machine (B.2.2.2.1 _ k_450) rfl d_Machine_goForth_13 ?_
    refine mv_if_ne (pc := 16) (tgt := 51) B d_Machine_goForth_16 rfl (fun h16 => ?_) (fun h16 => ?_)
    · skip
      have hf := xif_f h16 hf
      exact mv_vret (pc := 51) B hr d_Machine_goForth_51 (Nat.le_refl _) (Nat.le_refl _) ⟨rfl, xrh_v hf rfl⟩
    · skip
      have hf := xif_t h16 hf
      refine mv_aload_n (pc := 19) B d_Machine_goForth_19 rfl 1 rfl ?_
      refine mv_iload_n (pc := 20) B d_Machine_goForth_20 rfl 0 rfl ?_
      refine mv_iconst (pc := 21) (v := 0) B d_Machine_goForth_21 (by decide) ?_
      refine mv_aload_n (pc := 22) B d_Machine_goForth_22 rfl 1 rfl ?_
      refine mv_getR (pc := 23) (ci := 9) (C := R_Machine) (T := F_Machine) (N := 13) B 1 rfl rfl (by decide) i_Machine (B.2.2.2.1 _ k_442) rfl (hb.1 64 1 _ rfl) d_Machine_goForth_23 ?_
      refine mv_aload_n (pc := 26) B d_Machine_goForth_26 rfl 1 rfl ?_
      refine mv_getR (pc := 27) (ci := 9) (C := R_Machine) (T := F_Machine) (N := 13) B 0 rfl rfl (by decide) i_Machine (B.2.2.2.1 _ k_440) rfl hb.2.2 d_Machine_goForth_27 ?_
      refine mv_getR (pc := 30) (ci := 7) (C := R_Program) (T := F_Program) (N := 19) B 4 rfl rfl (by decide) i_Program (B.2.2.2.1 _ k_327) rfl (hb.2.1 145 4 148 rfl) d_Machine_goForth_30 ?_
      refine mv_iload_n (pc := 33) B d_Machine_goForth_33 rfl 0 rfl ?_
      obtain ⟨q1, hf⟩ := xvi_e hf
      refine mv_iald (pc := 34) B rfl q1 d_Machine_goForth_34 ?_
      obtain ⟨q2, hf⟩ := xvi_e hf
      refine mv_lald (pc := 35) B rfl q2 d_Machine_goForth_35 ?_
      refine mv_aload_n (pc := 36) B d_Machine_goForth_36 rfl 1 rfl ?_
      refine mv_getR (pc := 37) (ci := 9) (C := R_Machine) (T := F_Machine) (N := 13) B 0 rfl rfl (by decide) i_Machine (B.2.2.2.1 _ k_440) rfl hb.2.2 d_Machine_goForth_37 ?_
      refine mv_getI (pc := 40) (ci := 7) (C := R_Program) (T := F_Program) (N := 19) B 0 rfl rfl (by decide) i_Program (B.2.2.2.1 _ k_312) rfl d_Machine_goForth_40 ?_
      refine mv_bipush (pc := 43) (v := 8) B d_Machine_goForth_43 (by decide) ?_
      refine mv_idiv (pc := 45) B d_Machine_goForth_45 (by decide) ?_
      refine mv_i2l (pc := 46) B d_Machine_goForth_46 ?_
      refine mv_ladd (pc := 47) B d_Machine_goForth_47 ?_
      obtain ⟨g3, eg3, hf⟩ := xhv_e hf
      refine mv_callVv (pc := 48) (n := 3) (ci := 9) (C := R_Machine) B (mK_ok sk sv) hNs rfl rfl (ch_Machine_put_s_c l hi _ (hb) _ _ _ eg3) rfl (ma_goodc kc_Machine_put) (B.2.2.2.1 _ k_1600) (B.2.2.2.1 _ k_1601) (B.2.2.2.1 _ k_1602) (B.2.2.2.1 _ k_11) ⟨by decide +kernel, by decide +kernel, by decide +kernel⟩ rfl d_Machine_goForth_48 rfl (Nat.le_of_ble_eq_true rfl) ⟨by decide, by decide⟩ ⟨by decide, by decide⟩ ⟨by decide, by decide⟩ (mv_noH hno _) (fun σ48 h48 => ?_)
      obtain ⟨rfl, s_g3⟩ := h48
      have r_g3 : mv_r g3 = mv_r h := s_g3.trans rfl
      exact mv_vret (pc := 51) B hr d_Machine_goForth_51 (Nat.le_refl _) (Nat.le_refl _) ⟨rfl, xrh_v hf r_g3⟩
def fF_Machine_undo_s_7 (P : Nat) (k7 : Int32 → mv_H → Option mv_H) (x1 : Int32) (hz : mv_H) : Option mv_H := if x1 < (0 : Int32) then (some hz) else (bif xvi x1 8193 then bif xvi x1 8193 then bif xvi (mv_a hz 68 (x1).toNatClampNeg) 65600 then xk (mv_sb hz 65 ((mv_a hz 68 (x1).toNatClampNeg)).toNatClampNeg (mv_b hz 69 (x1).toNatClampNeg)) fun g4 => k7 (x1 + (-1)) g4 else none else none else none)
def f_Machine_undo_s_7 (P : Nat) : Nat → Int32 → mv_H → Option mv_H
  | 0 => fun _ _ => none
  | nn + 1 => fF_Machine_undo_s_7 P (f_Machine_undo_s_7 P nn)
def f_Machine_undo_s (P : Nat) (h : mv_H) : Option mv_H := f_Machine_undo_s_7 P 200000 ((mv_i h 64 7) - (1 : Int32)) h
set_option maxHeartbeats 4000000 in
set_option maxRecDepth 100000 in
theorem ch_Machine_undo_s_c (l : Launch) {dA : FieldType → ClassId} {D : va_G} {al : Nat → Nat} {sk sv : Nat → Nat} (hi : mv_inj (mg dA D al me)) (h : mv_H) (hb : Rf 145 (mv_r h))  {rg : mv_H} (hf : f_Machine_undo_s 145 h = some rg) : mv_C l y_Machine_undo (Cond.code y_Machine_undo b_Machine_undo 2 (Option.none : Option Jvm.ClassFile.FieldType) :: ma) ({ frames := 0, cells := 0, slots := 0, locals := 0 }) (mg dA D al me) (mK sk sv) [.ref (al 64)] h (mv_Rv (fun σ1 => rg = σ1 ∧ mv_r σ1 = mv_r h)) := by
  refine mv_C.ofV (cc := b_Machine_undo) (nL := 2) (ret := (Option.none : Option Jvm.ClassFile.FieldType)) (by decide +kernel) rfl hi (Nat.le_of_ble_eq_true rfl) ?_
  intro p e s m below meth c B hNs hr hnm hno
  have lp7 : ∀ (nn7 : Nat) (x1 : Int32) (hz : mv_H), mv_r hz = mv_r h → f_Machine_undo_s_7 145 nn7 x1 hz = some rg → mv_V p l e ({ frames := 0, cells := 0, slots := 0, locals := 0 }) s m ([.ref (al 64)] : List Value).toArray below meth c (mg dA D al me) 2 0 0 (mv_Q (mg dA D al me) below s 0 0 (mv_Rv (fun σ1 => rg = σ1 ∧ mv_r σ1 = mv_r h))) hz 7 [(0, .ref (al 64)), (1, .int x1)] [] := by
    intro nn7
    induction nn7 with
    | zero => intro x1 hz r_hz hf; cases hf
    | succ nn7 ih7 =>
      intro x1 hz r_hz hf
      have hf : fF_Machine_undo_s_7 145 (f_Machine_undo_s_7 145 nn7) x1 hz = some rg := hf
      unfold fF_Machine_undo_s_7 at hf
      refine mv_iload_n (pc := 7) B d_Machine_undo_7 rfl 1 rfl ?_
      refine mv_if_lt (pc := 8) (tgt := 34) B d_Machine_undo_8 rfl (fun h8 => ?_) (fun h8 => ?_)
      · skip
        have hf := xif_t h8 hf
        exact mv_vret (pc := 34) B hr d_Machine_undo_34 (Nat.le_refl _) (Nat.le_refl _) ⟨rfl, xrh_v hf r_hz⟩
      · skip
        have hf := xif_f h8 hf
        refine mv_aload_n (pc := 11) B d_Machine_undo_11 rfl 0 rfl ?_
        refine mv_getR (pc := 12) (ci := 9) (C := R_Machine) (T := F_Machine) (N := 13) B 1 rfl rfl (by decide) i_Machine (B.2.2.2.1 _ k_442) rfl ((congrFun (congrFun r_hz 64) 1).trans (hb.1 64 1 _ rfl)) d_Machine_undo_12 ?_
        refine mv_aload_n (pc := 15) B d_Machine_undo_15 rfl 0 rfl ?_
        refine mv_getR (pc := 16) (ci := 9) (C := R_Machine) (T := F_Machine) (N := 13) B 5 rfl rfl (by decide) i_Machine (B.2.2.2.1 _ k_447) rfl ((congrFun (congrFun r_hz 64) 5).trans (hb.1 64 5 _ rfl)) d_Machine_undo_16 ?_
        refine mv_iload_n (pc := 19) B d_Machine_undo_19 rfl 1 rfl ?_
        obtain ⟨q1, hf⟩ := xvi_e hf
        refine mv_iald (pc := 20) B rfl q1 d_Machine_undo_20 ?_
        refine mv_aload_n (pc := 21) B d_Machine_undo_21 rfl 0 rfl ?_
        refine mv_getR (pc := 22) (ci := 9) (C := R_Machine) (T := F_Machine) (N := 13) B 6 rfl rfl (by decide) i_Machine (B.2.2.2.1 _ k_448) rfl ((congrFun (congrFun r_hz 64) 6).trans (hb.1 64 6 _ rfl)) d_Machine_undo_22 ?_
        refine mv_iload_n (pc := 25) B d_Machine_undo_25 rfl 1 rfl ?_
        obtain ⟨q2, hf⟩ := xvi_e hf
        refine mv_lald (pc := 26) B rfl q2 d_Machine_undo_26 ?_
        obtain ⟨q3, hf⟩ := xvi_e hf
        refine mv_last (pc := 27) B rfl q3 d_Machine_undo_27 ?_
        refine mvh_hp (R9 := mv_r h) hf r_hz (fun g4 hf r_g4 => ?_)
        refine mv_iinc (pc := 28) (j := 1) (v := -1) B d_Machine_undo_28 rfl (by decide) (by decide) rfl ?_
        refine mv_goto (pc := 31) (tgt := 7) B d_Machine_undo_31 rfl ?_
        refine mv_lpick [1, 0] rfl ?_
        exact ih7 _ _ r_g4 hf
  unfold f_Machine_undo_s at hf
  refine mv_aload_n (pc := 0) B d_Machine_undo_0 rfl 0 rfl ?_
  refine mv_getI (pc := 1) (ci := 9) (C := R_Machine) (T := F_Machine) (N := 13) B 7 rfl rfl (by decide) i_Machine (B.2.2.2.1 _ k_449) rfl d_Machine_undo_1 ?_
  refine mv_iconst (pc := 4) (v := 1) B d_Machine_undo_4 (by decide) ?_
  refine mv_isub (pc := 5) B d_Machine_undo_5 ?_
  refine mv_istore_n (pc := 6) B d_Machine_undo_6 rfl (by decide) rfl ?_
  refine mv_lpick [1, 0] rfl ?_
  exact lp7 _ _ _ rfl hf
def f_Machine_opOf_s_96 (P : Nat) (k27 : Int64 → Int32 → Int32 → Int32 → mv_H → Option (Int32 × mv_H)) (x1 : Int64) (x4 : Int32) (x5 : Int32) (x6 : Int32) (hz : mv_H) : Option (Int32 × mv_H) := k27 x1 x4 x5 (x6 + 1) hz
def fF_Machine_opOf_s_27 (P : Nat) (k27 : Int64 → Int32 → Int32 → Int32 → mv_H → Option (Int32 × mv_H)) (x1 : Int64) (x4 : Int32) (x5 : Int32) (x6 : Int32) (hz : mv_H) : Option (Int32 × mv_H) := bif xvi x4 97 then if (mv_a hz (P + 15) (x4).toNatClampNeg) ≤ x6 then (some (x5, hz)) else (bif xvi x6 48 then bif xvi (mv_a hz (P + 12) (x6).toNatClampNeg) 48 then bif xvi (mv_a hz (P + 12) (x6).toNatClampNeg) 48 then if (lg_cmp (x1 &&& (mv_b hz (P + 5) ((mv_a hz (P + 12) (x6).toNatClampNeg)).toNatClampNeg)) (mv_b hz (P + 6) ((mv_a hz (P + 12) (x6).toNatClampNeg)).toNatClampNeg)) = (0 : Int32) then (if x5 < (0 : Int32) then (f_Machine_opOf_s_96 P k27 x1 x4 (mv_a hz (P + 12) (x6).toNatClampNeg) x6 hz) else (xk (mv_si hz 64 12 ((mv_i hz 64 12) + (1 : Int32))) fun g5 => f_Machine_opOf_s_96 P k27 x1 x4 x5 x6 g5)) else (f_Machine_opOf_s_96 P k27 x1 x4 x5 x6 hz) else none else none else none) else none
def f_Machine_opOf_s_27 (P : Nat) : Nat → Int64 → Int32 → Int32 → Int32 → mv_H → Option (Int32 × mv_H)
  | 0 => fun _ _ _ _ _ => none
  | nn + 1 => fF_Machine_opOf_s_27 P (f_Machine_opOf_s_27 P nn)
def f_Machine_opOf_s (P : Nat) (h : mv_H) (a0 : Int64) : Option (Int32 × mv_H) := xhb (f_Tree_leafOf_s P h a0) fun v7 g6 => bif xvi v7 97 then f_Machine_opOf_s_27 P 200000 a0 v7 (-1 : Int32) (mv_a g6 (P + 14) (v7).toNatClampNeg) g6 else none
set_option maxHeartbeats 4000000 in
set_option maxRecDepth 100000 in
theorem ch_Machine_opOf_s_c (l : Launch) {dA : FieldType → ClassId} {D : va_G} {al : Nat → Nat} {sk sv : Nat → Nat} (hi : mv_inj (mg dA D al me)) (h : mv_H) (hb : Rf 145 (mv_r h))  (a0 : Int64) {rv : Int32} {rg : mv_H} (hf : f_Machine_opOf_s 145 h a0 = some (rv, rg)) : mv_C l y_Machine_opOf (Cond.code y_Machine_opOf b_Machine_opOf 8 (Option.some Jvm.ClassFile.FieldType.int) :: ma) ({ frames := 1, cells := 0, slots := 0, locals := 24 }) (mg dA D al me) (mK sk sv) [.ref (al 64), .long a0] h (mv_Ri (fun v σ1 => rv = v ∧ rg = σ1 ∧ mv_r σ1 = mv_r h)) := by
  refine mv_C.ofV (cc := b_Machine_opOf) (nL := 8) (ret := (Option.some Jvm.ClassFile.FieldType.int)) (by decide +kernel) rfl hi (Nat.le_of_ble_eq_true rfl) ?_
  intro p e s m below meth c B hNs hr hnm hno
  have lp27 : ∀ (nn27 : Nat) (x1 : Int64) (x4 : Int32) (x5 : Int32) (x6 : Int32) (hz : mv_H), mv_r hz = mv_r h → f_Machine_opOf_s_27 145 nn27 x1 x4 x5 x6 hz = some (rv, rg) → mv_V p l e ({ frames := 1, cells := 0, slots := 0, locals := 24 }) s m ([.ref (al 64), .long a0] : List Value).toArray below meth c (mg dA D al me) 8 0 0 (mv_Q (mg dA D al me) below s 0 0 (mv_Ri (fun v σ1 => rv = v ∧ rg = σ1 ∧ mv_r σ1 = mv_r h))) hz 27 [(0, .ref (al 64)), (1, .long x1), (3, .ref (al 156)), (4, .int x4), (5, .int x5), (6, .int x6)] [] := by
    intro nn27
    induction nn27 with
    | zero => intro x1 x4 x5 x6 hz r_hz hf; cases hf
    | succ nn27 ih27 =>
      intro x1 x4 x5 x6 hz r_hz hf
      have jn96 : ∀ (x1 : Int64) (x4 : Int32) (x5 : Int32) (x6 : Int32) (hz : mv_H), mv_r hz = mv_r h → f_Machine_opOf_s_96 145 (f_Machine_opOf_s_27 145 nn27) x1 x4 x5 x6 hz = some (rv, rg) → mv_V p l e ({ frames := 1, cells := 0, slots := 0, locals := 24 }) s m ([.ref (al 64), .long a0] : List Value).toArray below meth c (mg dA D al me) 8 0 0 (mv_Q (mg dA D al me) below s 0 0 (mv_Ri (fun v σ1 => rv = v ∧ rg = σ1 ∧ mv_r σ1 = mv_r h))) hz 96 [(0, .ref (al 64)), (1, .long x1), (3, .ref (al 156)), (4, .int x4), (5, .int x5), (6, .int x6)] [] := by
        intro x1 x4 x5 x6 hz r_hz hf
        unfold f_Machine_opOf_s_96 at hf
        refine mv_iinc (pc := 96) (j := 5) (v := 1) B d_Machine_opOf_96 rfl (by decide) (by decide) rfl ?_
        refine mv_goto (pc := 99) (tgt := 27) B d_Machine_opOf_99 rfl ?_
        refine mv_lpick [1, 2, 3, 4, 5, 0] rfl ?_
        exact ih27 _ _ _ _ _ r_hz hf
      have hf : fF_Machine_opOf_s_27 145 (f_Machine_opOf_s_27 145 nn27) x1 x4 x5 x6 hz = some (rv, rg) := hf
      unfold fF_Machine_opOf_s_27 at hf
      refine mv_iload (pc := 27) B d_Machine_opOf_27 5 rfl ?_
      refine mv_aload_n (pc := 29) B d_Machine_opOf_29 rfl 2 rfl ?_
      refine mv_getR (pc := 30) (ci := 8) (C := R_Tree) (T := F_Tree) (N := 5) B 3 rfl rfl (by decide) i_Tree (B.2.2.2.1 _ k_297) rfl ((congrFun (congrFun r_hz 156) 3).trans (hb.2.1 156 3 160 rfl)) d_Machine_opOf_30 ?_
      refine mv_iload (pc := 33) B d_Machine_opOf_33 3 rfl ?_
      obtain ⟨q1, hf⟩ := xvi_e hf
      refine mv_iald (pc := 35) B rfl q1 d_Machine_opOf_35 ?_
      refine mv_icmp_ge (pc := 36) (tgt := 102) B d_Machine_opOf_36 rfl (fun h36 => ?_) (fun h36 => ?_)
      · skip
        have hf := xif_t h36 hf
        refine mv_iload (pc := 102) B d_Machine_opOf_102 4 rfl ?_
        exact mv_iret (pc := 104) B hr rfl d_Machine_opOf_104 (Nat.le_refl _) (Nat.le_refl _) ⟨_, rfl, xrh_i hf r_hz⟩
      · skip
        have hf := xif_f h36 hf
        refine mv_aload_n (pc := 39) B d_Machine_opOf_39 rfl 2 rfl ?_
        refine mv_getR (pc := 40) (ci := 8) (C := R_Tree) (T := F_Tree) (N := 5) B 0 rfl rfl (by decide) i_Tree (B.2.2.2.1 _ k_292) rfl ((congrFun (congrFun r_hz 156) 0).trans (hb.2.1 156 0 157 rfl)) d_Machine_opOf_40 ?_
        refine mv_iload (pc := 43) B d_Machine_opOf_43 5 rfl ?_
        obtain ⟨q2, hf⟩ := xvi_e hf
        refine mv_iald (pc := 45) B rfl q2 d_Machine_opOf_45 ?_
        refine mv_istore (pc := 46) B d_Machine_opOf_46 (by decide) rfl ?_
        refine mv_lload_n (pc := 48) B d_Machine_opOf_48 rfl 2 rfl ?_
        refine mv_aload_n (pc := 49) B d_Machine_opOf_49 rfl 1 rfl ?_
        refine mv_getR (pc := 50) (ci := 9) (C := R_Machine) (T := F_Machine) (N := 13) B 0 rfl rfl (by decide) i_Machine (B.2.2.2.1 _ k_440) rfl ((congrFun (congrFun r_hz 64) 0).trans hb.2.2) d_Machine_opOf_50 ?_
        refine mv_getR (pc := 53) (ci := 7) (C := R_Program) (T := F_Program) (N := 19) B 11 rfl rfl (by decide) i_Program (B.2.2.2.1 _ k_350) rfl ((congrFun (congrFun r_hz 145) 11).trans (hb.2.1 145 11 150 rfl)) d_Machine_opOf_53 ?_
        refine mv_iload (pc := 56) B d_Machine_opOf_56 0 rfl ?_
        obtain ⟨q3, hf⟩ := xvi_e hf
        refine mv_lald (pc := 58) B rfl q3 d_Machine_opOf_58 ?_
        refine mv_land (pc := 59) B d_Machine_opOf_59 ?_
        refine mv_aload_n (pc := 60) B d_Machine_opOf_60 rfl 1 rfl ?_
        refine mv_getR (pc := 61) (ci := 9) (C := R_Machine) (T := F_Machine) (N := 13) B 0 rfl rfl (by decide) i_Machine (B.2.2.2.1 _ k_440) rfl ((congrFun (congrFun r_hz 64) 0).trans hb.2.2) d_Machine_opOf_61 ?_
        refine mv_getR (pc := 64) (ci := 7) (C := R_Program) (T := F_Program) (N := 19) B 12 rfl rfl (by decide) i_Program (B.2.2.2.1 _ k_353) rfl ((congrFun (congrFun r_hz 145) 12).trans (hb.2.1 145 12 151 rfl)) d_Machine_opOf_64 ?_
        refine mv_iload (pc := 67) B d_Machine_opOf_67 0 rfl ?_
        obtain ⟨q4, hf⟩ := xvi_e hf
        refine mv_lald (pc := 69) B rfl q4 d_Machine_opOf_69 ?_
        refine mv_lcmp (pc := 70) B d_Machine_opOf_70 ?_
        refine mv_if_ne (pc := 71) (tgt := 96) B d_Machine_opOf_71 rfl (fun h71 => ?_) (fun h71 => ?_)
        · skip
          have hf := xif_f h71 hf
          refine mv_lpick [1, 2, 3, 4, 5, 6] rfl ?_
          exact jn96 _ _ _ _ _ r_hz hf
        · skip
          have hf := xif_t h71 hf
          refine mv_iload (pc := 74) B d_Machine_opOf_74 5 rfl ?_
          refine mv_if_lt (pc := 76) (tgt := 92) B d_Machine_opOf_76 rfl (fun h76 => ?_) (fun h76 => ?_)
          · skip
            have hf := xif_t h76 hf
            refine mv_iload (pc := 92) B d_Machine_opOf_92 0 rfl ?_
            refine mv_istore (pc := 94) B d_Machine_opOf_94 (by decide) rfl ?_
            refine mv_lpick [2, 3, 4, 5, 0, 6] rfl ?_
            exact jn96 _ _ _ _ _ r_hz hf
          · skip
            have hf := xif_f h76 hf
            refine mv_aload_n (pc := 79) B d_Machine_opOf_79 rfl 1 rfl ?_
            refine mv_dup (pc := 80) B d_Machine_opOf_80 rfl ?_
            refine mv_getI (pc := 81) (ci := 9) (C := R_Machine) (T := F_Machine) (N := 13) B 12 rfl rfl (by decide) i_Machine (B.2.2.2.1 _ k_457) rfl d_Machine_opOf_81 ?_
            refine mv_iconst (pc := 84) (v := 1) B d_Machine_opOf_84 (by decide) ?_
            refine mv_iadd (pc := 85) B d_Machine_opOf_85 ?_
            refine mv_putI (pc := 86) (ci := 9) (C := R_Machine) (T := F_Machine) (N := 13) B 12 rfl rfl (by decide) i_Machine t_Machine_ok n_Machine (B.2.2.2.1 _ k_457) rfl rfl rfl rfl d_Machine_opOf_86 ?_
            refine mvh_hp (R9 := mv_r h) hf r_hz (fun g5 hf r_g5 => ?_)
            refine mv_goto (pc := 89) (tgt := 96) B d_Machine_opOf_89 rfl ?_
            refine mv_lpick [1, 2, 3, 4, 5, 6] rfl ?_
            exact jn96 _ _ _ _ _ r_g5 hf
  unfold f_Machine_opOf_s at hf
  refine mv_aload_n (pc := 0) B d_Machine_opOf_0 rfl 0 rfl ?_
  refine mv_getR (pc := 1) (ci := 9) (C := R_Machine) (T := F_Machine) (N := 13) B 0 rfl rfl (by decide) i_Machine (B.2.2.2.1 _ k_440) rfl hb.2.2 d_Machine_opOf_1 ?_
  refine mv_getR (pc := 4) (ci := 7) (C := R_Program) (T := F_Program) (N := 19) B 18 rfl rfl (by decide) i_Program (B.2.2.2.1 _ k_366) rfl (hb.2.1 145 18 156 rfl) d_Machine_opOf_4 ?_
  refine mv_astore_n (pc := 7) B d_Machine_opOf_7 rfl (by decide) rfl ?_
  refine mv_aload_n (pc := 8) B d_Machine_opOf_8 rfl 0 rfl ?_
  refine mv_lload_n (pc := 9) B d_Machine_opOf_9 rfl 2 rfl ?_
  obtain ⟨v7, g6, eg6, hf⟩ := xhb_e hf
  refine mv_callVi (pc := 10) (n := 1) (ci := 8) (C := R_Tree) B (mK_ok sk sv) hNs rfl rfl (ch_Tree_leafOf_s_c l hi _ (hb) _ eg6) rfl (ma_goodc kc_Tree_leafOf) (B.2.2.2.1 _ k_1564) (B.2.2.2.1 _ k_1565) (B.2.2.2.1 _ k_1566) (B.2.2.2.1 _ k_9) ⟨by decide +kernel, by decide +kernel, by decide +kernel⟩ rfl d_Machine_opOf_10 rfl (Nat.le_of_ble_eq_true rfl) ⟨by decide, by decide⟩ ⟨by decide, by decide⟩ ⟨by decide, by decide⟩ (mv_noH hno _) (fun w10 σ10 h10 => ?_)
  obtain ⟨rfl, rfl, s_g6⟩ := h10
  have r_g6 : mv_r g6 = mv_r h := s_g6.trans rfl
  refine mv_istore (pc := 13) B d_Machine_opOf_13 (by decide) rfl ?_
  refine mv_iconst (pc := 15) (v := -1) B d_Machine_opOf_15 (by decide) ?_
  refine mv_istore (pc := 16) B d_Machine_opOf_16 (by decide) rfl ?_
  refine mv_aload_n (pc := 18) B d_Machine_opOf_18 rfl 2 rfl ?_
  refine mv_getR (pc := 19) (ci := 8) (C := R_Tree) (T := F_Tree) (N := 5) B 2 rfl rfl (by decide) i_Tree (B.2.2.2.1 _ k_295) rfl ((congrFun (congrFun r_g6 156) 2).trans (hb.2.1 156 2 159 rfl)) d_Machine_opOf_19 ?_
  refine mv_iload (pc := 22) B d_Machine_opOf_22 1 rfl ?_
  obtain ⟨q8, hf⟩ := xvi_e hf
  refine mv_iald (pc := 24) B rfl q8 d_Machine_opOf_24 ?_
  refine mv_istore (pc := 25) B d_Machine_opOf_25 (by decide) rfl ?_
  refine mv_lpick [4, 5, 3, 2, 1, 0] rfl ?_
  exact lp27 _ _ _ _ _ _ r_g6 hf
def f_Machine_oneWith_s_40 (P : Nat) (y0 : Int32) (hz : mv_H) : Option mv_H := xk (mv_si hz 64 9 y0) fun g1 => if (mv_i g1 64 9) = (0 : Int32) then (xhv (f_Machine_goForth_s P g1) fun g4 => xk (mv_si g4 64 10 ((mv_i g4 64 10) + (1 : Int32))) fun g5 => some g5) else (xhv (f_Machine_undo_s P g1) fun g2 => xk (mv_si g2 64 11 ((mv_i g2 64 11) + (1 : Int32))) fun g3 => some g3)
def f_Machine_oneWith_s (P : Nat) (h : mv_H) (a0 : Int64) : Option mv_H := xk (mv_si h 64 7 (0 : Int32)) fun g6 => bif xzb (0 : Int32) then xk (mv_si g6 64 8 (0 : Int32)) fun g8 => xhb (f_Machine_opOf_s P g8 a0) fun v10 g9 => if (0 : Int32) ≤ v10 then (bif xvi v10 48 then xhb (f_Machine_perform_s P g9 (mv_a g9 (P + 7) (v10).toNatClampNeg) a0) fun v13 g12 => f_Machine_oneWith_s_40 P v13 g12 else none) else (f_Machine_oneWith_s_40 P (-2 : Int32) g9) else none
set_option maxHeartbeats 4000000 in
set_option maxRecDepth 100000 in
theorem ch_Machine_oneWith_s_c (l : Launch) {dA : FieldType → ClassId} {D : va_G} {al : Nat → Nat} {sk sv : Nat → Nat} (hi : mv_inj (mg dA D al me)) (h : mv_H) (hb : Rf 145 (mv_r h))  (a0 : Int64) {rg : mv_H} (hf : f_Machine_oneWith_s 145 h a0 = some rg) : mv_C l y_Machine_oneWith (Cond.code y_Machine_oneWith b_Machine_oneWith 4 (Option.none : Option Jvm.ClassFile.FieldType) :: ma) ({ frames := 5, cells := 0, slots := 0, locals := 129 }) (mg dA D al me) (mK sk sv) [.ref (al 64), .long a0] h (mv_Rv (fun σ1 => rg = σ1 ∧ mv_r σ1 = mv_r h)) := by
  refine mv_C.ofV (cc := b_Machine_oneWith) (nL := 4) (ret := (Option.none : Option Jvm.ClassFile.FieldType)) (by decide +kernel) rfl hi (Nat.le_of_ble_eq_true rfl) ?_
  intro p e s m below meth c B hNs hr hnm hno
  have jn40 : ∀ (y0 : Int32) (hz : mv_H), mv_r hz = mv_r h → f_Machine_oneWith_s_40 145 y0 hz = some rg → mv_V p l e ({ frames := 5, cells := 0, slots := 0, locals := 129 }) s m ([.ref (al 64), .long a0] : List Value).toArray below meth c (mg dA D al me) 4 0 0 (mv_Q (mg dA D al me) below s 0 0 (mv_Rv (fun σ1 => rg = σ1 ∧ mv_r σ1 = mv_r h))) hz 40 [(0, .ref (al 64))] [.int y0, .ref (al 64)] := by
    intro y0 hz r_hz hf
    unfold f_Machine_oneWith_s_40 at hf
    refine mv_putI (pc := 40) (ci := 9) (C := R_Machine) (T := F_Machine) (N := 13) B 9 rfl rfl (by decide) i_Machine t_Machine_ok n_Machine (B.2.2.2.1 _ k_451) rfl rfl rfl rfl d_Machine_oneWith_40 ?_
    refine mvh_hp (R9 := mv_r h) hf r_hz (fun g1 hf r_g1 => ?_)
    refine mv_aload_n (pc := 43) B d_Machine_oneWith_43 rfl 0 rfl ?_
    refine mv_getI (pc := 44) (ci := 9) (C := R_Machine) (T := F_Machine) (N := 13) B 9 rfl rfl (by decide) i_Machine (B.2.2.2.1 _ k_451) rfl d_Machine_oneWith_44 ?_
    refine mv_if_ne (pc := 47) (tgt := 67) B d_Machine_oneWith_47 rfl (fun h47 => ?_) (fun h47 => ?_)
    · skip
      have hf := xif_f h47 hf
      refine mv_aload_n (pc := 67) B d_Machine_oneWith_67 rfl 0 rfl ?_
      obtain ⟨g2, eg2, hf⟩ := xhv_e hf
      refine mv_callVv (pc := 68) (n := 0) (ci := 9) (C := R_Machine) B (mK_ok sk sv) hNs rfl rfl (ch_Machine_undo_s_c l hi _ (xrw r_g1 hb) eg2) rfl (ma_goodc kc_Machine_undo) (B.2.2.2.1 _ k_1639) (B.2.2.2.1 _ k_1641) (B.2.2.2.1 _ ks_76) (B.2.2.2.1 _ k_11) ⟨by decide +kernel, by decide +kernel, by decide +kernel⟩ rfl d_Machine_oneWith_68 rfl (Nat.le_of_ble_eq_true rfl) ⟨by decide, by decide⟩ ⟨by decide, by decide⟩ ⟨by decide, by decide⟩ (mv_noH hno _) (fun σ68 h68 => ?_)
      obtain ⟨rfl, s_g2⟩ := h68
      have r_g2 : mv_r g2 = mv_r h := s_g2.trans r_g1
      refine mv_aload_n (pc := 71) B d_Machine_oneWith_71 rfl 0 rfl ?_
      refine mv_dup (pc := 72) B d_Machine_oneWith_72 rfl ?_
      refine mv_getI (pc := 73) (ci := 9) (C := R_Machine) (T := F_Machine) (N := 13) B 11 rfl rfl (by decide) i_Machine (B.2.2.2.1 _ k_455) rfl d_Machine_oneWith_73 ?_
      refine mv_iconst (pc := 76) (v := 1) B d_Machine_oneWith_76 (by decide) ?_
      refine mv_iadd (pc := 77) B d_Machine_oneWith_77 ?_
      refine mv_putI (pc := 78) (ci := 9) (C := R_Machine) (T := F_Machine) (N := 13) B 11 rfl rfl (by decide) i_Machine t_Machine_ok n_Machine (B.2.2.2.1 _ k_455) rfl rfl rfl rfl d_Machine_oneWith_78 ?_
      refine mvh_hp (R9 := mv_r h) hf r_g2 (fun g3 hf r_g3 => ?_)
      exact mv_vret (pc := 81) B hr d_Machine_oneWith_81 (Nat.le_refl _) (Nat.le_refl _) ⟨rfl, xrh_v hf r_g3⟩
    · skip
      have hf := xif_t h47 hf
      refine mv_aload_n (pc := 50) B d_Machine_oneWith_50 rfl 0 rfl ?_
      obtain ⟨g4, eg4, hf⟩ := xhv_e hf
      refine mv_callVv (pc := 51) (n := 0) (ci := 9) (C := R_Machine) B (mK_ok sk sv) hNs rfl rfl (ch_Machine_goForth_s_c l hi _ (xrw r_g1 hb) eg4) rfl (ma_goodc kc_Machine_goForth) (B.2.2.2.1 _ k_1635) (B.2.2.2.1 _ k_1637) (B.2.2.2.1 _ ks_75) (B.2.2.2.1 _ k_11) ⟨by decide +kernel, by decide +kernel, by decide +kernel⟩ rfl d_Machine_oneWith_51 rfl (Nat.le_of_ble_eq_true rfl) ⟨by decide, by decide⟩ ⟨by decide, by decide⟩ ⟨by decide, by decide⟩ (mv_noH hno _) (fun σ51 h51 => ?_)
      obtain ⟨rfl, s_g4⟩ := h51
      have r_g4 : mv_r g4 = mv_r h := s_g4.trans r_g1
      refine mv_aload_n (pc := 54) B d_Machine_oneWith_54 rfl 0 rfl ?_
      refine mv_dup (pc := 55) B d_Machine_oneWith_55 rfl ?_
      refine mv_getI (pc := 56) (ci := 9) (C := R_Machine) (T := F_Machine) (N := 13) B 10 rfl rfl (by decide) i_Machine (B.2.2.2.1 _ k_453) rfl d_Machine_oneWith_56 ?_
      refine mv_iconst (pc := 59) (v := 1) B d_Machine_oneWith_59 (by decide) ?_
      refine mv_iadd (pc := 60) B d_Machine_oneWith_60 ?_
      refine mv_putI (pc := 61) (ci := 9) (C := R_Machine) (T := F_Machine) (N := 13) B 10 rfl rfl (by decide) i_Machine t_Machine_ok n_Machine (B.2.2.2.1 _ k_453) rfl rfl rfl rfl d_Machine_oneWith_61 ?_
      refine mvh_hp (R9 := mv_r h) hf r_g4 (fun g5 hf r_g5 => ?_)
      refine mv_goto (pc := 64) (tgt := 81) B d_Machine_oneWith_64 rfl ?_
      exact mv_vret (pc := 81) B hr d_Machine_oneWith_81 (Nat.le_refl _) (Nat.le_refl _) ⟨rfl, xrh_v hf r_g5⟩
  unfold f_Machine_oneWith_s at hf
  refine mv_aload_n (pc := 0) B d_Machine_oneWith_0 rfl 0 rfl ?_
  refine mv_iconst (pc := 1) (v := 0) B d_Machine_oneWith_1 (by decide) ?_
  refine mv_putI (pc := 2) (ci := 9) (C := R_Machine) (T := F_Machine) (N := 13) B 7 rfl rfl (by decide) i_Machine t_Machine_ok n_Machine (B.2.2.2.1 _ k_449) rfl rfl rfl rfl d_Machine_oneWith_2 ?_
  refine mvh_hp (R9 := mv_r h) hf rfl (fun g6 hf r_g6 => ?_)
  refine mv_aload_n (pc := 5) B d_Machine_oneWith_5 rfl 0 rfl ?_
  refine mv_iconst (pc := 6) (v := 0) B d_Machine_oneWith_6 (by decide) ?_
  obtain ⟨q7, hf⟩ := xzb_e hf
  refine mv_putI (pc := 7) (ci := 9) (C := R_Machine) (T := F_Machine) (N := 13) B 8 rfl rfl (by decide) i_Machine t_Machine_ok n_Machine (B.2.2.2.1 _ k_450) rfl rfl (xzb_n q7) (xzb_f q7) d_Machine_oneWith_7 ?_
  refine mvh_hp (R9 := mv_r h) hf r_g6 (fun g8 hf r_g8 => ?_)
  refine mv_aload_n (pc := 10) B d_Machine_oneWith_10 rfl 0 rfl ?_
  refine mv_lload_n (pc := 11) B d_Machine_oneWith_11 rfl 1 rfl ?_
  obtain ⟨v10, g9, eg9, hf⟩ := xhb_e hf
  refine mv_callVi (pc := 12) (n := 1) (ci := 9) (C := R_Machine) B (mK_ok sk sv) hNs rfl rfl (ch_Machine_opOf_s_c l hi _ (xrw r_g8 hb) _ eg9) rfl (ma_goodc kc_Machine_opOf) (B.2.2.2.1 _ k_1576) (B.2.2.2.1 _ k_1561) (B.2.2.2.1 _ k_1562) (B.2.2.2.1 _ k_11) ⟨by decide +kernel, by decide +kernel, by decide +kernel⟩ rfl d_Machine_oneWith_12 rfl (Nat.le_of_ble_eq_true rfl) ⟨by decide, by decide⟩ ⟨by decide, by decide⟩ ⟨by decide, by decide⟩ (mv_noH hno _) (fun w12 σ12 h12 => ?_)
  obtain ⟨rfl, rfl, s_g9⟩ := h12
  have r_g9 : mv_r g9 = mv_r h := s_g9.trans r_g8
  refine mv_istore_n (pc := 15) B d_Machine_oneWith_15 rfl (by decide) rfl ?_
  refine mv_aload_n (pc := 16) B d_Machine_oneWith_16 rfl 1 rfl ?_
  refine mv_iload_n (pc := 17) B d_Machine_oneWith_17 rfl 0 rfl ?_
  refine mv_if_ge (pc := 18) (tgt := 26) B d_Machine_oneWith_18 rfl (fun h18 => ?_) (fun h18 => ?_)
  · skip
    have hf := xif_t h18 hf
    refine mv_aload_n (pc := 26) B d_Machine_oneWith_26 rfl 1 rfl ?_
    refine mv_aload_n (pc := 27) B d_Machine_oneWith_27 rfl 1 rfl ?_
    refine mv_getR (pc := 28) (ci := 9) (C := R_Machine) (T := F_Machine) (N := 13) B 0 rfl rfl (by decide) i_Machine (B.2.2.2.1 _ k_440) rfl ((congrFun (congrFun r_g9 64) 0).trans hb.2.2) d_Machine_oneWith_28 ?_
    refine mv_getR (pc := 31) (ci := 7) (C := R_Program) (T := F_Program) (N := 19) B 13 rfl rfl (by decide) i_Program (B.2.2.2.1 _ k_355) rfl ((congrFun (congrFun r_g9 145) 13).trans (hb.2.1 145 13 152 rfl)) d_Machine_oneWith_31 ?_
    refine mv_iload_n (pc := 34) B d_Machine_oneWith_34 rfl 0 rfl ?_
    obtain ⟨q11, hf⟩ := xvi_e hf
    refine mv_iald (pc := 35) B rfl q11 d_Machine_oneWith_35 ?_
    refine mv_lload_n (pc := 36) B d_Machine_oneWith_36 rfl 2 rfl ?_
    obtain ⟨v13, g12, eg12, hf⟩ := xhb_e hf
    refine mv_callVi (pc := 37) (n := 2) (ci := 9) (C := R_Machine) B (mK_ok sk sv) hNs rfl rfl (ch_Machine_perform_s_c l hi _ (xrw r_g9 hb) _ _ eg12) rfl (ma_goodc kc_Machine_perform) (B.2.2.2.1 _ k_1577) (B.2.2.2.1 _ k_1579) (B.2.2.2.1 _ ks_69) (B.2.2.2.1 _ k_11) ⟨by decide +kernel, by decide +kernel, by decide +kernel⟩ rfl d_Machine_oneWith_37 rfl (Nat.le_of_ble_eq_true rfl) ⟨by decide, by decide⟩ ⟨by decide, by decide⟩ ⟨by decide, by decide⟩ (mv_noH hno _) (fun w37 σ37 h37 => ?_)
    obtain ⟨rfl, rfl, s_g12⟩ := h37
    have r_g12 : mv_r g12 = mv_r h := s_g12.trans r_g9
    refine mv_lpick [1] rfl ?_
    exact jn40 _ _ r_g12 hf
  · skip
    have hf := xif_f h18 hf
    refine mv_bipush (pc := 21) (v := -2) B d_Machine_oneWith_21 (by decide) ?_
    refine mv_goto (pc := 23) (tgt := 40) B d_Machine_oneWith_23 rfl ?_
    refine mv_lpick [1] rfl ?_
    exact jn40 _ _ r_g9 hf
def fF_Machine_wordAt_s_7 (P : Nat) (k7 : Int32 → Int64 → Int32 → mv_H → Option (Int64 × mv_H)) (x1 : Int32) (x3 : Int64) (x5 : Int32) (hz : mv_H) : Option (Int64 × mv_H) := if x5 < (0 : Int32) then (some (x3, hz)) else (bif xvi (x1 + x5) 65600 then k7 x1 ((x3 <<< (((8 : Int32)).toInt64 &&& 63)) ||| (mv_b hz 65 ((x1 + x5)).toNatClampNeg)) (x5 + (-1)) hz else none)
def f_Machine_wordAt_s_7 (P : Nat) : Nat → Int32 → Int64 → Int32 → mv_H → Option (Int64 × mv_H)
  | 0 => fun _ _ _ _ => none
  | nn + 1 => fF_Machine_wordAt_s_7 P (f_Machine_wordAt_s_7 P nn)
def f_Machine_wordAt_s (P : Nat) (h : mv_H) (a0 : Int32) (a1 : Int32) : Option (Int64 × mv_H) := f_Machine_wordAt_s_7 P 200000 a0 (0 : Int64) (a1 - (1 : Int32)) h
set_option maxHeartbeats 4000000 in
set_option maxRecDepth 100000 in
theorem ch_Machine_wordAt_s_c (l : Launch) {dA : FieldType → ClassId} {D : va_G} {al : Nat → Nat} {sk sv : Nat → Nat} (hi : mv_inj (mg dA D al me)) (h : mv_H) (hb : Rf 145 (mv_r h))  (a0 : Int32) (a1 : Int32) {rv : Int64} {rg : mv_H} (hf : f_Machine_wordAt_s 145 h a0 a1 = some (rv, rg)) : mv_C l y_Machine_wordAt (Cond.code y_Machine_wordAt b_Machine_wordAt 6 (Option.some Jvm.ClassFile.FieldType.long) :: ma) ({ frames := 0, cells := 0, slots := 0, locals := 0 }) (mg dA D al me) (mK sk sv) [.ref (al 64), .int a0, .int a1] h (mv_Rl (fun v σ1 => rv = v ∧ rg = σ1 ∧ mv_r σ1 = mv_r h)) := by
  refine mv_C.ofV (cc := b_Machine_wordAt) (nL := 6) (ret := (Option.some Jvm.ClassFile.FieldType.long)) (by decide +kernel) rfl hi (Nat.le_of_ble_eq_true rfl) ?_
  intro p e s m below meth c B hNs hr hnm hno
  have lp7 : ∀ (nn7 : Nat) (x1 : Int32) (x3 : Int64) (x5 : Int32) (hz : mv_H), mv_r hz = mv_r h → f_Machine_wordAt_s_7 145 nn7 x1 x3 x5 hz = some (rv, rg) → mv_V p l e ({ frames := 0, cells := 0, slots := 0, locals := 0 }) s m ([.ref (al 64), .int a0, .int a1] : List Value).toArray below meth c (mg dA D al me) 6 0 0 (mv_Q (mg dA D al me) below s 0 0 (mv_Rl (fun v σ1 => rv = v ∧ rg = σ1 ∧ mv_r σ1 = mv_r h))) hz 7 [(0, .ref (al 64)), (1, .int x1), (3, .long x3), (5, .int x5)] [] := by
    intro nn7
    induction nn7 with
    | zero => intro x1 x3 x5 hz r_hz hf; cases hf
    | succ nn7 ih7 =>
      intro x1 x3 x5 hz r_hz hf
      have hf : fF_Machine_wordAt_s_7 145 (f_Machine_wordAt_s_7 145 nn7) x1 x3 x5 hz = some (rv, rg) := hf
      unfold fF_Machine_wordAt_s_7 at hf
      refine mv_iload (pc := 7) B d_Machine_wordAt_7 3 rfl ?_
      refine mv_if_lt (pc := 9) (tgt := 33) B d_Machine_wordAt_9 rfl (fun h9 => ?_) (fun h9 => ?_)
      · skip
        have hf := xif_t h9 hf
        refine mv_lload_n (pc := 33) B d_Machine_wordAt_33 rfl 2 rfl ?_
        exact mv_lret (pc := 34) B hr d_Machine_wordAt_34 (Nat.le_refl _) (Nat.le_refl _) ⟨_, rfl, xrh_l hf r_hz⟩
      · skip
        have hf := xif_f h9 hf
        refine mv_lload_n (pc := 12) B d_Machine_wordAt_12 rfl 2 rfl ?_
        refine mv_bipush (pc := 13) (v := 8) B d_Machine_wordAt_13 (by decide) ?_
        refine mv_lshl (pc := 15) B d_Machine_wordAt_15 ?_
        refine mv_aload_n (pc := 16) B d_Machine_wordAt_16 rfl 0 rfl ?_
        refine mv_getR (pc := 17) (ci := 9) (C := R_Machine) (T := F_Machine) (N := 13) B 1 rfl rfl (by decide) i_Machine (B.2.2.2.1 _ k_442) rfl ((congrFun (congrFun r_hz 64) 1).trans (hb.1 64 1 _ rfl)) d_Machine_wordAt_17 ?_
        refine mv_iload_n (pc := 20) B d_Machine_wordAt_20 rfl 1 rfl ?_
        refine mv_iload (pc := 21) B d_Machine_wordAt_21 3 rfl ?_
        refine mv_iadd (pc := 23) B d_Machine_wordAt_23 ?_
        obtain ⟨q1, hf⟩ := xvi_e hf
        refine mv_lald (pc := 24) B rfl q1 d_Machine_wordAt_24 ?_
        refine mv_lor (pc := 25) B d_Machine_wordAt_25 ?_
        refine mv_lstore_n (pc := 26) B d_Machine_wordAt_26 rfl (by decide) rfl ?_
        refine mv_iinc (pc := 27) (j := 3) (v := -1) B d_Machine_wordAt_27 rfl (by decide) (by decide) rfl ?_
        refine mv_goto (pc := 30) (tgt := 7) B d_Machine_wordAt_30 rfl ?_
        refine mv_lpick [2, 3, 1, 0] rfl ?_
        exact ih7 _ _ _ _ r_hz hf
  unfold f_Machine_wordAt_s at hf
  refine mv_lconst (pc := 0) (v := 0) B d_Machine_wordAt_0 (by decide) ?_
  refine mv_lstore_n (pc := 1) B d_Machine_wordAt_1 rfl (by decide) rfl ?_
  refine mv_iload_n (pc := 2) B d_Machine_wordAt_2 rfl 3 rfl ?_
  refine mv_iconst (pc := 3) (v := 1) B d_Machine_wordAt_3 (by decide) ?_
  refine mv_isub (pc := 4) B d_Machine_wordAt_4 ?_
  refine mv_istore (pc := 5) B d_Machine_wordAt_5 (by decide) rfl ?_
  refine mv_lpick [2, 3, 1, 0] rfl ?_
  exact lp7 _ _ _ _ _ rfl hf
def f_Machine_many_s_115 (P : Nat) (k22 : Int32 → Int32 → Int32 → Int32 → mv_H → Option (Int32 × mv_H)) (x1 : Int32) (x2 : Int32) (x3 : Int32) (x4 : Int32) (hz : mv_H) : Option (Int32 × mv_H) := if (mv_i hz 64 9) = (0 : Int32) then (k22 x1 x2 x3 (x4 + 1) hz) else (some (x4, hz))
def f_Machine_many_s_75 (P : Nat) (k22 : Int32 → Int32 → Int32 → Int32 → mv_H → Option (Int32 × mv_H)) (x1 : Int32) (x2 : Int32) (x3 : Int32) (x4 : Int32) (hz : mv_H) : Option (Int32 × mv_H) := xk (mv_si hz 64 9 (-1 : Int32)) fun g1 => xk (mv_si g1 64 11 ((mv_i g1 64 11) + (1 : Int32))) fun g2 => f_Machine_many_s_115 P k22 x1 x2 x3 x4 g2
def fF_Machine_many_s_22 (P : Nat) (k22 : Int32 → Int32 → Int32 → Int32 → mv_H → Option (Int32 × mv_H)) (x1 : Int32) (x2 : Int32) (x3 : Int32) (x4 : Int32) (hz : mv_H) : Option (Int32 × mv_H) := if x1 ≤ x4 then (some (x1, hz)) else (bif xvi (mv_i hz P 8) 64 then bif xvi (mv_a hz (P + 3) ((mv_i hz P 8)).toNatClampNeg) 65600 then if (lg_cmp (mv_b hz 65 ((mv_a hz (P + 3) ((mv_i hz P 8)).toNatClampNeg)).toNatClampNeg) (0 : Int64)) < (0 : Int32) then (f_Machine_many_s_75 P k22 x1 x2 x3 x4 hz) else (bif xvi x3 64 then if (lg_cmp (mv_b hz 65 ((mv_a hz (P + 3) ((mv_i hz P 8)).toNatClampNeg)).toNatClampNeg) ((((mv_a hz (P + 2) (x3).toNatClampNeg) - x2)).toInt64)) ≤ (0 : Int32) then (bif xvi x3 64 then xhb (f_Machine_wordAt_s P hz ((mv_a hz (P + 3) (x3).toNatClampNeg) + (((mv_b hz 65 ((mv_a hz (P + 3) ((mv_i hz P 8)).toNatClampNeg)).toNatClampNeg)).toInt32)) x2) fun v8 g7 => xhv (f_Machine_oneWith_s P g7 v8) fun g9 => f_Machine_many_s_115 P k22 x1 x2 x3 x4 g9 else none) else (f_Machine_many_s_75 P k22 x1 x2 x3 x4 hz) else none) else none else none)
def f_Machine_many_s_22 (P : Nat) : Nat → Int32 → Int32 → Int32 → Int32 → mv_H → Option (Int32 × mv_H)
  | 0 => fun _ _ _ _ _ => none
  | nn + 1 => fF_Machine_many_s_22 P (f_Machine_many_s_22 P nn)
def f_Machine_many_s (P : Nat) (h : mv_H) (a0 : Int32) : Option (Int32 × mv_H) := f_Machine_many_s_22 P 200000 a0 ((mv_i h P 0) / (8 : Int32)) (mv_i h P 9) (0 : Int32) h
set_option maxHeartbeats 4000000 in
set_option maxRecDepth 100000 in
theorem ch_Machine_many_s_c (l : Launch) {dA : FieldType → ClassId} {D : va_G} {al : Nat → Nat} {sk sv : Nat → Nat} (hi : mv_inj (mg dA D al me)) (h : mv_H) (hb : Rf 145 (mv_r h))  (a0 : Int32) {rv : Int32} {rg : mv_H} (hf : f_Machine_many_s 145 h a0 = some (rv, rg)) : mv_C l y_Machine_many (Cond.code y_Machine_many b_Machine_many 7 (Option.some Jvm.ClassFile.FieldType.int) :: ma) ({ frames := 6, cells := 0, slots := 0, locals := 152 }) (mg dA D al me) (mK sk sv) [.ref (al 64), .int a0] h (mv_Ri (fun v σ1 => rv = v ∧ rg = σ1 ∧ mv_r σ1 = mv_r h)) := by
  refine mv_C.ofV (cc := b_Machine_many) (nL := 7) (ret := (Option.some Jvm.ClassFile.FieldType.int)) (by decide +kernel) rfl hi (Nat.le_of_ble_eq_true rfl) ?_
  intro p e s m below meth c B hNs hr hnm hno
  have lp22 : ∀ (nn22 : Nat) (x1 : Int32) (x2 : Int32) (x3 : Int32) (x4 : Int32) (hz : mv_H), mv_r hz = mv_r h → f_Machine_many_s_22 145 nn22 x1 x2 x3 x4 hz = some (rv, rg) → mv_V p l e ({ frames := 6, cells := 0, slots := 0, locals := 152 }) s m ([.ref (al 64), .int a0] : List Value).toArray below meth c (mg dA D al me) 7 0 0 (mv_Q (mg dA D al me) below s 0 0 (mv_Ri (fun v σ1 => rv = v ∧ rg = σ1 ∧ mv_r σ1 = mv_r h))) hz 22 [(0, .ref (al 64)), (1, .int x1), (2, .int x2), (3, .int x3), (4, .int x4)] [] := by
    intro nn22
    induction nn22 with
    | zero => intro x1 x2 x3 x4 hz r_hz hf; cases hf
    | succ nn22 ih22 =>
      intro x1 x2 x3 x4 hz r_hz hf
      have jn115 : ∀ (x1 : Int32) (x2 : Int32) (x3 : Int32) (x4 : Int32) (hz : mv_H), mv_r hz = mv_r h → f_Machine_many_s_115 145 (f_Machine_many_s_22 145 nn22) x1 x2 x3 x4 hz = some (rv, rg) → mv_V p l e ({ frames := 6, cells := 0, slots := 0, locals := 152 }) s m ([.ref (al 64), .int a0] : List Value).toArray below meth c (mg dA D al me) 7 0 0 (mv_Q (mg dA D al me) below s 0 0 (mv_Ri (fun v σ1 => rv = v ∧ rg = σ1 ∧ mv_r σ1 = mv_r h))) hz 115 [(0, .ref (al 64)), (1, .int x1), (2, .int x2), (3, .int x3), (4, .int x4)] [] := by
        intro x1 x2 x3 x4 hz r_hz hf
        unfold f_Machine_many_s_115 at hf
        refine mv_aload_n (pc := 115) B d_Machine_many_115 rfl 0 rfl ?_
        refine mv_getI (pc := 116) (ci := 9) (C := R_Machine) (T := F_Machine) (N := 13) B 9 rfl rfl (by decide) i_Machine (B.2.2.2.1 _ k_451) rfl d_Machine_many_116 ?_
        refine mv_if_eq (pc := 119) (tgt := 125) B d_Machine_many_119 rfl (fun h119 => ?_) (fun h119 => ?_)
        · skip
          have hf := xif_t h119 hf
          refine mv_iinc (pc := 125) (j := 4) (v := 1) B d_Machine_many_125 rfl (by decide) (by decide) rfl ?_
          refine mv_goto (pc := 128) (tgt := 22) B d_Machine_many_128 rfl ?_
          refine mv_lpick [1, 2, 3, 4, 0] rfl ?_
          exact ih22 _ _ _ _ _ r_hz hf
        · skip
          have hf := xif_f h119 hf
          refine mv_iload (pc := 122) B d_Machine_many_122 4 rfl ?_
          exact mv_iret (pc := 124) B hr rfl d_Machine_many_124 (Nat.le_refl _) (Nat.le_refl _) ⟨_, rfl, xrh_i hf r_hz⟩
      have jn75 : ∀ (x1 : Int32) (x2 : Int32) (x3 : Int32) (x4 : Int32) (hz : mv_H), mv_r hz = mv_r h → f_Machine_many_s_75 145 (f_Machine_many_s_22 145 nn22) x1 x2 x3 x4 hz = some (rv, rg) → mv_V p l e ({ frames := 6, cells := 0, slots := 0, locals := 152 }) s m ([.ref (al 64), .int a0] : List Value).toArray below meth c (mg dA D al me) 7 0 0 (mv_Q (mg dA D al me) below s 0 0 (mv_Ri (fun v σ1 => rv = v ∧ rg = σ1 ∧ mv_r σ1 = mv_r h))) hz 75 [(0, .ref (al 64)), (1, .int x1), (2, .int x2), (3, .int x3), (4, .int x4)] [] := by
        intro x1 x2 x3 x4 hz r_hz hf
        unfold f_Machine_many_s_75 at hf
        refine mv_aload_n (pc := 75) B d_Machine_many_75 rfl 0 rfl ?_
        refine mv_iconst (pc := 76) (v := -1) B d_Machine_many_76 (by decide) ?_
        refine mv_putI (pc := 77) (ci := 9) (C := R_Machine) (T := F_Machine) (N := 13) B 9 rfl rfl (by decide) i_Machine t_Machine_ok n_Machine (B.2.2.2.1 _ k_451) rfl rfl rfl rfl d_Machine_many_77 ?_
        refine mvh_hp (R9 := mv_r h) hf r_hz (fun g1 hf r_g1 => ?_)
        refine mv_aload_n (pc := 80) B d_Machine_many_80 rfl 0 rfl ?_
        refine mv_dup (pc := 81) B d_Machine_many_81 rfl ?_
        refine mv_getI (pc := 82) (ci := 9) (C := R_Machine) (T := F_Machine) (N := 13) B 11 rfl rfl (by decide) i_Machine (B.2.2.2.1 _ k_455) rfl d_Machine_many_82 ?_
        refine mv_iconst (pc := 85) (v := 1) B d_Machine_many_85 (by decide) ?_
        refine mv_iadd (pc := 86) B d_Machine_many_86 ?_
        refine mv_putI (pc := 87) (ci := 9) (C := R_Machine) (T := F_Machine) (N := 13) B 11 rfl rfl (by decide) i_Machine t_Machine_ok n_Machine (B.2.2.2.1 _ k_455) rfl rfl rfl rfl d_Machine_many_87 ?_
        refine mvh_hp (R9 := mv_r h) hf r_g1 (fun g2 hf r_g2 => ?_)
        refine mv_goto (pc := 90) (tgt := 115) B d_Machine_many_90 rfl ?_
        refine mv_lpick [0, 1, 2, 3, 4] rfl ?_
        exact jn115 _ _ _ _ _ r_g2 hf
      have hf : fF_Machine_many_s_22 145 (f_Machine_many_s_22 145 nn22) x1 x2 x3 x4 hz = some (rv, rg) := hf
      unfold fF_Machine_many_s_22 at hf
      refine mv_iload (pc := 22) B d_Machine_many_22 4 rfl ?_
      refine mv_iload_n (pc := 24) B d_Machine_many_24 rfl 1 rfl ?_
      refine mv_icmp_ge (pc := 25) (tgt := 131) B d_Machine_many_25 rfl (fun h25 => ?_) (fun h25 => ?_)
      · skip
        have hf := xif_t h25 hf
        refine mv_iload_n (pc := 131) B d_Machine_many_131 rfl 1 rfl ?_
        exact mv_iret (pc := 132) B hr rfl d_Machine_many_132 (Nat.le_refl _) (Nat.le_refl _) ⟨_, rfl, xrh_i hf r_hz⟩
      · skip
        have hf := xif_f h25 hf
        refine mv_aload_n (pc := 28) B d_Machine_many_28 rfl 0 rfl ?_
        refine mv_getR (pc := 29) (ci := 9) (C := R_Machine) (T := F_Machine) (N := 13) B 1 rfl rfl (by decide) i_Machine (B.2.2.2.1 _ k_442) rfl ((congrFun (congrFun r_hz 64) 1).trans (hb.1 64 1 _ rfl)) d_Machine_many_29 ?_
        refine mv_aload_n (pc := 32) B d_Machine_many_32 rfl 0 rfl ?_
        refine mv_getR (pc := 33) (ci := 9) (C := R_Machine) (T := F_Machine) (N := 13) B 0 rfl rfl (by decide) i_Machine (B.2.2.2.1 _ k_440) rfl ((congrFun (congrFun r_hz 64) 0).trans hb.2.2) d_Machine_many_33 ?_
        refine mv_getR (pc := 36) (ci := 7) (C := R_Program) (T := F_Program) (N := 19) B 4 rfl rfl (by decide) i_Program (B.2.2.2.1 _ k_327) rfl ((congrFun (congrFun r_hz 145) 4).trans (hb.2.1 145 4 148 rfl)) d_Machine_many_36 ?_
        refine mv_aload_n (pc := 39) B d_Machine_many_39 rfl 0 rfl ?_
        refine mv_getR (pc := 40) (ci := 9) (C := R_Machine) (T := F_Machine) (N := 13) B 0 rfl rfl (by decide) i_Machine (B.2.2.2.1 _ k_440) rfl ((congrFun (congrFun r_hz 64) 0).trans hb.2.2) d_Machine_many_40 ?_
        refine mv_getI (pc := 43) (ci := 7) (C := R_Program) (T := F_Program) (N := 19) B 8 rfl rfl (by decide) i_Program (B.2.2.2.1 _ k_338) rfl d_Machine_many_43 ?_
        obtain ⟨q3, hf⟩ := xvi_e hf
        refine mv_iald (pc := 46) B rfl q3 d_Machine_many_46 ?_
        obtain ⟨q4, hf⟩ := xvi_e hf
        refine mv_lald (pc := 47) B rfl q4 d_Machine_many_47 ?_
        refine mv_lstore (pc := 48) B d_Machine_many_48 (by decide) rfl ?_
        refine mv_lload (pc := 50) B d_Machine_many_50 0 rfl ?_
        refine mv_lconst (pc := 52) (v := 0) B d_Machine_many_52 (by decide) ?_
        refine mv_lcmp (pc := 53) B d_Machine_many_53 ?_
        refine mv_if_lt (pc := 54) (tgt := 75) B d_Machine_many_54 rfl (fun h54 => ?_) (fun h54 => ?_)
        · skip
          have hf := xif_t h54 hf
          refine mv_lpick [1, 2, 3, 4, 5] rfl ?_
          exact jn75 _ _ _ _ _ r_hz hf
        · skip
          have hf := xif_f h54 hf
          refine mv_lload (pc := 57) B d_Machine_many_57 0 rfl ?_
          refine mv_aload_n (pc := 59) B d_Machine_many_59 rfl 1 rfl ?_
          refine mv_getR (pc := 60) (ci := 9) (C := R_Machine) (T := F_Machine) (N := 13) B 0 rfl rfl (by decide) i_Machine (B.2.2.2.1 _ k_440) rfl ((congrFun (congrFun r_hz 64) 0).trans hb.2.2) d_Machine_many_60 ?_
          refine mv_getR (pc := 63) (ci := 7) (C := R_Program) (T := F_Program) (N := 19) B 3 rfl rfl (by decide) i_Program (B.2.2.2.1 _ k_324) rfl ((congrFun (congrFun r_hz 145) 3).trans (hb.2.1 145 3 147 rfl)) d_Machine_many_63 ?_
          refine mv_iload_n (pc := 66) B d_Machine_many_66 rfl 4 rfl ?_
          obtain ⟨q5, hf⟩ := xvi_e hf
          refine mv_iald (pc := 67) B rfl q5 d_Machine_many_67 ?_
          refine mv_iload_n (pc := 68) B d_Machine_many_68 rfl 3 rfl ?_
          refine mv_isub (pc := 69) B d_Machine_many_69 ?_
          refine mv_i2l (pc := 70) B d_Machine_many_70 ?_
          refine mv_lcmp (pc := 71) B d_Machine_many_71 ?_
          refine mv_if_le (pc := 72) (tgt := 93) B d_Machine_many_72 rfl (fun h72 => ?_) (fun h72 => ?_)
          · skip
            have hf := xif_t h72 hf
            refine mv_aload_n (pc := 93) B d_Machine_many_93 rfl 1 rfl ?_
            refine mv_aload_n (pc := 94) B d_Machine_many_94 rfl 1 rfl ?_
            refine mv_aload_n (pc := 95) B d_Machine_many_95 rfl 1 rfl ?_
            refine mv_getR (pc := 96) (ci := 9) (C := R_Machine) (T := F_Machine) (N := 13) B 0 rfl rfl (by decide) i_Machine (B.2.2.2.1 _ k_440) rfl ((congrFun (congrFun r_hz 64) 0).trans hb.2.2) d_Machine_many_96 ?_
            refine mv_getR (pc := 99) (ci := 7) (C := R_Program) (T := F_Program) (N := 19) B 4 rfl rfl (by decide) i_Program (B.2.2.2.1 _ k_327) rfl ((congrFun (congrFun r_hz 145) 4).trans (hb.2.1 145 4 148 rfl)) d_Machine_many_99 ?_
            refine mv_iload_n (pc := 102) B d_Machine_many_102 rfl 4 rfl ?_
            obtain ⟨q6, hf⟩ := xvi_e hf
            refine mv_iald (pc := 103) B rfl q6 d_Machine_many_103 ?_
            refine mv_lload (pc := 104) B d_Machine_many_104 0 rfl ?_
            refine mv_l2i (pc := 106) B d_Machine_many_106 ?_
            refine mv_iadd (pc := 107) B d_Machine_many_107 ?_
            refine mv_iload_n (pc := 108) B d_Machine_many_108 rfl 3 rfl ?_
            obtain ⟨v8, g7, eg7, hf⟩ := xhb_e hf
            refine mv_callVl (pc := 109) (n := 2) (ci := 9) (C := R_Machine) B (mK_ok sk sv) hNs rfl rfl (ch_Machine_wordAt_s_c l hi _ (xrw r_hz hb) _ _ eg7) rfl (ma_goodc kc_Machine_wordAt) (B.2.2.2.1 _ k_1797) (B.2.2.2.1 _ k_1799) (B.2.2.2.1 _ ks_78) (B.2.2.2.1 _ k_11) ⟨by decide +kernel, by decide +kernel, by decide +kernel⟩ rfl d_Machine_many_109 rfl (Nat.le_of_ble_eq_true rfl) ⟨by decide, by decide⟩ ⟨by decide, by decide⟩ ⟨by decide, by decide⟩ (mv_noH hno _) (fun w109 σ109 h109 => ?_)
            obtain ⟨rfl, rfl, s_g7⟩ := h109
            have r_g7 : mv_r g7 = mv_r h := s_g7.trans r_hz
            obtain ⟨g9, eg9, hf⟩ := xhv_e hf
            refine mv_callVv (pc := 112) (n := 1) (ci := 9) (C := R_Machine) B (mK_ok sk sv) hNs rfl rfl (ch_Machine_oneWith_s_c l hi _ (xrw r_g7 hb) _ eg9) rfl (ma_goodc kc_Machine_oneWith) (B.2.2.2.1 _ k_1801) (B.2.2.2.1 _ k_1573) (B.2.2.2.1 _ k_1574) (B.2.2.2.1 _ k_11) ⟨by decide +kernel, by decide +kernel, by decide +kernel⟩ rfl d_Machine_many_112 rfl (Nat.le_of_ble_eq_true rfl) ⟨by decide, by decide⟩ ⟨by decide, by decide⟩ ⟨by decide, by decide⟩ (mv_noH hno _) (fun σ112 h112 => ?_)
            obtain ⟨rfl, s_g9⟩ := h112
            have r_g9 : mv_r g9 = mv_r h := s_g9.trans r_g7
            refine mv_lpick [1, 2, 3, 4, 5] rfl ?_
            exact jn115 _ _ _ _ _ r_g9 hf
          · skip
            have hf := xif_f h72 hf
            refine mv_lpick [1, 2, 3, 4, 5] rfl ?_
            exact jn75 _ _ _ _ _ r_hz hf
  unfold f_Machine_many_s at hf
  refine mv_aload_n (pc := 0) B d_Machine_many_0 rfl 0 rfl ?_
  refine mv_getR (pc := 1) (ci := 9) (C := R_Machine) (T := F_Machine) (N := 13) B 0 rfl rfl (by decide) i_Machine (B.2.2.2.1 _ k_440) rfl hb.2.2 d_Machine_many_1 ?_
  refine mv_getI (pc := 4) (ci := 7) (C := R_Program) (T := F_Program) (N := 19) B 0 rfl rfl (by decide) i_Program (B.2.2.2.1 _ k_312) rfl d_Machine_many_4 ?_
  refine mv_bipush (pc := 7) (v := 8) B d_Machine_many_7 (by decide) ?_
  refine mv_idiv (pc := 9) B d_Machine_many_9 (by decide) ?_
  refine mv_istore_n (pc := 10) B d_Machine_many_10 rfl (by decide) rfl ?_
  refine mv_aload_n (pc := 11) B d_Machine_many_11 rfl 1 rfl ?_
  refine mv_getR (pc := 12) (ci := 9) (C := R_Machine) (T := F_Machine) (N := 13) B 0 rfl rfl (by decide) i_Machine (B.2.2.2.1 _ k_440) rfl hb.2.2 d_Machine_many_12 ?_
  refine mv_getI (pc := 15) (ci := 7) (C := R_Program) (T := F_Program) (N := 19) B 9 rfl rfl (by decide) i_Program (B.2.2.2.1 _ k_341) rfl d_Machine_many_15 ?_
  refine mv_istore_n (pc := 18) B d_Machine_many_18 rfl (by decide) rfl ?_
  refine mv_iconst (pc := 19) (v := 0) B d_Machine_many_19 (by decide) ?_
  refine mv_istore (pc := 20) B d_Machine_many_20 (by decide) rfl ?_
  refine mv_lpick [3, 4, 2, 1, 0] rfl ?_
  exact lp22 _ _ _ _ _ _ rfl hf
