/-! exact runs over abstract heaps: Symbols, Tokens.cut, Bits, Faults, Names, Program, Tree -/
def fF_Symbols_isSpelt_12_29 (k29 : Int32 → Int32 → Int32 → Int32 → mv_H → Option (Int32 × mv_H)) (x3 : Int32) (x4 : Int32) (x5 : Int32) (x6 : Int32) (hz : mv_H) : Option (Int32 × mv_H) := if x4 ≤ x6 then (bif xzb (1 : Int32) then some ((1 : Int32), hz) else none) else (bif xvi (x5 + x6) 32896 then bif xvi (x3 + x6) 128 then if (mv_a hz 8 ((x5 + x6)).toNatClampNeg) = (mv_a hz 12 ((x3 + x6)).toNatClampNeg) then (k29 x3 x4 x5 (x6 + 1) hz) else (bif xzb (0 : Int32) then some ((0 : Int32), hz) else none) else none else none)
def f_Symbols_isSpelt_12_29 : Nat → Int32 → Int32 → Int32 → Int32 → mv_H → Option (Int32 × mv_H)
  | 0 => fun _ _ _ _ _ => none
  | nn + 1 => fF_Symbols_isSpelt_12_29 (f_Symbols_isSpelt_12_29 nn)
def f_Symbols_isSpelt_12 (h : mv_H) (a0 : Int32) (a2 : Int32) (a3 : Int32) : Option (Int32 × mv_H) := bif xvi a0 16449 then bif xvi (a0 + (1 : Int32)) 16449 then if ((mv_a h 9 ((a0 + (1 : Int32))).toNatClampNeg) - (mv_a h 9 (a0).toNatClampNeg)) = a3 then (f_Symbols_isSpelt_12_29 200000 a2 a3 (mv_a h 9 (a0).toNatClampNeg) (0 : Int32) h) else (bif xzb (0 : Int32) then some ((0 : Int32), h) else none) else none else none
set_option maxHeartbeats 4000000 in
set_option maxRecDepth 100000 in
theorem ch_Symbols_isSpelt_12 (l : Launch) {dA : FieldType → ClassId} {D : va_G} {al : Nat → Nat} {ext : mv_Sh} {sk sv : Nat → Nat} (hi : mv_inj (mg dA D al ext)) (h : mv_H) (hb : xRT (mv_r h))  (a0 : Int32) (a2 : Int32) (a3 : Int32) {rv : Int32} {rg : mv_H} (hf : f_Symbols_isSpelt_12 h a0 a2 a3 = some (rv, rg)) : mv_C l y_Symbols_isSpelt (Cond.code y_Symbols_isSpelt b_Symbols_isSpelt 7 (Option.some Jvm.ClassFile.FieldType.boolean) :: ma) ({ frames := 0, cells := 0, slots := 0, locals := 0 }) (mg dA D al ext) (mK sk sv) [.ref (al 7), .int a0, .ref (al 12), .int a2, .int a3] h (mv_Ri (fun v σ1 => rv = v ∧ rg = σ1 ∧ mv_r σ1 = mv_r h)) := by
  refine mv_C.ofV (cc := b_Symbols_isSpelt) (nL := 7) (ret := (Option.some Jvm.ClassFile.FieldType.boolean)) (by decide +kernel) rfl hi (Nat.le_of_ble_eq_true rfl) ?_
  intro p e s m below meth c B hNs hr hnm hno
  have lp29 : ∀ (nn29 : Nat) (x3 : Int32) (x4 : Int32) (x5 : Int32) (x6 : Int32) (hz : mv_H), mv_r hz = mv_r h → f_Symbols_isSpelt_12_29 nn29 x3 x4 x5 x6 hz = some (rv, rg) → mv_V p l e ({ frames := 0, cells := 0, slots := 0, locals := 0 }) s m ([.ref (al 7), .int a0, .ref (al 12), .int a2, .int a3] : List Value).toArray below meth c (mg dA D al ext) 7 0 0 (mv_Q (mg dA D al ext) below s 0 0 (mv_Ri (fun v σ1 => rv = v ∧ rg = σ1 ∧ mv_r σ1 = mv_r h))) hz 29 [(0, .ref (al 7)), (2, .ref (al 12)), (3, .int x3), (4, .int x4), (5, .int x5), (6, .int x6)] [] := by
    intro nn29
    induction nn29 with
    | zero => intro x3 x4 x5 x6 hz r_hz hf; cases hf
    | succ nn29 ih29 =>
      intro x3 x4 x5 x6 hz r_hz hf
      have hf : fF_Symbols_isSpelt_12_29 (f_Symbols_isSpelt_12_29 nn29) x3 x4 x5 x6 hz = some (rv, rg) := hf
      unfold fF_Symbols_isSpelt_12_29 at hf
      refine mv_iload (pc := 29) B d_Symbols_isSpelt_29 5 rfl ?_
      refine mv_iload (pc := 31) B d_Symbols_isSpelt_31 3 rfl ?_
      refine mv_icmp_ge (pc := 33) (tgt := 63) B d_Symbols_isSpelt_33 rfl (fun h33 => ?_) (fun h33 => ?_)
      · skip
        have hf := xif_t h33 hf
        refine mv_iconst (pc := 63) (v := 1) B d_Symbols_isSpelt_63 (by decide) ?_
        obtain ⟨q1, hf⟩ := xzb_e hf
        exact mv_iret (pc := 64) B hr (xzb_n q1) d_Symbols_isSpelt_64 (Nat.le_refl _) (Nat.le_refl _) ⟨_, rfl, xrh_i hf r_hz⟩
      · skip
        have hf := xif_f h33 hf
        refine mv_aload_n (pc := 36) B d_Symbols_isSpelt_36 rfl 0 rfl ?_
        refine mv_getR (pc := 37) (ci := 3) (C := R_Symbols) (T := F_Symbols) (N := 6) B 0 rfl rfl (by decide) i_Symbols (B.2.2.2.1 _ k_66) rfl ((congrFun (congrFun r_hz 7) 0).trans (hb.1 7 0 _ rfl)) d_Symbols_isSpelt_37 ?_
        refine mv_iload (pc := 40) B d_Symbols_isSpelt_40 4 rfl ?_
        refine mv_iload (pc := 42) B d_Symbols_isSpelt_42 5 rfl ?_
        refine mv_iadd (pc := 44) B d_Symbols_isSpelt_44 ?_
        obtain ⟨q2, hf⟩ := xvi_e hf
        refine mv_bald (pc := 45) B rfl q2 d_Symbols_isSpelt_45 ?_
        refine mv_aload_n (pc := 46) B d_Symbols_isSpelt_46 rfl 1 rfl ?_
        refine mv_iload_n (pc := 47) B d_Symbols_isSpelt_47 rfl 2 rfl ?_
        refine mv_iload (pc := 48) B d_Symbols_isSpelt_48 5 rfl ?_
        refine mv_iadd (pc := 50) B d_Symbols_isSpelt_50 ?_
        obtain ⟨q3, hf⟩ := xvi_e hf
        refine mv_bald (pc := 51) B rfl q3 d_Symbols_isSpelt_51 ?_
        refine mv_icmp_eq (pc := 52) (tgt := 57) B d_Symbols_isSpelt_52 rfl (fun h52 => ?_) (fun h52 => ?_)
        · skip
          have hf := xif_t h52 hf
          refine mv_iinc (pc := 57) (j := 5) (v := 1) B d_Symbols_isSpelt_57 rfl (by decide) (by decide) rfl ?_
          refine mv_goto (pc := 60) (tgt := 29) B d_Symbols_isSpelt_60 rfl ?_
          refine mv_lpick [1, 2, 3, 4, 5, 0] rfl ?_
          exact ih29 _ _ _ _ _ r_hz hf
        · skip
          have hf := xif_f h52 hf
          refine mv_iconst (pc := 55) (v := 0) B d_Symbols_isSpelt_55 (by decide) ?_
          obtain ⟨q4, hf⟩ := xzb_e hf
          exact mv_iret (pc := 56) B hr (xzb_n q4) d_Symbols_isSpelt_56 (Nat.le_refl _) (Nat.le_refl _) ⟨_, rfl, xrh_i hf r_hz⟩
  unfold f_Symbols_isSpelt_12 at hf
  refine mv_aload_n (pc := 0) B d_Symbols_isSpelt_0 rfl 0 rfl ?_
  refine mv_getR (pc := 1) (ci := 3) (C := R_Symbols) (T := F_Symbols) (N := 6) B 1 rfl rfl (by decide) i_Symbols (B.2.2.2.1 _ k_67) rfl (hb.1 7 1 _ rfl) d_Symbols_isSpelt_1 ?_
  refine mv_iload_n (pc := 4) B d_Symbols_isSpelt_4 rfl 1 rfl ?_
  obtain ⟨q5, hf⟩ := xvi_e hf
  refine mv_iald (pc := 5) B rfl q5 d_Symbols_isSpelt_5 ?_
  refine mv_istore (pc := 6) B d_Symbols_isSpelt_6 (by decide) rfl ?_
  refine mv_aload_n (pc := 8) B d_Symbols_isSpelt_8 rfl 1 rfl ?_
  refine mv_getR (pc := 9) (ci := 3) (C := R_Symbols) (T := F_Symbols) (N := 6) B 1 rfl rfl (by decide) i_Symbols (B.2.2.2.1 _ k_67) rfl (hb.1 7 1 _ rfl) d_Symbols_isSpelt_9 ?_
  refine mv_iload_n (pc := 12) B d_Symbols_isSpelt_12 rfl 2 rfl ?_
  refine mv_iconst (pc := 13) (v := 1) B d_Symbols_isSpelt_13 (by decide) ?_
  refine mv_iadd (pc := 14) B d_Symbols_isSpelt_14 ?_
  obtain ⟨q6, hf⟩ := xvi_e hf
  refine mv_iald (pc := 15) B rfl q6 d_Symbols_isSpelt_15 ?_
  refine mv_iload (pc := 16) B d_Symbols_isSpelt_16 0 rfl ?_
  refine mv_isub (pc := 18) B d_Symbols_isSpelt_18 ?_
  refine mv_iload (pc := 19) B d_Symbols_isSpelt_19 5 rfl ?_
  refine mv_icmp_eq (pc := 21) (tgt := 26) B d_Symbols_isSpelt_21 rfl (fun h21 => ?_) (fun h21 => ?_)
  · skip
    have hf := xif_t h21 hf
    refine mv_iconst (pc := 26) (v := 0) B d_Symbols_isSpelt_26 (by decide) ?_
    refine mv_istore (pc := 27) B d_Symbols_isSpelt_27 (by decide) rfl ?_
    refine mv_lpick [2, 4, 5, 6, 1, 0] rfl ?_
    exact lp29 _ _ _ _ _ _ rfl hf
  · skip
    have hf := xif_f h21 hf
    refine mv_iconst (pc := 24) (v := 0) B d_Symbols_isSpelt_24 (by decide) ?_
    obtain ⟨q7, hf⟩ := xzb_e hf
    exact mv_iret (pc := 25) B hr (xzb_n q7) d_Symbols_isSpelt_25 (Nat.le_refl _) (Nat.le_refl _) ⟨_, rfl, xrh_i hf rfl⟩
def f_Symbols_add_12 (h : mv_H) (a0 : Int32) (a2 : Int32) (a3 : Int32) : Option (Int32 × mv_H) := bif xvi (mv_i h 7 5) 16449 then bif xvc h 12 128 32896 a2 (mv_a h 9 ((mv_i h 7 5)).toNatClampNeg) a3 then xk (mv_ca h 8 (va_cpy (mv_a h 12) (mv_a h 8) (a2).toNatClampNeg ((mv_a h 9 ((mv_i h 7 5)).toNatClampNeg)).toNatClampNeg (a3).toNatClampNeg)) fun g3 => bif xvi (mv_i h 7 5) 16449 then bif xvi ((mv_i h 7 5) + (1 : Int32)) 16449 then xk (mv_sa g3 9 (((mv_i h 7 5) + (1 : Int32))).toNatClampNeg ((mv_a g3 9 ((mv_i h 7 5)).toNatClampNeg) + a3)) fun g6 => bif xvi a0 1024 then bif xvi (mv_i h 7 5) 16448 then xk (mv_sa g6 11 ((mv_i h 7 5)).toNatClampNeg (mv_a g6 10 (a0).toNatClampNeg)) fun g9 => bif xvi a0 1024 then xk (mv_sa g9 10 (a0).toNatClampNeg (mv_i h 7 5)) fun g11 => xk (mv_si g11 7 5 ((mv_i g11 7 5) + (1 : Int32))) fun g12 => some ((mv_i h 7 5), g12) else none else none else none else none else none else none else none
set_option maxHeartbeats 4000000 in
set_option maxRecDepth 100000 in
theorem ch_Symbols_add_12 (l : Launch) {dA : FieldType → ClassId} {D : va_G} {al : Nat → Nat} {ext : mv_Sh} {sk sv : Nat → Nat} (hi : mv_inj (mg dA D al ext)) (h : mv_H) (hb : xRT (mv_r h))  (a0 : Int32) (a2 : Int32) (a3 : Int32) {rv : Int32} {rg : mv_H} (hf : f_Symbols_add_12 h a0 a2 a3 = some (rv, rg)) : mv_C l y_Symbols_add (Cond.code y_Symbols_add b_Symbols_add 6 (Option.some Jvm.ClassFile.FieldType.int) :: ma) ({ frames := 1, cells := 0, slots := 0, locals := 40 }) (mg dA D al ext) (mK sk sv) [.ref (al 7), .int a0, .ref (al 12), .int a2, .int a3] h (mv_Ri (fun v σ1 => rv = v ∧ rg = σ1 ∧ mv_r σ1 = mv_r h)) := by
  refine mv_C.ofV (cc := b_Symbols_add) (nL := 6) (ret := (Option.some Jvm.ClassFile.FieldType.int)) (by decide +kernel) rfl hi (Nat.le_of_ble_eq_true rfl) ?_
  intro p e s m below meth c B hNs hr hnm hno
  unfold f_Symbols_add_12 at hf
  refine mv_aload_n (pc := 0) B d_Symbols_add_0 rfl 0 rfl ?_
  refine mv_getI (pc := 1) (ci := 3) (C := R_Symbols) (T := F_Symbols) (N := 6) B 5 rfl rfl (by decide) i_Symbols (B.2.2.2.1 _ k_72) rfl d_Symbols_add_1 ?_
  refine mv_istore (pc := 4) B d_Symbols_add_4 (by decide) rfl ?_
  refine mv_aload_n (pc := 6) B d_Symbols_add_6 rfl 3 rfl ?_
  refine mv_iload_n (pc := 7) B d_Symbols_add_7 rfl 4 rfl ?_
  refine mv_aload_n (pc := 8) B d_Symbols_add_8 rfl 1 rfl ?_
  refine mv_getR (pc := 9) (ci := 3) (C := R_Symbols) (T := F_Symbols) (N := 6) B 0 rfl rfl (by decide) i_Symbols (B.2.2.2.1 _ k_66) rfl (hb.1 7 0 _ rfl) d_Symbols_add_9 ?_
  refine mv_aload_n (pc := 12) B d_Symbols_add_12 rfl 1 rfl ?_
  refine mv_getR (pc := 13) (ci := 3) (C := R_Symbols) (T := F_Symbols) (N := 6) B 1 rfl rfl (by decide) i_Symbols (B.2.2.2.1 _ k_67) rfl (hb.1 7 1 _ rfl) d_Symbols_add_13 ?_
  refine mv_iload (pc := 16) B d_Symbols_add_16 0 rfl ?_
  obtain ⟨q1, hf⟩ := xvi_e hf
  refine mv_iald (pc := 18) B rfl q1 d_Symbols_add_18 ?_
  refine mv_iload (pc := 19) B d_Symbols_add_19 5 rfl ?_
  obtain ⟨q2, hf⟩ := xvc_e hf
  refine mv_copyb (pc := 21) B (B.2.2.2.1 _ k_815) (B.2.2.2.1 _ k_817) (B.2.2.2.1 _ k_816) (B.2.2.2.1 _ k_25) rfl rfl q2.1 q2.2.1 q2.2.2.1 q2.2.2.2.1 q2.2.2.2.2.1 q2.2.2.2.2.2 (by decide) (by decide) d_Symbols_add_21 ?_
  refine mvh_hp (R9 := mv_r h) hf rfl (fun g3 hf r_g3 => ?_)
  refine mv_aload_n (pc := 24) B d_Symbols_add_24 rfl 1 rfl ?_
  refine mv_getR (pc := 25) (ci := 3) (C := R_Symbols) (T := F_Symbols) (N := 6) B 1 rfl rfl (by decide) i_Symbols (B.2.2.2.1 _ k_67) rfl ((congrFun (congrFun r_g3 7) 1).trans (hb.1 7 1 _ rfl)) d_Symbols_add_25 ?_
  refine mv_iload (pc := 28) B d_Symbols_add_28 0 rfl ?_
  refine mv_iconst (pc := 30) (v := 1) B d_Symbols_add_30 (by decide) ?_
  refine mv_iadd (pc := 31) B d_Symbols_add_31 ?_
  refine mv_aload_n (pc := 32) B d_Symbols_add_32 rfl 1 rfl ?_
  refine mv_getR (pc := 33) (ci := 3) (C := R_Symbols) (T := F_Symbols) (N := 6) B 1 rfl rfl (by decide) i_Symbols (B.2.2.2.1 _ k_67) rfl ((congrFun (congrFun r_g3 7) 1).trans (hb.1 7 1 _ rfl)) d_Symbols_add_33 ?_
  refine mv_iload (pc := 36) B d_Symbols_add_36 0 rfl ?_
  obtain ⟨q4, hf⟩ := xvi_e hf
  refine mv_iald (pc := 38) B rfl q4 d_Symbols_add_38 ?_
  refine mv_iload (pc := 39) B d_Symbols_add_39 5 rfl ?_
  refine mv_iadd (pc := 41) B d_Symbols_add_41 ?_
  obtain ⟨q5, hf⟩ := xvi_e hf
  refine mv_iast (pc := 42) B rfl q5 d_Symbols_add_42 ?_
  refine mvh_hp (R9 := mv_r h) hf r_g3 (fun g6 hf r_g6 => ?_)
  refine mv_aload_n (pc := 43) B d_Symbols_add_43 rfl 1 rfl ?_
  refine mv_getR (pc := 44) (ci := 3) (C := R_Symbols) (T := F_Symbols) (N := 6) B 3 rfl rfl (by decide) i_Symbols (B.2.2.2.1 _ k_69) rfl ((congrFun (congrFun r_g6 7) 3).trans (hb.1 7 3 _ rfl)) d_Symbols_add_44 ?_
  refine mv_iload (pc := 47) B d_Symbols_add_47 0 rfl ?_
  refine mv_aload_n (pc := 49) B d_Symbols_add_49 rfl 1 rfl ?_
  refine mv_getR (pc := 50) (ci := 3) (C := R_Symbols) (T := F_Symbols) (N := 6) B 2 rfl rfl (by decide) i_Symbols (B.2.2.2.1 _ k_68) rfl ((congrFun (congrFun r_g6 7) 2).trans (hb.1 7 2 _ rfl)) d_Symbols_add_50 ?_
  refine mv_iload_n (pc := 53) B d_Symbols_add_53 rfl 2 rfl ?_
  obtain ⟨q7, hf⟩ := xvi_e hf
  refine mv_iald (pc := 54) B rfl q7 d_Symbols_add_54 ?_
  obtain ⟨q8, hf⟩ := xvi_e hf
  refine mv_iast (pc := 55) B rfl q8 d_Symbols_add_55 ?_
  refine mvh_hp (R9 := mv_r h) hf r_g6 (fun g9 hf r_g9 => ?_)
  refine mv_aload_n (pc := 56) B d_Symbols_add_56 rfl 1 rfl ?_
  refine mv_getR (pc := 57) (ci := 3) (C := R_Symbols) (T := F_Symbols) (N := 6) B 2 rfl rfl (by decide) i_Symbols (B.2.2.2.1 _ k_68) rfl ((congrFun (congrFun r_g9 7) 2).trans (hb.1 7 2 _ rfl)) d_Symbols_add_57 ?_
  refine mv_iload_n (pc := 60) B d_Symbols_add_60 rfl 2 rfl ?_
  refine mv_iload (pc := 61) B d_Symbols_add_61 0 rfl ?_
  obtain ⟨q10, hf⟩ := xvi_e hf
  refine mv_iast (pc := 63) B rfl q10 d_Symbols_add_63 ?_
  refine mvh_hp (R9 := mv_r h) hf r_g9 (fun g11 hf r_g11 => ?_)
  refine mv_aload_n (pc := 64) B d_Symbols_add_64 rfl 1 rfl ?_
  refine mv_dup (pc := 65) B d_Symbols_add_65 rfl ?_
  refine mv_getI (pc := 66) (ci := 3) (C := R_Symbols) (T := F_Symbols) (N := 6) B 5 rfl rfl (by decide) i_Symbols (B.2.2.2.1 _ k_72) rfl d_Symbols_add_66 ?_
  refine mv_iconst (pc := 69) (v := 1) B d_Symbols_add_69 (by decide) ?_
  refine mv_iadd (pc := 70) B d_Symbols_add_70 ?_
  refine mv_putI (pc := 71) (ci := 3) (C := R_Symbols) (T := F_Symbols) (N := 6) B 5 rfl rfl (by decide) i_Symbols t_Symbols_ok n_Symbols (B.2.2.2.1 _ k_72) rfl rfl rfl rfl d_Symbols_add_71 ?_
  refine mvh_hp (R9 := mv_r h) hf r_g11 (fun g12 hf r_g12 => ?_)
  refine mv_iload (pc := 74) B d_Symbols_add_74 0 rfl ?_
  exact mv_iret (pc := 76) B hr rfl d_Symbols_add_76 (Nat.le_refl _) (Nat.le_refl _) ⟨_, rfl, xrh_i hf r_g12⟩
def f_Symbols_find_12_91 (x2 : Int32) (x3 : Int32) (x4 : Int32) (hz : mv_H) : Option (Int32 × mv_H) := xhb (f_Symbols_add_12 hz x4 x2 x3) fun v2 g1 => some (v2, g1)
def fF_Symbols_find_12_48 (k48 : Int32 → Int32 → Int32 → Int32 → Int32 → mv_H → Option (Int32 × mv_H)) (x2 : Int32) (x3 : Int32) (x4 : Int32) (x5 : Int32) (x6 : Int32) (hz : mv_H) : Option (Int32 × mv_H) := if (16448 : Int32) ≤ x6 then (f_Symbols_find_12_91 x2 x3 x4 hz) else (if x5 < (0 : Int32) then (f_Symbols_find_12_91 x2 x3 x4 hz) else (xhb (f_Symbols_isSpelt_12 hz x5 x2 x3) fun v4 g3 => if v4 = (0 : Int32) then (bif xvi x5 16448 then k48 x2 x3 x4 (mv_a g3 11 (x5).toNatClampNeg) (x6 + 1) g3 else none) else (some (x5, g3))))
def f_Symbols_find_12_48 : Nat → Int32 → Int32 → Int32 → Int32 → Int32 → mv_H → Option (Int32 × mv_H)
  | 0 => fun _ _ _ _ _ _ => none
  | nn + 1 => fF_Symbols_find_12_48 (f_Symbols_find_12_48 nn)
def fF_Symbols_find_12_6 (k6 : Int32 → Int32 → Int32 → Int32 → mv_H → Option (Int32 × mv_H)) (x2 : Int32) (x3 : Int32) (x4 : Int32) (x5 : Int32) (hz : mv_H) : Option (Int32 × mv_H) := if x3 ≤ x5 then (bif xvi x4 1024 then f_Symbols_find_12_48 200000 x2 x3 x4 (mv_a hz 10 (x4).toNatClampNeg) (0 : Int32) hz else none) else (bif xvi (x2 + x5) 128 then k6 x2 x3 (((x4 * (31 : Int32)) + (mv_a hz 12 ((x2 + x5)).toNatClampNeg)) &&& (1023 : Int32)) (x5 + 1) hz else none)
def f_Symbols_find_12_6 : Nat → Int32 → Int32 → Int32 → Int32 → mv_H → Option (Int32 × mv_H)
  | 0 => fun _ _ _ _ _ => none
  | nn + 1 => fF_Symbols_find_12_6 (f_Symbols_find_12_6 nn)
def f_Symbols_find_12 (h : mv_H) (a1 : Int32) (a2 : Int32) : Option (Int32 × mv_H) := f_Symbols_find_12_6 200000 a1 a2 (0 : Int32) (0 : Int32) h
set_option maxHeartbeats 4000000 in
set_option maxRecDepth 100000 in
theorem ch_Symbols_find_12 (l : Launch) {dA : FieldType → ClassId} {D : va_G} {al : Nat → Nat} {ext : mv_Sh} {sk sv : Nat → Nat} (hi : mv_inj (mg dA D al ext)) (h : mv_H) (hb : xRT (mv_r h))  (a1 : Int32) (a2 : Int32) {rv : Int32} {rg : mv_H} (hf : f_Symbols_find_12 h a1 a2 = some (rv, rg)) : mv_C l y_Symbols_find (Cond.code y_Symbols_find b_Symbols_find 7 (Option.some Jvm.ClassFile.FieldType.int) :: ma) ({ frames := 2, cells := 0, slots := 0, locals := 65 }) (mg dA D al ext) (mK sk sv) [.ref (al 7), .ref (al 12), .int a1, .int a2] h (mv_Ri (fun v σ1 => rv = v ∧ rg = σ1 ∧ mv_r σ1 = mv_r h)) := by
  refine mv_C.ofV (cc := b_Symbols_find) (nL := 7) (ret := (Option.some Jvm.ClassFile.FieldType.int)) (by decide +kernel) rfl hi (Nat.le_of_ble_eq_true rfl) ?_
  intro p e s m below meth c B hNs hr hnm hno
  have jn91 : ∀ (x2 : Int32) (x3 : Int32) (x4 : Int32) (hz : mv_H), mv_r hz = mv_r h → f_Symbols_find_12_91 x2 x3 x4 hz = some (rv, rg) → mv_V p l e ({ frames := 2, cells := 0, slots := 0, locals := 65 }) s m ([.ref (al 7), .ref (al 12), .int a1, .int a2] : List Value).toArray below meth c (mg dA D al ext) 7 0 0 (mv_Q (mg dA D al ext) below s 0 0 (mv_Ri (fun v σ1 => rv = v ∧ rg = σ1 ∧ mv_r σ1 = mv_r h))) hz 91 [(0, .ref (al 7)), (1, .ref (al 12)), (2, .int x2), (3, .int x3), (4, .int x4)] [] := by
    intro x2 x3 x4 hz r_hz hf
    unfold f_Symbols_find_12_91 at hf
    refine mv_aload_n (pc := 91) B d_Symbols_find_91 rfl 0 rfl ?_
    refine mv_iload (pc := 92) B d_Symbols_find_92 4 rfl ?_
    refine mv_aload_n (pc := 94) B d_Symbols_find_94 rfl 1 rfl ?_
    refine mv_iload_n (pc := 95) B d_Symbols_find_95 rfl 2 rfl ?_
    refine mv_iload_n (pc := 96) B d_Symbols_find_96 rfl 3 rfl ?_
    obtain ⟨v2, g1, eg1, hf⟩ := xhb_e hf
    refine mv_callVi (pc := 97) (n := 4) (ci := 3) (C := R_Symbols) B (mK_ok sk sv) hNs rfl rfl (ch_Symbols_add_12 l hi _ (xrw r_hz hb) _ _ _ eg1) rfl (ma_goodc kc_Symbols_add) (B.2.2.2.1 _ k_811) (B.2.2.2.1 _ k_813) (B.2.2.2.1 _ ks_18) (B.2.2.2.1 _ k_4) ⟨by decide +kernel, by decide +kernel, by decide +kernel⟩ rfl d_Symbols_find_97 rfl (Nat.le_of_ble_eq_true rfl) ⟨by decide, by decide⟩ ⟨by decide, by decide⟩ ⟨by decide, by decide⟩ (mv_noH hno _) (fun w97 σ97 h97 => ?_)
    obtain ⟨rfl, rfl, s_g1⟩ := h97
    have r_g1 : mv_r g1 = mv_r h := s_g1.trans r_hz
    exact mv_iret (pc := 100) B hr rfl d_Symbols_find_100 (Nat.le_refl _) (Nat.le_refl _) ⟨_, rfl, xrh_i hf r_g1⟩
  have lp48 : ∀ (nn48 : Nat) (x2 : Int32) (x3 : Int32) (x4 : Int32) (x5 : Int32) (x6 : Int32) (hz : mv_H), mv_r hz = mv_r h → f_Symbols_find_12_48 nn48 x2 x3 x4 x5 x6 hz = some (rv, rg) → mv_V p l e ({ frames := 2, cells := 0, slots := 0, locals := 65 }) s m ([.ref (al 7), .ref (al 12), .int a1, .int a2] : List Value).toArray below meth c (mg dA D al ext) 7 0 0 (mv_Q (mg dA D al ext) below s 0 0 (mv_Ri (fun v σ1 => rv = v ∧ rg = σ1 ∧ mv_r σ1 = mv_r h))) hz 48 [(0, .ref (al 7)), (1, .ref (al 12)), (2, .int x2), (3, .int x3), (4, .int x4), (5, .int x5), (6, .int x6)] [] := by
    intro nn48
    induction nn48 with
    | zero => intro x2 x3 x4 x5 x6 hz r_hz hf; cases hf
    | succ nn48 ih48 =>
      intro x2 x3 x4 x5 x6 hz r_hz hf
      have hf : fF_Symbols_find_12_48 (f_Symbols_find_12_48 nn48) x2 x3 x4 x5 x6 hz = some (rv, rg) := hf
      unfold fF_Symbols_find_12_48 at hf
      refine mv_iload (pc := 48) B d_Symbols_find_48 6 rfl ?_
      refine mv_sipush (pc := 50) (v := 16448) B d_Symbols_find_50 (by decide) ?_
      refine mv_icmp_ge (pc := 53) (tgt := 91) B d_Symbols_find_53 rfl (fun h53 => ?_) (fun h53 => ?_)
      · skip
        have hf := xif_t h53 hf
        refine mv_lpick [0, 1, 2, 3, 4] rfl ?_
        exact jn91 _ _ _ _ r_hz hf
      · skip
        have hf := xif_f h53 hf
        refine mv_iload (pc := 56) B d_Symbols_find_56 5 rfl ?_
        refine mv_if_lt (pc := 58) (tgt := 91) B d_Symbols_find_58 rfl (fun h58 => ?_) (fun h58 => ?_)
        · skip
          have hf := xif_t h58 hf
          refine mv_lpick [0, 1, 2, 3, 4] rfl ?_
          exact jn91 _ _ _ _ r_hz hf
        · skip
          have hf := xif_f h58 hf
          refine mv_aload_n (pc := 61) B d_Symbols_find_61 rfl 0 rfl ?_
          refine mv_iload (pc := 62) B d_Symbols_find_62 5 rfl ?_
          refine mv_aload_n (pc := 64) B d_Symbols_find_64 rfl 1 rfl ?_
          refine mv_iload_n (pc := 65) B d_Symbols_find_65 rfl 2 rfl ?_
          refine mv_iload_n (pc := 66) B d_Symbols_find_66 rfl 3 rfl ?_
          obtain ⟨v4, g3, eg3, hf⟩ := xhb_e hf
          refine mv_callVi (pc := 67) (n := 4) (ci := 3) (C := R_Symbols) B (mK_ok sk sv) hNs rfl rfl (ch_Symbols_isSpelt_12 l hi _ (xrw r_hz hb) _ _ _ eg3) rfl (ma_goodc kc_Symbols_isSpelt) (B.2.2.2.1 _ k_807) (B.2.2.2.1 _ k_809) (B.2.2.2.1 _ ks_17) (B.2.2.2.1 _ k_4) ⟨by decide +kernel, by decide +kernel, by decide +kernel⟩ rfl d_Symbols_find_67 rfl (Nat.le_of_ble_eq_true rfl) ⟨by decide, by decide⟩ ⟨by decide, by decide⟩ ⟨by decide, by decide⟩ (mv_noH hno _) (fun w67 σ67 h67 => ?_)
          obtain ⟨rfl, rfl, s_g3⟩ := h67
          have r_g3 : mv_r g3 = mv_r h := s_g3.trans r_hz
          refine mv_if_eq (pc := 70) (tgt := 76) B d_Symbols_find_70 rfl (fun h70 => ?_) (fun h70 => ?_)
          · skip
            have hf := xif_t h70 hf
            refine mv_aload_n (pc := 76) B d_Symbols_find_76 rfl 0 rfl ?_
            refine mv_getR (pc := 77) (ci := 3) (C := R_Symbols) (T := F_Symbols) (N := 6) B 3 rfl rfl (by decide) i_Symbols (B.2.2.2.1 _ k_69) rfl ((congrFun (congrFun r_g3 7) 3).trans (hb.1 7 3 _ rfl)) d_Symbols_find_77 ?_
            refine mv_iload (pc := 80) B d_Symbols_find_80 5 rfl ?_
            obtain ⟨q5, hf⟩ := xvi_e hf
            refine mv_iald (pc := 82) B rfl q5 d_Symbols_find_82 ?_
            refine mv_istore (pc := 83) B d_Symbols_find_83 (by decide) rfl ?_
            refine mv_iinc (pc := 85) (j := 6) (v := 1) B d_Symbols_find_85 rfl (by decide) (by decide) rfl ?_
            refine mv_goto (pc := 88) (tgt := 48) B d_Symbols_find_88 rfl ?_
            refine mv_lpick [2, 3, 4, 5, 6, 1, 0] rfl ?_
            exact ih48 _ _ _ _ _ _ r_g3 hf
          · skip
            have hf := xif_f h70 hf
            refine mv_iload (pc := 73) B d_Symbols_find_73 5 rfl ?_
            exact mv_iret (pc := 75) B hr rfl d_Symbols_find_75 (Nat.le_refl _) (Nat.le_refl _) ⟨_, rfl, xrh_i hf r_g3⟩
  have lp6 : ∀ (nn6 : Nat) (x2 : Int32) (x3 : Int32) (x4 : Int32) (x5 : Int32) (hz : mv_H), mv_r hz = mv_r h → f_Symbols_find_12_6 nn6 x2 x3 x4 x5 hz = some (rv, rg) → mv_V p l e ({ frames := 2, cells := 0, slots := 0, locals := 65 }) s m ([.ref (al 7), .ref (al 12), .int a1, .int a2] : List Value).toArray below meth c (mg dA D al ext) 7 0 0 (mv_Q (mg dA D al ext) below s 0 0 (mv_Ri (fun v σ1 => rv = v ∧ rg = σ1 ∧ mv_r σ1 = mv_r h))) hz 6 [(0, .ref (al 7)), (1, .ref (al 12)), (2, .int x2), (3, .int x3), (4, .int x4), (5, .int x5)] [] := by
    intro nn6
    induction nn6 with
    | zero => intro x2 x3 x4 x5 hz r_hz hf; cases hf
    | succ nn6 ih6 =>
      intro x2 x3 x4 x5 hz r_hz hf
      have hf : fF_Symbols_find_12_6 (f_Symbols_find_12_6 nn6) x2 x3 x4 x5 hz = some (rv, rg) := hf
      unfold fF_Symbols_find_12_6 at hf
      refine mv_iload (pc := 6) B d_Symbols_find_6 5 rfl ?_
      refine mv_iload_n (pc := 8) B d_Symbols_find_8 rfl 3 rfl ?_
      refine mv_icmp_ge (pc := 9) (tgt := 36) B d_Symbols_find_9 rfl (fun h9 => ?_) (fun h9 => ?_)
      · skip
        have hf := xif_t h9 hf
        refine mv_aload_n (pc := 36) B d_Symbols_find_36 rfl 0 rfl ?_
        refine mv_getR (pc := 37) (ci := 3) (C := R_Symbols) (T := F_Symbols) (N := 6) B 2 rfl rfl (by decide) i_Symbols (B.2.2.2.1 _ k_68) rfl ((congrFun (congrFun r_hz 7) 2).trans (hb.1 7 2 _ rfl)) d_Symbols_find_37 ?_
        refine mv_iload (pc := 40) B d_Symbols_find_40 4 rfl ?_
        obtain ⟨q6, hf⟩ := xvi_e hf
        refine mv_iald (pc := 42) B rfl q6 d_Symbols_find_42 ?_
        refine mv_istore (pc := 43) B d_Symbols_find_43 (by decide) rfl ?_
        refine mv_iconst (pc := 45) (v := 0) B d_Symbols_find_45 (by decide) ?_
        refine mv_istore (pc := 46) B d_Symbols_find_46 (by decide) rfl ?_
        refine mv_lpick [2, 3, 4, 5, 6, 1, 0] rfl ?_
        exact lp48 _ _ _ _ _ _ _ r_hz hf
      · skip
        have hf := xif_f h9 hf
        refine mv_iload (pc := 12) B d_Symbols_find_12 4 rfl ?_
        refine mv_bipush (pc := 14) (v := 31) B d_Symbols_find_14 (by decide) ?_
        refine mv_imul (pc := 16) B d_Symbols_find_16 ?_
        refine mv_aload_n (pc := 17) B d_Symbols_find_17 rfl 1 rfl ?_
        refine mv_iload_n (pc := 18) B d_Symbols_find_18 rfl 2 rfl ?_
        refine mv_iload (pc := 19) B d_Symbols_find_19 5 rfl ?_
        refine mv_iadd (pc := 21) B d_Symbols_find_21 ?_
        obtain ⟨q7, hf⟩ := xvi_e hf
        refine mv_bald (pc := 22) B rfl q7 d_Symbols_find_22 ?_
        refine mv_iadd (pc := 23) B d_Symbols_find_23 ?_
        refine mv_sipush (pc := 24) (v := 1023) B d_Symbols_find_24 (by decide) ?_
        refine mv_iand (pc := 27) B d_Symbols_find_27 ?_
        refine mv_istore (pc := 28) B d_Symbols_find_28 (by decide) rfl ?_
        refine mv_iinc (pc := 30) (j := 5) (v := 1) B d_Symbols_find_30 rfl (by decide) (by decide) rfl ?_
        refine mv_goto (pc := 33) (tgt := 6) B d_Symbols_find_33 rfl ?_
        refine mv_lpick [2, 3, 4, 5, 1, 0] rfl ?_
        exact ih6 _ _ _ _ _ r_hz hf
  unfold f_Symbols_find_12 at hf
  refine mv_iconst (pc := 0) (v := 0) B d_Symbols_find_0 (by decide) ?_
  refine mv_istore (pc := 1) B d_Symbols_find_1 (by decide) rfl ?_
  refine mv_iconst (pc := 3) (v := 0) B d_Symbols_find_3 (by decide) ?_
  refine mv_istore (pc := 4) B d_Symbols_find_4 (by decide) rfl ?_
  refine mv_lpick [2, 3, 4, 5, 1, 0] rfl ?_
  exact lp6 _ _ _ _ _ _ rfl hf
def fF_Symbols_isSpelt_1_29 (k29 : Int32 → Int32 → Int32 → Int32 → mv_H → Option (Int32 × mv_H)) (x3 : Int32) (x4 : Int32) (x5 : Int32) (x6 : Int32) (hz : mv_H) : Option (Int32 × mv_H) := if x4 ≤ x6 then (bif xzb (1 : Int32) then some ((1 : Int32), hz) else none) else (bif xvi (x5 + x6) 32896 then bif xvi (x3 + x6) 32768 then if (mv_a hz 8 ((x5 + x6)).toNatClampNeg) = (mv_a hz 1 ((x3 + x6)).toNatClampNeg) then (k29 x3 x4 x5 (x6 + 1) hz) else (bif xzb (0 : Int32) then some ((0 : Int32), hz) else none) else none else none)
def f_Symbols_isSpelt_1_29 : Nat → Int32 → Int32 → Int32 → Int32 → mv_H → Option (Int32 × mv_H)
  | 0 => fun _ _ _ _ _ => none
  | nn + 1 => fF_Symbols_isSpelt_1_29 (f_Symbols_isSpelt_1_29 nn)
def f_Symbols_isSpelt_1 (h : mv_H) (a0 : Int32) (a2 : Int32) (a3 : Int32) : Option (Int32 × mv_H) := bif xvi a0 16449 then bif xvi (a0 + (1 : Int32)) 16449 then if ((mv_a h 9 ((a0 + (1 : Int32))).toNatClampNeg) - (mv_a h 9 (a0).toNatClampNeg)) = a3 then (f_Symbols_isSpelt_1_29 200000 a2 a3 (mv_a h 9 (a0).toNatClampNeg) (0 : Int32) h) else (bif xzb (0 : Int32) then some ((0 : Int32), h) else none) else none else none
set_option maxHeartbeats 4000000 in
set_option maxRecDepth 100000 in
theorem ch_Symbols_isSpelt_1 (l : Launch) {dA : FieldType → ClassId} {D : va_G} {al : Nat → Nat} {ext : mv_Sh} {sk sv : Nat → Nat} (hi : mv_inj (mg dA D al ext)) (h : mv_H) (hb : xRT (mv_r h))  (a0 : Int32) (a2 : Int32) (a3 : Int32) {rv : Int32} {rg : mv_H} (hf : f_Symbols_isSpelt_1 h a0 a2 a3 = some (rv, rg)) : mv_C l y_Symbols_isSpelt (Cond.code y_Symbols_isSpelt b_Symbols_isSpelt 7 (Option.some Jvm.ClassFile.FieldType.boolean) :: ma) ({ frames := 0, cells := 0, slots := 0, locals := 0 }) (mg dA D al ext) (mK sk sv) [.ref (al 7), .int a0, .ref (al 1), .int a2, .int a3] h (mv_Ri (fun v σ1 => rv = v ∧ rg = σ1 ∧ mv_r σ1 = mv_r h)) := by
  refine mv_C.ofV (cc := b_Symbols_isSpelt) (nL := 7) (ret := (Option.some Jvm.ClassFile.FieldType.boolean)) (by decide +kernel) rfl hi (Nat.le_of_ble_eq_true rfl) ?_
  intro p e s m below meth c B hNs hr hnm hno
  have lp29 : ∀ (nn29 : Nat) (x3 : Int32) (x4 : Int32) (x5 : Int32) (x6 : Int32) (hz : mv_H), mv_r hz = mv_r h → f_Symbols_isSpelt_1_29 nn29 x3 x4 x5 x6 hz = some (rv, rg) → mv_V p l e ({ frames := 0, cells := 0, slots := 0, locals := 0 }) s m ([.ref (al 7), .int a0, .ref (al 1), .int a2, .int a3] : List Value).toArray below meth c (mg dA D al ext) 7 0 0 (mv_Q (mg dA D al ext) below s 0 0 (mv_Ri (fun v σ1 => rv = v ∧ rg = σ1 ∧ mv_r σ1 = mv_r h))) hz 29 [(0, .ref (al 7)), (2, .ref (al 1)), (3, .int x3), (4, .int x4), (5, .int x5), (6, .int x6)] [] := by
    intro nn29
    induction nn29 with
    | zero => intro x3 x4 x5 x6 hz r_hz hf; cases hf
    | succ nn29 ih29 =>
      intro x3 x4 x5 x6 hz r_hz hf
      have hf : fF_Symbols_isSpelt_1_29 (f_Symbols_isSpelt_1_29 nn29) x3 x4 x5 x6 hz = some (rv, rg) := hf
      unfold fF_Symbols_isSpelt_1_29 at hf
      refine mv_iload (pc := 29) B d_Symbols_isSpelt_29 5 rfl ?_
      refine mv_iload (pc := 31) B d_Symbols_isSpelt_31 3 rfl ?_
      refine mv_icmp_ge (pc := 33) (tgt := 63) B d_Symbols_isSpelt_33 rfl (fun h33 => ?_) (fun h33 => ?_)
      · skip
        have hf := xif_t h33 hf
        refine mv_iconst (pc := 63) (v := 1) B d_Symbols_isSpelt_63 (by decide) ?_
        obtain ⟨q1, hf⟩ := xzb_e hf
        exact mv_iret (pc := 64) B hr (xzb_n q1) d_Symbols_isSpelt_64 (Nat.le_refl _) (Nat.le_refl _) ⟨_, rfl, xrh_i hf r_hz⟩
      · skip
        have hf := xif_f h33 hf
        refine mv_aload_n (pc := 36) B d_Symbols_isSpelt_36 rfl 0 rfl ?_
        refine mv_getR (pc := 37) (ci := 3) (C := R_Symbols) (T := F_Symbols) (N := 6) B 0 rfl rfl (by decide) i_Symbols (B.2.2.2.1 _ k_66) rfl ((congrFun (congrFun r_hz 7) 0).trans (hb.1 7 0 _ rfl)) d_Symbols_isSpelt_37 ?_
        refine mv_iload (pc := 40) B d_Symbols_isSpelt_40 4 rfl ?_
        refine mv_iload (pc := 42) B d_Symbols_isSpelt_42 5 rfl ?_
        refine mv_iadd (pc := 44) B d_Symbols_isSpelt_44 ?_
        obtain ⟨q2, hf⟩ := xvi_e hf
        refine mv_bald (pc := 45) B rfl q2 d_Symbols_isSpelt_45 ?_
        refine mv_aload_n (pc := 46) B d_Symbols_isSpelt_46 rfl 1 rfl ?_
        refine mv_iload_n (pc := 47) B d_Symbols_isSpelt_47 rfl 2 rfl ?_
        refine mv_iload (pc := 48) B d_Symbols_isSpelt_48 5 rfl ?_
        refine mv_iadd (pc := 50) B d_Symbols_isSpelt_50 ?_
        obtain ⟨q3, hf⟩ := xvi_e hf
        refine mv_bald (pc := 51) B rfl q3 d_Symbols_isSpelt_51 ?_
        refine mv_icmp_eq (pc := 52) (tgt := 57) B d_Symbols_isSpelt_52 rfl (fun h52 => ?_) (fun h52 => ?_)
        · skip
          have hf := xif_t h52 hf
          refine mv_iinc (pc := 57) (j := 5) (v := 1) B d_Symbols_isSpelt_57 rfl (by decide) (by decide) rfl ?_
          refine mv_goto (pc := 60) (tgt := 29) B d_Symbols_isSpelt_60 rfl ?_
          refine mv_lpick [1, 2, 3, 4, 5, 0] rfl ?_
          exact ih29 _ _ _ _ _ r_hz hf
        · skip
          have hf := xif_f h52 hf
          refine mv_iconst (pc := 55) (v := 0) B d_Symbols_isSpelt_55 (by decide) ?_
          obtain ⟨q4, hf⟩ := xzb_e hf
          exact mv_iret (pc := 56) B hr (xzb_n q4) d_Symbols_isSpelt_56 (Nat.le_refl _) (Nat.le_refl _) ⟨_, rfl, xrh_i hf r_hz⟩
  unfold f_Symbols_isSpelt_1 at hf
  refine mv_aload_n (pc := 0) B d_Symbols_isSpelt_0 rfl 0 rfl ?_
  refine mv_getR (pc := 1) (ci := 3) (C := R_Symbols) (T := F_Symbols) (N := 6) B 1 rfl rfl (by decide) i_Symbols (B.2.2.2.1 _ k_67) rfl (hb.1 7 1 _ rfl) d_Symbols_isSpelt_1 ?_
  refine mv_iload_n (pc := 4) B d_Symbols_isSpelt_4 rfl 1 rfl ?_
  obtain ⟨q5, hf⟩ := xvi_e hf
  refine mv_iald (pc := 5) B rfl q5 d_Symbols_isSpelt_5 ?_
  refine mv_istore (pc := 6) B d_Symbols_isSpelt_6 (by decide) rfl ?_
  refine mv_aload_n (pc := 8) B d_Symbols_isSpelt_8 rfl 1 rfl ?_
  refine mv_getR (pc := 9) (ci := 3) (C := R_Symbols) (T := F_Symbols) (N := 6) B 1 rfl rfl (by decide) i_Symbols (B.2.2.2.1 _ k_67) rfl (hb.1 7 1 _ rfl) d_Symbols_isSpelt_9 ?_
  refine mv_iload_n (pc := 12) B d_Symbols_isSpelt_12 rfl 2 rfl ?_
  refine mv_iconst (pc := 13) (v := 1) B d_Symbols_isSpelt_13 (by decide) ?_
  refine mv_iadd (pc := 14) B d_Symbols_isSpelt_14 ?_
  obtain ⟨q6, hf⟩ := xvi_e hf
  refine mv_iald (pc := 15) B rfl q6 d_Symbols_isSpelt_15 ?_
  refine mv_iload (pc := 16) B d_Symbols_isSpelt_16 0 rfl ?_
  refine mv_isub (pc := 18) B d_Symbols_isSpelt_18 ?_
  refine mv_iload (pc := 19) B d_Symbols_isSpelt_19 5 rfl ?_
  refine mv_icmp_eq (pc := 21) (tgt := 26) B d_Symbols_isSpelt_21 rfl (fun h21 => ?_) (fun h21 => ?_)
  · skip
    have hf := xif_t h21 hf
    refine mv_iconst (pc := 26) (v := 0) B d_Symbols_isSpelt_26 (by decide) ?_
    refine mv_istore (pc := 27) B d_Symbols_isSpelt_27 (by decide) rfl ?_
    refine mv_lpick [2, 4, 5, 6, 1, 0] rfl ?_
    exact lp29 _ _ _ _ _ _ rfl hf
  · skip
    have hf := xif_f h21 hf
    refine mv_iconst (pc := 24) (v := 0) B d_Symbols_isSpelt_24 (by decide) ?_
    obtain ⟨q7, hf⟩ := xzb_e hf
    exact mv_iret (pc := 25) B hr (xzb_n q7) d_Symbols_isSpelt_25 (Nat.le_refl _) (Nat.le_refl _) ⟨_, rfl, xrh_i hf rfl⟩
def f_Symbols_add_1 (h : mv_H) (a0 : Int32) (a2 : Int32) (a3 : Int32) : Option (Int32 × mv_H) := bif xvi (mv_i h 7 5) 16449 then bif xvc h 1 32768 32896 a2 (mv_a h 9 ((mv_i h 7 5)).toNatClampNeg) a3 then xk (mv_ca h 8 (va_cpy (mv_a h 1) (mv_a h 8) (a2).toNatClampNeg ((mv_a h 9 ((mv_i h 7 5)).toNatClampNeg)).toNatClampNeg (a3).toNatClampNeg)) fun g3 => bif xvi (mv_i h 7 5) 16449 then bif xvi ((mv_i h 7 5) + (1 : Int32)) 16449 then xk (mv_sa g3 9 (((mv_i h 7 5) + (1 : Int32))).toNatClampNeg ((mv_a g3 9 ((mv_i h 7 5)).toNatClampNeg) + a3)) fun g6 => bif xvi a0 1024 then bif xvi (mv_i h 7 5) 16448 then xk (mv_sa g6 11 ((mv_i h 7 5)).toNatClampNeg (mv_a g6 10 (a0).toNatClampNeg)) fun g9 => bif xvi a0 1024 then xk (mv_sa g9 10 (a0).toNatClampNeg (mv_i h 7 5)) fun g11 => xk (mv_si g11 7 5 ((mv_i g11 7 5) + (1 : Int32))) fun g12 => some ((mv_i h 7 5), g12) else none else none else none else none else none else none else none
set_option maxHeartbeats 4000000 in
set_option maxRecDepth 100000 in
theorem ch_Symbols_add_1 (l : Launch) {dA : FieldType → ClassId} {D : va_G} {al : Nat → Nat} {ext : mv_Sh} {sk sv : Nat → Nat} (hi : mv_inj (mg dA D al ext)) (h : mv_H) (hb : xRT (mv_r h))  (a0 : Int32) (a2 : Int32) (a3 : Int32) {rv : Int32} {rg : mv_H} (hf : f_Symbols_add_1 h a0 a2 a3 = some (rv, rg)) : mv_C l y_Symbols_add (Cond.code y_Symbols_add b_Symbols_add 6 (Option.some Jvm.ClassFile.FieldType.int) :: ma) ({ frames := 1, cells := 0, slots := 0, locals := 40 }) (mg dA D al ext) (mK sk sv) [.ref (al 7), .int a0, .ref (al 1), .int a2, .int a3] h (mv_Ri (fun v σ1 => rv = v ∧ rg = σ1 ∧ mv_r σ1 = mv_r h)) := by
  refine mv_C.ofV (cc := b_Symbols_add) (nL := 6) (ret := (Option.some Jvm.ClassFile.FieldType.int)) (by decide +kernel) rfl hi (Nat.le_of_ble_eq_true rfl) ?_
  intro p e s m below meth c B hNs hr hnm hno
  unfold f_Symbols_add_1 at hf
  refine mv_aload_n (pc := 0) B d_Symbols_add_0 rfl 0 rfl ?_
  refine mv_getI (pc := 1) (ci := 3) (C := R_Symbols) (T := F_Symbols) (N := 6) B 5 rfl rfl (by decide) i_Symbols (B.2.2.2.1 _ k_72) rfl d_Symbols_add_1 ?_
  refine mv_istore (pc := 4) B d_Symbols_add_4 (by decide) rfl ?_
  refine mv_aload_n (pc := 6) B d_Symbols_add_6 rfl 3 rfl ?_
  refine mv_iload_n (pc := 7) B d_Symbols_add_7 rfl 4 rfl ?_
  refine mv_aload_n (pc := 8) B d_Symbols_add_8 rfl 1 rfl ?_
  refine mv_getR (pc := 9) (ci := 3) (C := R_Symbols) (T := F_Symbols) (N := 6) B 0 rfl rfl (by decide) i_Symbols (B.2.2.2.1 _ k_66) rfl (hb.1 7 0 _ rfl) d_Symbols_add_9 ?_
  refine mv_aload_n (pc := 12) B d_Symbols_add_12 rfl 1 rfl ?_
  refine mv_getR (pc := 13) (ci := 3) (C := R_Symbols) (T := F_Symbols) (N := 6) B 1 rfl rfl (by decide) i_Symbols (B.2.2.2.1 _ k_67) rfl (hb.1 7 1 _ rfl) d_Symbols_add_13 ?_
  refine mv_iload (pc := 16) B d_Symbols_add_16 0 rfl ?_
  obtain ⟨q1, hf⟩ := xvi_e hf
  refine mv_iald (pc := 18) B rfl q1 d_Symbols_add_18 ?_
  refine mv_iload (pc := 19) B d_Symbols_add_19 5 rfl ?_
  obtain ⟨q2, hf⟩ := xvc_e hf
  refine mv_copyb (pc := 21) B (B.2.2.2.1 _ k_815) (B.2.2.2.1 _ k_817) (B.2.2.2.1 _ k_816) (B.2.2.2.1 _ k_25) rfl rfl q2.1 q2.2.1 q2.2.2.1 q2.2.2.2.1 q2.2.2.2.2.1 q2.2.2.2.2.2 (by decide) (by decide) d_Symbols_add_21 ?_
  refine mvh_hp (R9 := mv_r h) hf rfl (fun g3 hf r_g3 => ?_)
  refine mv_aload_n (pc := 24) B d_Symbols_add_24 rfl 1 rfl ?_
  refine mv_getR (pc := 25) (ci := 3) (C := R_Symbols) (T := F_Symbols) (N := 6) B 1 rfl rfl (by decide) i_Symbols (B.2.2.2.1 _ k_67) rfl ((congrFun (congrFun r_g3 7) 1).trans (hb.1 7 1 _ rfl)) d_Symbols_add_25 ?_
  refine mv_iload (pc := 28) B d_Symbols_add_28 0 rfl ?_
  refine mv_iconst (pc := 30) (v := 1) B d_Symbols_add_30 (by decide) ?_
  refine mv_iadd (pc := 31) B d_Symbols_add_31 ?_
  refine mv_aload_n (pc := 32) B d_Symbols_add_32 rfl 1 rfl ?_
  refine mv_getR (pc := 33) (ci := 3) (C := R_Symbols) (T := F_Symbols) (N := 6) B 1 rfl rfl (by decide) i_Symbols (B.2.2.2.1 _ k_67) rfl ((congrFun (congrFun r_g3 7) 1).trans (hb.1 7 1 _ rfl)) d_Symbols_add_33 ?_
  refine mv_iload (pc := 36) B d_Symbols_add_36 0 rfl ?_
  obtain ⟨q4, hf⟩ := xvi_e hf
  refine mv_iald (pc := 38) B rfl q4 d_Symbols_add_38 ?_
  refine mv_iload (pc := 39) B d_Symbols_add_39 5 rfl ?_
  refine mv_iadd (pc := 41) B d_Symbols_add_41 ?_
  obtain ⟨q5, hf⟩ := xvi_e hf
  refine mv_iast (pc := 42) B rfl q5 d_Symbols_add_42 ?_
  refine mvh_hp (R9 := mv_r h) hf r_g3 (fun g6 hf r_g6 => ?_)
  refine mv_aload_n (pc := 43) B d_Symbols_add_43 rfl 1 rfl ?_
  refine mv_getR (pc := 44) (ci := 3) (C := R_Symbols) (T := F_Symbols) (N := 6) B 3 rfl rfl (by decide) i_Symbols (B.2.2.2.1 _ k_69) rfl ((congrFun (congrFun r_g6 7) 3).trans (hb.1 7 3 _ rfl)) d_Symbols_add_44 ?_
  refine mv_iload (pc := 47) B d_Symbols_add_47 0 rfl ?_
  refine mv_aload_n (pc := 49) B d_Symbols_add_49 rfl 1 rfl ?_
  refine mv_getR (pc := 50) (ci := 3) (C := R_Symbols) (T := F_Symbols) (N := 6) B 2 rfl rfl (by decide) i_Symbols (B.2.2.2.1 _ k_68) rfl ((congrFun (congrFun r_g6 7) 2).trans (hb.1 7 2 _ rfl)) d_Symbols_add_50 ?_
  refine mv_iload_n (pc := 53) B d_Symbols_add_53 rfl 2 rfl ?_
  obtain ⟨q7, hf⟩ := xvi_e hf
  refine mv_iald (pc := 54) B rfl q7 d_Symbols_add_54 ?_
  obtain ⟨q8, hf⟩ := xvi_e hf
  refine mv_iast (pc := 55) B rfl q8 d_Symbols_add_55 ?_
  refine mvh_hp (R9 := mv_r h) hf r_g6 (fun g9 hf r_g9 => ?_)
  refine mv_aload_n (pc := 56) B d_Symbols_add_56 rfl 1 rfl ?_
  refine mv_getR (pc := 57) (ci := 3) (C := R_Symbols) (T := F_Symbols) (N := 6) B 2 rfl rfl (by decide) i_Symbols (B.2.2.2.1 _ k_68) rfl ((congrFun (congrFun r_g9 7) 2).trans (hb.1 7 2 _ rfl)) d_Symbols_add_57 ?_
  refine mv_iload_n (pc := 60) B d_Symbols_add_60 rfl 2 rfl ?_
  refine mv_iload (pc := 61) B d_Symbols_add_61 0 rfl ?_
  obtain ⟨q10, hf⟩ := xvi_e hf
  refine mv_iast (pc := 63) B rfl q10 d_Symbols_add_63 ?_
  refine mvh_hp (R9 := mv_r h) hf r_g9 (fun g11 hf r_g11 => ?_)
  refine mv_aload_n (pc := 64) B d_Symbols_add_64 rfl 1 rfl ?_
  refine mv_dup (pc := 65) B d_Symbols_add_65 rfl ?_
  refine mv_getI (pc := 66) (ci := 3) (C := R_Symbols) (T := F_Symbols) (N := 6) B 5 rfl rfl (by decide) i_Symbols (B.2.2.2.1 _ k_72) rfl d_Symbols_add_66 ?_
  refine mv_iconst (pc := 69) (v := 1) B d_Symbols_add_69 (by decide) ?_
  refine mv_iadd (pc := 70) B d_Symbols_add_70 ?_
  refine mv_putI (pc := 71) (ci := 3) (C := R_Symbols) (T := F_Symbols) (N := 6) B 5 rfl rfl (by decide) i_Symbols t_Symbols_ok n_Symbols (B.2.2.2.1 _ k_72) rfl rfl rfl rfl d_Symbols_add_71 ?_
  refine mvh_hp (R9 := mv_r h) hf r_g11 (fun g12 hf r_g12 => ?_)
  refine mv_iload (pc := 74) B d_Symbols_add_74 0 rfl ?_
  exact mv_iret (pc := 76) B hr rfl d_Symbols_add_76 (Nat.le_refl _) (Nat.le_refl _) ⟨_, rfl, xrh_i hf r_g12⟩
def f_Symbols_find_1_91 (x2 : Int32) (x3 : Int32) (x4 : Int32) (hz : mv_H) : Option (Int32 × mv_H) := xhb (f_Symbols_add_1 hz x4 x2 x3) fun v2 g1 => some (v2, g1)
def fF_Symbols_find_1_48 (k48 : Int32 → Int32 → Int32 → Int32 → Int32 → mv_H → Option (Int32 × mv_H)) (x2 : Int32) (x3 : Int32) (x4 : Int32) (x5 : Int32) (x6 : Int32) (hz : mv_H) : Option (Int32 × mv_H) := if (16448 : Int32) ≤ x6 then (f_Symbols_find_1_91 x2 x3 x4 hz) else (if x5 < (0 : Int32) then (f_Symbols_find_1_91 x2 x3 x4 hz) else (xhb (f_Symbols_isSpelt_1 hz x5 x2 x3) fun v4 g3 => if v4 = (0 : Int32) then (bif xvi x5 16448 then k48 x2 x3 x4 (mv_a g3 11 (x5).toNatClampNeg) (x6 + 1) g3 else none) else (some (x5, g3))))
def f_Symbols_find_1_48 : Nat → Int32 → Int32 → Int32 → Int32 → Int32 → mv_H → Option (Int32 × mv_H)
  | 0 => fun _ _ _ _ _ _ => none
  | nn + 1 => fF_Symbols_find_1_48 (f_Symbols_find_1_48 nn)
def fF_Symbols_find_1_6 (k6 : Int32 → Int32 → Int32 → Int32 → mv_H → Option (Int32 × mv_H)) (x2 : Int32) (x3 : Int32) (x4 : Int32) (x5 : Int32) (hz : mv_H) : Option (Int32 × mv_H) := if x3 ≤ x5 then (bif xvi x4 1024 then f_Symbols_find_1_48 200000 x2 x3 x4 (mv_a hz 10 (x4).toNatClampNeg) (0 : Int32) hz else none) else (bif xvi (x2 + x5) 32768 then k6 x2 x3 (((x4 * (31 : Int32)) + (mv_a hz 1 ((x2 + x5)).toNatClampNeg)) &&& (1023 : Int32)) (x5 + 1) hz else none)
def f_Symbols_find_1_6 : Nat → Int32 → Int32 → Int32 → Int32 → mv_H → Option (Int32 × mv_H)
  | 0 => fun _ _ _ _ _ => none
  | nn + 1 => fF_Symbols_find_1_6 (f_Symbols_find_1_6 nn)
def f_Symbols_find_1 (h : mv_H) (a1 : Int32) (a2 : Int32) : Option (Int32 × mv_H) := f_Symbols_find_1_6 200000 a1 a2 (0 : Int32) (0 : Int32) h
set_option maxHeartbeats 4000000 in
set_option maxRecDepth 100000 in
theorem ch_Symbols_find_1 (l : Launch) {dA : FieldType → ClassId} {D : va_G} {al : Nat → Nat} {ext : mv_Sh} {sk sv : Nat → Nat} (hi : mv_inj (mg dA D al ext)) (h : mv_H) (hb : xRT (mv_r h))  (a1 : Int32) (a2 : Int32) {rv : Int32} {rg : mv_H} (hf : f_Symbols_find_1 h a1 a2 = some (rv, rg)) : mv_C l y_Symbols_find (Cond.code y_Symbols_find b_Symbols_find 7 (Option.some Jvm.ClassFile.FieldType.int) :: ma) ({ frames := 2, cells := 0, slots := 0, locals := 65 }) (mg dA D al ext) (mK sk sv) [.ref (al 7), .ref (al 1), .int a1, .int a2] h (mv_Ri (fun v σ1 => rv = v ∧ rg = σ1 ∧ mv_r σ1 = mv_r h)) := by
  refine mv_C.ofV (cc := b_Symbols_find) (nL := 7) (ret := (Option.some Jvm.ClassFile.FieldType.int)) (by decide +kernel) rfl hi (Nat.le_of_ble_eq_true rfl) ?_
  intro p e s m below meth c B hNs hr hnm hno
  have jn91 : ∀ (x2 : Int32) (x3 : Int32) (x4 : Int32) (hz : mv_H), mv_r hz = mv_r h → f_Symbols_find_1_91 x2 x3 x4 hz = some (rv, rg) → mv_V p l e ({ frames := 2, cells := 0, slots := 0, locals := 65 }) s m ([.ref (al 7), .ref (al 1), .int a1, .int a2] : List Value).toArray below meth c (mg dA D al ext) 7 0 0 (mv_Q (mg dA D al ext) below s 0 0 (mv_Ri (fun v σ1 => rv = v ∧ rg = σ1 ∧ mv_r σ1 = mv_r h))) hz 91 [(0, .ref (al 7)), (1, .ref (al 1)), (2, .int x2), (3, .int x3), (4, .int x4)] [] := by
    intro x2 x3 x4 hz r_hz hf
    unfold f_Symbols_find_1_91 at hf
    refine mv_aload_n (pc := 91) B d_Symbols_find_91 rfl 0 rfl ?_
    refine mv_iload (pc := 92) B d_Symbols_find_92 4 rfl ?_
    refine mv_aload_n (pc := 94) B d_Symbols_find_94 rfl 1 rfl ?_
    refine mv_iload_n (pc := 95) B d_Symbols_find_95 rfl 2 rfl ?_
    refine mv_iload_n (pc := 96) B d_Symbols_find_96 rfl 3 rfl ?_
    obtain ⟨v2, g1, eg1, hf⟩ := xhb_e hf
    refine mv_callVi (pc := 97) (n := 4) (ci := 3) (C := R_Symbols) B (mK_ok sk sv) hNs rfl rfl (ch_Symbols_add_1 l hi _ (xrw r_hz hb) _ _ _ eg1) rfl (ma_goodc kc_Symbols_add) (B.2.2.2.1 _ k_811) (B.2.2.2.1 _ k_813) (B.2.2.2.1 _ ks_18) (B.2.2.2.1 _ k_4) ⟨by decide +kernel, by decide +kernel, by decide +kernel⟩ rfl d_Symbols_find_97 rfl (Nat.le_of_ble_eq_true rfl) ⟨by decide, by decide⟩ ⟨by decide, by decide⟩ ⟨by decide, by decide⟩ (mv_noH hno _) (fun w97 σ97 h97 => ?_)
    obtain ⟨rfl, rfl, s_g1⟩ := h97
    have r_g1 : mv_r g1 = mv_r h := s_g1.trans r_hz
    exact mv_iret (pc := 100) B hr rfl d_Symbols_find_100 (Nat.le_refl _) (Nat.le_refl _) ⟨_, rfl, xrh_i hf r_g1⟩
  have lp48 : ∀ (nn48 : Nat) (x2 : Int32) (x3 : Int32) (x4 : Int32) (x5 : Int32) (x6 : Int32) (hz : mv_H), mv_r hz = mv_r h → f_Symbols_find_1_48 nn48 x2 x3 x4 x5 x6 hz = some (rv, rg) → mv_V p l e ({ frames := 2, cells := 0, slots := 0, locals := 65 }) s m ([.ref (al 7), .ref (al 1), .int a1, .int a2] : List Value).toArray below meth c (mg dA D al ext) 7 0 0 (mv_Q (mg dA D al ext) below s 0 0 (mv_Ri (fun v σ1 => rv = v ∧ rg = σ1 ∧ mv_r σ1 = mv_r h))) hz 48 [(0, .ref (al 7)), (1, .ref (al 1)), (2, .int x2), (3, .int x3), (4, .int x4), (5, .int x5), (6, .int x6)] [] := by
    intro nn48
    induction nn48 with
    | zero => intro x2 x3 x4 x5 x6 hz r_hz hf; cases hf
    | succ nn48 ih48 =>
      intro x2 x3 x4 x5 x6 hz r_hz hf
      have hf : fF_Symbols_find_1_48 (f_Symbols_find_1_48 nn48) x2 x3 x4 x5 x6 hz = some (rv, rg) := hf
      unfold fF_Symbols_find_1_48 at hf
      refine mv_iload (pc := 48) B d_Symbols_find_48 6 rfl ?_
      refine mv_sipush (pc := 50) (v := 16448) B d_Symbols_find_50 (by decide) ?_
      refine mv_icmp_ge (pc := 53) (tgt := 91) B d_Symbols_find_53 rfl (fun h53 => ?_) (fun h53 => ?_)
      · skip
        have hf := xif_t h53 hf
        refine mv_lpick [0, 1, 2, 3, 4] rfl ?_
        exact jn91 _ _ _ _ r_hz hf
      · skip
        have hf := xif_f h53 hf
        refine mv_iload (pc := 56) B d_Symbols_find_56 5 rfl ?_
        refine mv_if_lt (pc := 58) (tgt := 91) B d_Symbols_find_58 rfl (fun h58 => ?_) (fun h58 => ?_)
        · skip
          have hf := xif_t h58 hf
          refine mv_lpick [0, 1, 2, 3, 4] rfl ?_
          exact jn91 _ _ _ _ r_hz hf
        · skip
          have hf := xif_f h58 hf
          refine mv_aload_n (pc := 61) B d_Symbols_find_61 rfl 0 rfl ?_
          refine mv_iload (pc := 62) B d_Symbols_find_62 5 rfl ?_
          refine mv_aload_n (pc := 64) B d_Symbols_find_64 rfl 1 rfl ?_
          refine mv_iload_n (pc := 65) B d_Symbols_find_65 rfl 2 rfl ?_
          refine mv_iload_n (pc := 66) B d_Symbols_find_66 rfl 3 rfl ?_
          obtain ⟨v4, g3, eg3, hf⟩ := xhb_e hf
          refine mv_callVi (pc := 67) (n := 4) (ci := 3) (C := R_Symbols) B (mK_ok sk sv) hNs rfl rfl (ch_Symbols_isSpelt_1 l hi _ (xrw r_hz hb) _ _ _ eg3) rfl (ma_goodc kc_Symbols_isSpelt) (B.2.2.2.1 _ k_807) (B.2.2.2.1 _ k_809) (B.2.2.2.1 _ ks_17) (B.2.2.2.1 _ k_4) ⟨by decide +kernel, by decide +kernel, by decide +kernel⟩ rfl d_Symbols_find_67 rfl (Nat.le_of_ble_eq_true rfl) ⟨by decide, by decide⟩ ⟨by decide, by decide⟩ ⟨by decide, by decide⟩ (mv_noH hno _) (fun w67 σ67 h67 => ?_)
          obtain ⟨rfl, rfl, s_g3⟩ := h67
          have r_g3 : mv_r g3 = mv_r h := s_g3.trans r_hz
          refine mv_if_eq (pc := 70) (tgt := 76) B d_Symbols_find_70 rfl (fun h70 => ?_) (fun h70 => ?_)
          · skip
            have hf := xif_t h70 hf
            refine mv_aload_n (pc := 76) B d_Symbols_find_76 rfl 0 rfl ?_
            refine mv_getR (pc := 77) (ci := 3) (C := R_Symbols) (T := F_Symbols) (N := 6) B 3 rfl rfl (by decide) i_Symbols (B.2.2.2.1 _ k_69) rfl ((congrFun (congrFun r_g3 7) 3).trans (hb.1 7 3 _ rfl)) d_Symbols_find_77 ?_
            refine mv_iload (pc := 80) B d_Symbols_find_80 5 rfl ?_
            obtain ⟨q5, hf⟩ := xvi_e hf
            refine mv_iald (pc := 82) B rfl q5 d_Symbols_find_82 ?_
            refine mv_istore (pc := 83) B d_Symbols_find_83 (by decide) rfl ?_
            refine mv_iinc (pc := 85) (j := 6) (v := 1) B d_Symbols_find_85 rfl (by decide) (by decide) rfl ?_
            refine mv_goto (pc := 88) (tgt := 48) B d_Symbols_find_88 rfl ?_
            refine mv_lpick [2, 3, 4, 5, 6, 1, 0] rfl ?_
            exact ih48 _ _ _ _ _ _ r_g3 hf
          · skip
            have hf := xif_f h70 hf
            refine mv_iload (pc := 73) B d_Symbols_find_73 5 rfl ?_
            exact mv_iret (pc := 75) B hr rfl d_Symbols_find_75 (Nat.le_refl _) (Nat.le_refl _) ⟨_, rfl, xrh_i hf r_g3⟩
  have lp6 : ∀ (nn6 : Nat) (x2 : Int32) (x3 : Int32) (x4 : Int32) (x5 : Int32) (hz : mv_H), mv_r hz = mv_r h → f_Symbols_find_1_6 nn6 x2 x3 x4 x5 hz = some (rv, rg) → mv_V p l e ({ frames := 2, cells := 0, slots := 0, locals := 65 }) s m ([.ref (al 7), .ref (al 1), .int a1, .int a2] : List Value).toArray below meth c (mg dA D al ext) 7 0 0 (mv_Q (mg dA D al ext) below s 0 0 (mv_Ri (fun v σ1 => rv = v ∧ rg = σ1 ∧ mv_r σ1 = mv_r h))) hz 6 [(0, .ref (al 7)), (1, .ref (al 1)), (2, .int x2), (3, .int x3), (4, .int x4), (5, .int x5)] [] := by
    intro nn6
    induction nn6 with
    | zero => intro x2 x3 x4 x5 hz r_hz hf; cases hf
    | succ nn6 ih6 =>
      intro x2 x3 x4 x5 hz r_hz hf
      have hf : fF_Symbols_find_1_6 (f_Symbols_find_1_6 nn6) x2 x3 x4 x5 hz = some (rv, rg) := hf
      unfold fF_Symbols_find_1_6 at hf
      refine mv_iload (pc := 6) B d_Symbols_find_6 5 rfl ?_
      refine mv_iload_n (pc := 8) B d_Symbols_find_8 rfl 3 rfl ?_
      refine mv_icmp_ge (pc := 9) (tgt := 36) B d_Symbols_find_9 rfl (fun h9 => ?_) (fun h9 => ?_)
      · skip
        have hf := xif_t h9 hf
        refine mv_aload_n (pc := 36) B d_Symbols_find_36 rfl 0 rfl ?_
        refine mv_getR (pc := 37) (ci := 3) (C := R_Symbols) (T := F_Symbols) (N := 6) B 2 rfl rfl (by decide) i_Symbols (B.2.2.2.1 _ k_68) rfl ((congrFun (congrFun r_hz 7) 2).trans (hb.1 7 2 _ rfl)) d_Symbols_find_37 ?_
        refine mv_iload (pc := 40) B d_Symbols_find_40 4 rfl ?_
        obtain ⟨q6, hf⟩ := xvi_e hf
        refine mv_iald (pc := 42) B rfl q6 d_Symbols_find_42 ?_
        refine mv_istore (pc := 43) B d_Symbols_find_43 (by decide) rfl ?_
        refine mv_iconst (pc := 45) (v := 0) B d_Symbols_find_45 (by decide) ?_
        refine mv_istore (pc := 46) B d_Symbols_find_46 (by decide) rfl ?_
        refine mv_lpick [2, 3, 4, 5, 6, 1, 0] rfl ?_
        exact lp48 _ _ _ _ _ _ _ r_hz hf
      · skip
        have hf := xif_f h9 hf
        refine mv_iload (pc := 12) B d_Symbols_find_12 4 rfl ?_
        refine mv_bipush (pc := 14) (v := 31) B d_Symbols_find_14 (by decide) ?_
        refine mv_imul (pc := 16) B d_Symbols_find_16 ?_
        refine mv_aload_n (pc := 17) B d_Symbols_find_17 rfl 1 rfl ?_
        refine mv_iload_n (pc := 18) B d_Symbols_find_18 rfl 2 rfl ?_
        refine mv_iload (pc := 19) B d_Symbols_find_19 5 rfl ?_
        refine mv_iadd (pc := 21) B d_Symbols_find_21 ?_
        obtain ⟨q7, hf⟩ := xvi_e hf
        refine mv_bald (pc := 22) B rfl q7 d_Symbols_find_22 ?_
        refine mv_iadd (pc := 23) B d_Symbols_find_23 ?_
        refine mv_sipush (pc := 24) (v := 1023) B d_Symbols_find_24 (by decide) ?_
        refine mv_iand (pc := 27) B d_Symbols_find_27 ?_
        refine mv_istore (pc := 28) B d_Symbols_find_28 (by decide) rfl ?_
        refine mv_iinc (pc := 30) (j := 5) (v := 1) B d_Symbols_find_30 rfl (by decide) (by decide) rfl ?_
        refine mv_goto (pc := 33) (tgt := 6) B d_Symbols_find_33 rfl ?_
        refine mv_lpick [2, 3, 4, 5, 1, 0] rfl ?_
        exact ih6 _ _ _ _ _ r_hz hf
  unfold f_Symbols_find_1 at hf
  refine mv_iconst (pc := 0) (v := 0) B d_Symbols_find_0 (by decide) ?_
  refine mv_istore (pc := 1) B d_Symbols_find_1 (by decide) rfl ?_
  refine mv_iconst (pc := 3) (v := 0) B d_Symbols_find_3 (by decide) ?_
  refine mv_istore (pc := 4) B d_Symbols_find_4 (by decide) rfl ?_
  refine mv_lpick [2, 3, 4, 5, 1, 0] rfl ?_
  exact lp6 _ _ _ _ _ _ rfl hf
def f_Symbols_letter_32 (hz : mv_H) : Option (Int32 × mv_H) := some ((0 : Int32), hz)
def f_Symbols_letter (h : mv_H) (a0 : Int32) : Option (Int32 × mv_H) := bif xvi a0 16449 then bif xvi (a0 + (1 : Int32)) 16449 then if ((mv_a h 9 ((a0 + (1 : Int32))).toNatClampNeg) - (mv_a h 9 (a0).toNatClampNeg)) = (1 : Int32) then (bif xvi (mv_a h 9 (a0).toNatClampNeg) 32896 then if (mv_a h 8 ((mv_a h 9 (a0).toNatClampNeg)).toNatClampNeg) = (95 : Int32) then (f_Symbols_letter_32  h) else (bif xvi (mv_a h 9 (a0).toNatClampNeg) 32896 then some ((mv_a h 8 ((mv_a h 9 (a0).toNatClampNeg)).toNatClampNeg), h) else none) else none) else (f_Symbols_letter_32  h) else none else none
set_option maxHeartbeats 4000000 in
set_option maxRecDepth 100000 in
theorem ch_Symbols_letter (l : Launch) {dA : FieldType → ClassId} {D : va_G} {al : Nat → Nat} {ext : mv_Sh} {sk sv : Nat → Nat} (hi : mv_inj (mg dA D al ext)) (h : mv_H) (hb : xRT (mv_r h))  (a0 : Int32) {rv : Int32} {rg : mv_H} (hf : f_Symbols_letter h a0 = some (rv, rg)) : mv_C l y_Symbols_letter (Cond.code y_Symbols_letter b_Symbols_letter 3 (Option.some Jvm.ClassFile.FieldType.int) :: ma) ({ frames := 0, cells := 0, slots := 0, locals := 0 }) (mg dA D al ext) (mK sk sv) [.ref (al 7), .int a0] h (mv_Ri (fun v σ1 => rv = v ∧ rg = σ1 ∧ mv_r σ1 = mv_r h)) := by
  refine mv_C.ofV (cc := b_Symbols_letter) (nL := 3) (ret := (Option.some Jvm.ClassFile.FieldType.int)) (by decide +kernel) rfl hi (Nat.le_of_ble_eq_true rfl) ?_
  intro p e s m below meth c B hNs hr hnm hno
  have jn32 : ∀ (hz : mv_H), mv_r hz = mv_r h → f_Symbols_letter_32  hz = some (rv, rg) → mv_V p l e ({ frames := 0, cells := 0, slots := 0, locals := 0 }) s m ([.ref (al 7), .int a0] : List Value).toArray below meth c (mg dA D al ext) 3 0 0 (mv_Q (mg dA D al ext) below s 0 0 (mv_Ri (fun v σ1 => rv = v ∧ rg = σ1 ∧ mv_r σ1 = mv_r h))) hz 32 [] [] := by
    intro  hz r_hz hf
    unfold f_Symbols_letter_32 at hf
    refine mv_iconst (pc := 32) (v := 0) B d_Symbols_letter_32 (by decide) ?_
    exact mv_iret (pc := 33) B hr rfl d_Symbols_letter_33 (Nat.le_refl _) (Nat.le_refl _) ⟨_, rfl, xrh_i hf r_hz⟩
  unfold f_Symbols_letter at hf
  refine mv_aload_n (pc := 0) B d_Symbols_letter_0 rfl 0 rfl ?_
  refine mv_getR (pc := 1) (ci := 3) (C := R_Symbols) (T := F_Symbols) (N := 6) B 1 rfl rfl (by decide) i_Symbols (B.2.2.2.1 _ k_67) rfl (hb.1 7 1 _ rfl) d_Symbols_letter_1 ?_
  refine mv_iload_n (pc := 4) B d_Symbols_letter_4 rfl 1 rfl ?_
  obtain ⟨q1, hf⟩ := xvi_e hf
  refine mv_iald (pc := 5) B rfl q1 d_Symbols_letter_5 ?_
  refine mv_istore_n (pc := 6) B d_Symbols_letter_6 rfl (by decide) rfl ?_
  refine mv_aload_n (pc := 7) B d_Symbols_letter_7 rfl 1 rfl ?_
  refine mv_getR (pc := 8) (ci := 3) (C := R_Symbols) (T := F_Symbols) (N := 6) B 1 rfl rfl (by decide) i_Symbols (B.2.2.2.1 _ k_67) rfl (hb.1 7 1 _ rfl) d_Symbols_letter_8 ?_
  refine mv_iload_n (pc := 11) B d_Symbols_letter_11 rfl 2 rfl ?_
  refine mv_iconst (pc := 12) (v := 1) B d_Symbols_letter_12 (by decide) ?_
  refine mv_iadd (pc := 13) B d_Symbols_letter_13 ?_
  obtain ⟨q2, hf⟩ := xvi_e hf
  refine mv_iald (pc := 14) B rfl q2 d_Symbols_letter_14 ?_
  refine mv_iload_n (pc := 15) B d_Symbols_letter_15 rfl 0 rfl ?_
  refine mv_isub (pc := 16) B d_Symbols_letter_16 ?_
  refine mv_iconst (pc := 17) (v := 1) B d_Symbols_letter_17 (by decide) ?_
  refine mv_icmp_ne (pc := 18) (tgt := 32) B d_Symbols_letter_18 rfl (fun h18 => ?_) (fun h18 => ?_)
  · skip
    have hf := xif_f h18 hf
    refine mv_lpick [] rfl ?_
    exact jn32  _ rfl hf
  · skip
    have hf := xif_t h18 hf
    refine mv_aload_n (pc := 21) B d_Symbols_letter_21 rfl 1 rfl ?_
    refine mv_getR (pc := 22) (ci := 3) (C := R_Symbols) (T := F_Symbols) (N := 6) B 0 rfl rfl (by decide) i_Symbols (B.2.2.2.1 _ k_66) rfl (hb.1 7 0 _ rfl) d_Symbols_letter_22 ?_
    refine mv_iload_n (pc := 25) B d_Symbols_letter_25 rfl 0 rfl ?_
    obtain ⟨q3, hf⟩ := xvi_e hf
    refine mv_bald (pc := 26) B rfl q3 d_Symbols_letter_26 ?_
    refine mv_bipush (pc := 27) (v := 95) B d_Symbols_letter_27 (by decide) ?_
    refine mv_icmp_ne (pc := 29) (tgt := 34) B d_Symbols_letter_29 rfl (fun h29 => ?_) (fun h29 => ?_)
    · skip
      have hf := xif_f h29 hf
      refine mv_aload_n (pc := 34) B d_Symbols_letter_34 rfl 1 rfl ?_
      refine mv_getR (pc := 35) (ci := 3) (C := R_Symbols) (T := F_Symbols) (N := 6) B 0 rfl rfl (by decide) i_Symbols (B.2.2.2.1 _ k_66) rfl (hb.1 7 0 _ rfl) d_Symbols_letter_35 ?_
      refine mv_iload_n (pc := 38) B d_Symbols_letter_38 rfl 0 rfl ?_
      obtain ⟨q4, hf⟩ := xvi_e hf
      refine mv_bald (pc := 39) B rfl q4 d_Symbols_letter_39 ?_
      exact mv_iret (pc := 40) B hr rfl d_Symbols_letter_40 (Nat.le_refl _) (Nat.le_refl _) ⟨_, rfl, xrh_i hf rfl⟩
    · skip
      have hf := xif_t h29 hf
      refine mv_lpick [] rfl ?_
      exact jn32  _ rfl hf
def f_Symbols_clear_74 (k24 : Int32 → Int32 → mv_H → Option mv_H) (x1 : Int32) (x2 : Int32) (hz : mv_H) : Option mv_H := k24 x1 (x2 + 1) hz
def fF_Symbols_clear_24 (k24 : Int32 → Int32 → mv_H → Option mv_H) (x1 : Int32) (x2 : Int32) (hz : mv_H) : Option mv_H := if (Int32.ofNat (st_g 132).2.2.2.length) ≤ x2 then (some hz) else (bif xvi x2 (st_g 132).2.2.2.length then bif xvi x2 128 then xk (mv_sa hz 12 (x2).toNatClampNeg (vp_nar .byte ((((st_g 132).2.2.2.getD (x2).toNatClampNeg 0 &&& 255)).toInt8.toInt32))) fun g3 => bif xvi x2 128 then if (mv_a g3 12 (x2).toNatClampNeg) = (32 : Int32) then (xhb (f_Symbols_find_12 g3 x1 (x2 - x1)) fun v6 g5 => f_Symbols_clear_74 k24 (x2 + (1 : Int32)) x2 g5) else (f_Symbols_clear_74 k24 x1 x2 g3) else none else none else none)
def f_Symbols_clear_24 : Nat → Int32 → Int32 → mv_H → Option mv_H
  | 0 => fun _ _ _ => none
  | nn + 1 => fF_Symbols_clear_24 (f_Symbols_clear_24 nn)
def f_Symbols_clear (h : mv_H) : Option mv_H := xk (mv_fi h 10 0 1024 (-1 : Int32)) fun g7 => xk (mv_si g7 7 5 (0 : Int32)) fun g8 => bif xvi (0 : Int32) 16449 then xk (mv_sa g8 9 ((0 : Int32)).toNatClampNeg (0 : Int32)) fun g10 => f_Symbols_clear_24 200000 (0 : Int32) (0 : Int32) g10 else none
set_option maxHeartbeats 4000000 in
set_option maxRecDepth 100000 in
theorem ch_Symbols_clear (l : Launch) {dA : FieldType → ClassId} {D : va_G} {al : Nat → Nat} {ext : mv_Sh} {sk sv : Nat → Nat} (hi : mv_inj (mg dA D al ext)) (h : mv_H) (hb : xRT (mv_r h))  {rg : mv_H} (hf : f_Symbols_clear h = some rg) : mv_C l y_Symbols_clear (Cond.code y_Symbols_clear b_Symbols_clear 3 (Option.none : Option Jvm.ClassFile.FieldType) :: ma) ({ frames := 4, cells := 0, slots := 0, locals := 91 }) (mg dA D al ext) (mK sk sv) [.ref (al 7)] h (mv_Rv (fun σ1 => rg = σ1 ∧ mv_r σ1 = mv_r h)) := by
  refine mv_C.ofV (cc := b_Symbols_clear) (nL := 3) (ret := (Option.none : Option Jvm.ClassFile.FieldType)) (by decide +kernel) rfl hi (Nat.le_of_ble_eq_true rfl) ?_
  intro p e s m below meth c B hNs hr hnm hno
  have lp24 : ∀ (nn24 : Nat) (x1 : Int32) (x2 : Int32) (hz : mv_H), mv_r hz = mv_r h → f_Symbols_clear_24 nn24 x1 x2 hz = some rg → mv_V p l e ({ frames := 4, cells := 0, slots := 0, locals := 91 }) s m ([.ref (al 7)] : List Value).toArray below meth c (mg dA D al ext) 3 0 0 (mv_Q (mg dA D al ext) below s 0 0 (mv_Rv (fun σ1 => rg = σ1 ∧ mv_r σ1 = mv_r h))) hz 24 [(0, .ref (al 7)), (1, .int x1), (2, .int x2)] [] := by
    intro nn24
    induction nn24 with
    | zero => intro x1 x2 hz r_hz hf; cases hf
    | succ nn24 ih24 =>
      intro x1 x2 hz r_hz hf
      have jn74 : ∀ (x1 : Int32) (x2 : Int32) (hz : mv_H), mv_r hz = mv_r h → f_Symbols_clear_74 (f_Symbols_clear_24 nn24) x1 x2 hz = some rg → mv_V p l e ({ frames := 4, cells := 0, slots := 0, locals := 91 }) s m ([.ref (al 7)] : List Value).toArray below meth c (mg dA D al ext) 3 0 0 (mv_Q (mg dA D al ext) below s 0 0 (mv_Rv (fun σ1 => rg = σ1 ∧ mv_r σ1 = mv_r h))) hz 74 [(0, .ref (al 7)), (1, .int x1), (2, .int x2)] [] := by
        intro x1 x2 hz r_hz hf
        unfold f_Symbols_clear_74 at hf
        refine mv_iinc (pc := 74) (j := 2) (v := 1) B d_Symbols_clear_74 rfl (by decide) (by decide) rfl ?_
        refine mv_goto (pc := 77) (tgt := 24) B d_Symbols_clear_77 rfl ?_
        refine mv_lpick [1, 2, 0] rfl ?_
        exact ih24 _ _ _ r_hz hf
      have hf : fF_Symbols_clear_24 (f_Symbols_clear_24 nn24) x1 x2 hz = some rg := hf
      unfold fF_Symbols_clear_24 at hf
      refine mv_iload_n (pc := 24) B d_Symbols_clear_24 rfl 2 rfl ?_
      refine mv_ldcS (pc := 25) B (hNs.2.1 132 (by decide)).1 d_Symbols_clear_25 ?_
      refine mv_callVOi (pc := 27) (n := 0) B (mK_ok sk sv) hNs (hNs.2.1 132 (by decide)).2.1 (ch_String_length l hi _ 132 (by decide)) rfl (ma_goodc kc_String_length) (B.2.2.2.1 _ k_801) (B.2.2.2.1 _ k_546) (B.2.2.2.1 _ k_547) (B.2.2.2.1 _ k_21) ⟨by decide +kernel, by decide +kernel, by decide +kernel⟩ rfl d_Symbols_clear_27 rfl (Nat.le_of_ble_eq_true rfl) ⟨by decide, by decide⟩ ⟨by decide, by decide⟩ ⟨by decide, by decide⟩ (mv_noH hno _) (fun v27_ σ27 h27 => ?_)
      obtain ⟨rfl, rfl⟩ := h27
      refine mv_icmp_ge (pc := 30) (tgt := 80) B d_Symbols_clear_30 rfl (fun h30 => ?_) (fun h30 => ?_)
      · skip
        have hf := xif_t h30 hf
        exact mv_vret (pc := 80) B hr d_Symbols_clear_80 (Nat.le_refl _) (Nat.le_refl _) ⟨rfl, xrh_v hf r_hz⟩
      · skip
        have hf := xif_f h30 hf
        refine mv_aload_n (pc := 33) B d_Symbols_clear_33 rfl 0 rfl ?_
        refine mv_getR (pc := 34) (ci := 3) (C := R_Symbols) (T := F_Symbols) (N := 6) B 4 rfl rfl (by decide) i_Symbols (B.2.2.2.1 _ k_70) rfl ((congrFun (congrFun r_hz 7) 4).trans (hb.1 7 4 _ rfl)) d_Symbols_clear_34 ?_
        refine mv_iload_n (pc := 37) B d_Symbols_clear_37 rfl 2 rfl ?_
        refine mv_ldcS (pc := 38) B (hNs.2.1 132 (by decide)).1 d_Symbols_clear_38 ?_
        refine mv_iload_n (pc := 40) B d_Symbols_clear_40 rfl 2 rfl ?_
        obtain ⟨q1, hf⟩ := xvi_e hf
        refine mv_callVOi (pc := 41) (n := 1) B (mK_ok sk sv) hNs (hNs.2.1 132 (by decide)).2.1 (ch_String_charAt l hi _ 132 (by decide) q1) rfl (ma_goodc kc_String_charAt) (B.2.2.2.1 _ k_802) (B.2.2.2.1 _ k_556) (B.2.2.2.1 _ k_557) (B.2.2.2.1 _ k_21) ⟨by decide +kernel, by decide +kernel, by decide +kernel⟩ rfl d_Symbols_clear_41 rfl (Nat.le_of_ble_eq_true rfl) ⟨by decide, by decide⟩ ⟨by decide, by decide⟩ ⟨by decide, by decide⟩ (mv_noH hno _) (fun v41_ σ41 h41 => ?_)
        obtain ⟨rfl, rfl⟩ := h41
        refine mv_i2b (pc := 44) B d_Symbols_clear_44 ?_
        obtain ⟨q2, hf⟩ := xvi_e hf
        refine mv_bast (pc := 45) B rfl q2 d_Symbols_clear_45 ?_
        refine mvh_hp (R9 := mv_r h) hf r_hz (fun g3 hf r_g3 => ?_)
        refine mv_aload_n (pc := 46) B d_Symbols_clear_46 rfl 0 rfl ?_
        refine mv_getR (pc := 47) (ci := 3) (C := R_Symbols) (T := F_Symbols) (N := 6) B 4 rfl rfl (by decide) i_Symbols (B.2.2.2.1 _ k_70) rfl ((congrFun (congrFun r_g3 7) 4).trans (hb.1 7 4 _ rfl)) d_Symbols_clear_47 ?_
        refine mv_iload_n (pc := 50) B d_Symbols_clear_50 rfl 2 rfl ?_
        obtain ⟨q4, hf⟩ := xvi_e hf
        refine mv_bald (pc := 51) B rfl q4 d_Symbols_clear_51 ?_
        refine mv_bipush (pc := 52) (v := 32) B d_Symbols_clear_52 (by decide) ?_
        refine mv_icmp_ne (pc := 54) (tgt := 74) B d_Symbols_clear_54 rfl (fun h54 => ?_) (fun h54 => ?_)
        · skip
          have hf := xif_f h54 hf
          refine mv_lpick [0, 1, 2] rfl ?_
          exact jn74 _ _ _ r_g3 hf
        · skip
          have hf := xif_t h54 hf
          refine mv_aload_n (pc := 57) B d_Symbols_clear_57 rfl 0 rfl ?_
          refine mv_aload_n (pc := 58) B d_Symbols_clear_58 rfl 0 rfl ?_
          refine mv_getR (pc := 59) (ci := 3) (C := R_Symbols) (T := F_Symbols) (N := 6) B 4 rfl rfl (by decide) i_Symbols (B.2.2.2.1 _ k_70) rfl ((congrFun (congrFun r_g3 7) 4).trans (hb.1 7 4 _ rfl)) d_Symbols_clear_59 ?_
          refine mv_iload_n (pc := 62) B d_Symbols_clear_62 rfl 1 rfl ?_
          refine mv_iload_n (pc := 63) B d_Symbols_clear_63 rfl 2 rfl ?_
          refine mv_iload_n (pc := 64) B d_Symbols_clear_64 rfl 1 rfl ?_
          refine mv_isub (pc := 65) B d_Symbols_clear_65 ?_
          obtain ⟨v6, g5, eg5, hf⟩ := xhb_e hf
          refine mv_callVi (pc := 66) (n := 3) (ci := 3) (C := R_Symbols) B (mK_ok sk sv) hNs rfl rfl (ch_Symbols_find_12 l hi _ (xrw r_g3 hb) _ _ eg5) rfl (ma_goodc kc_Symbols_find) (B.2.2.2.1 _ k_803) (B.2.2.2.1 _ k_804) (B.2.2.2.1 _ k_805) (B.2.2.2.1 _ k_4) ⟨by decide +kernel, by decide +kernel, by decide +kernel⟩ rfl d_Symbols_clear_66 rfl (Nat.le_of_ble_eq_true rfl) ⟨by decide, by decide⟩ ⟨by decide, by decide⟩ ⟨by decide, by decide⟩ (mv_noH hno _) (fun w66 σ66 h66 => ?_)
          obtain ⟨rfl, rfl, s_g5⟩ := h66
          have r_g5 : mv_r g5 = mv_r h := s_g5.trans r_g3
          refine mv_pop (pc := 69) B d_Symbols_clear_69 rfl ?_
          refine mv_iload_n (pc := 70) B d_Symbols_clear_70 rfl 2 rfl ?_
          refine mv_iconst (pc := 71) (v := 1) B d_Symbols_clear_71 (by decide) ?_
          refine mv_iadd (pc := 72) B d_Symbols_clear_72 ?_
          refine mv_istore_n (pc := 73) B d_Symbols_clear_73 rfl (by decide) rfl ?_
          refine mv_lpick [1, 0, 2] rfl ?_
          exact jn74 _ _ _ r_g5 hf
  unfold f_Symbols_clear at hf
  refine mv_aload_n (pc := 0) B d_Symbols_clear_0 rfl 0 rfl ?_
  refine mv_getR (pc := 1) (ci := 3) (C := R_Symbols) (T := F_Symbols) (N := 6) B 2 rfl rfl (by decide) i_Symbols (B.2.2.2.1 _ k_68) rfl (hb.1 7 2 _ rfl) d_Symbols_clear_1 ?_
  refine mv_iconst (pc := 4) (v := -1) B d_Symbols_clear_4 (by decide) ?_
  refine mv_callSv (pc := 5) (n := 2) B (mK_ok sk sv) hNs (c_Arrays_fill_0 l hi _ 10 1024 rfl (by decide) _) rfl (ma_goodc kc_Arrays_fill_0) (B.2.2.2.1 _ k_797) (B.2.2.2.1 _ k_798) (B.2.2.2.1 _ k_20) ⟨by decide +kernel, by decide +kernel, by decide +kernel⟩ rfl d_Symbols_clear_5 rfl (Nat.le_of_ble_eq_true rfl) ⟨by decide, by decide⟩ ⟨by decide, by decide⟩ ⟨by decide, by decide⟩ (mv_noH hno _) (fun σ5 h5 => ?_)
  subst h5
  refine mvh_hp (R9 := mv_r h) hf rfl (fun g7 hf r_g7 => ?_)
  refine mv_aload_n (pc := 8) B d_Symbols_clear_8 rfl 0 rfl ?_
  refine mv_iconst (pc := 9) (v := 0) B d_Symbols_clear_9 (by decide) ?_
  refine mv_putI (pc := 10) (ci := 3) (C := R_Symbols) (T := F_Symbols) (N := 6) B 5 rfl rfl (by decide) i_Symbols t_Symbols_ok n_Symbols (B.2.2.2.1 _ k_72) rfl rfl rfl rfl d_Symbols_clear_10 ?_
  refine mvh_hp (R9 := mv_r h) hf r_g7 (fun g8 hf r_g8 => ?_)
  refine mv_aload_n (pc := 13) B d_Symbols_clear_13 rfl 0 rfl ?_
  refine mv_getR (pc := 14) (ci := 3) (C := R_Symbols) (T := F_Symbols) (N := 6) B 1 rfl rfl (by decide) i_Symbols (B.2.2.2.1 _ k_67) rfl ((congrFun (congrFun r_g8 7) 1).trans (hb.1 7 1 _ rfl)) d_Symbols_clear_14 ?_
  refine mv_iconst (pc := 17) (v := 0) B d_Symbols_clear_17 (by decide) ?_
  refine mv_iconst (pc := 18) (v := 0) B d_Symbols_clear_18 (by decide) ?_
  obtain ⟨q9, hf⟩ := xvi_e hf
  refine mv_iast (pc := 19) B rfl q9 d_Symbols_clear_19 ?_
  refine mvh_hp (R9 := mv_r h) hf r_g8 (fun g10 hf r_g10 => ?_)
  refine mv_iconst (pc := 20) (v := 0) B d_Symbols_clear_20 (by decide) ?_
  refine mv_istore_n (pc := 21) B d_Symbols_clear_21 rfl (by decide) rfl ?_
  refine mv_iconst (pc := 22) (v := 0) B d_Symbols_clear_22 (by decide) ?_
  refine mv_istore_n (pc := 23) B d_Symbols_clear_23 rfl (by decide) rfl ?_
  refine mv_lpick [2, 1, 0] rfl ?_
  exact lp24 _ _ _ _ r_g10 hf
def f_Tokens_cutName_73 (x1 : Int32) (x2 : Int32) (x3 : Int32) (y0 : Int32) (hz : mv_H) : Option (Int32 × mv_H) := xhb (f_Tokens_add hz y0 x1 ((x3).toInt64) x2) fun v2 g1 => some (v2, g1)
def f_Tokens_cutName_42 (x1 : Int32) (x2 : Int32) (hz : mv_H) : Option (Int32 × mv_H) := xhb (f_Symbols_find_1 hz x1 (x2 - x1)) fun v4 g3 => if (17 : Int32) ≤ v4 then (f_Tokens_cutName_73 x1 x2 v4 (3 : Int32) g3) else (f_Tokens_cutName_73 x1 x2 v4 ((200 : Int32) + v4) g3)
def fF_Tokens_cutName_2 (k2 : Int32 → Int32 → mv_H → Option (Int32 × mv_H)) (x1 : Int32) (x2 : Int32) (hz : mv_H) : Option (Int32 × mv_H) := if (mv_i hz 3 5) ≤ x2 then (f_Tokens_cutName_42 x1 x2 hz) else (bif xvi x2 32768 then xhb (f_Tokens_isOfName hz (mv_a hz 1 (x2).toNatClampNeg)) fun v7 g6 => if v7 = (0 : Int32) then (f_Tokens_cutName_42 x1 x2 g6) else (if x2 = (x1 + (32 : Int32)) then (xhb (f_Tokens_broken g6 x2) fun v9 g8 => some (v9, g8)) else (k2 x1 (x2 + 1) g6)) else none)
def f_Tokens_cutName_2 : Nat → Int32 → Int32 → mv_H → Option (Int32 × mv_H)
  | 0 => fun _ _ _ => none
  | nn + 1 => fF_Tokens_cutName_2 (f_Tokens_cutName_2 nn)
def f_Tokens_cutName (h : mv_H) (a0 : Int32) : Option (Int32 × mv_H) := f_Tokens_cutName_2 200000 a0 a0 h
set_option maxHeartbeats 4000000 in
set_option maxRecDepth 100000 in
theorem ch_Tokens_cutName (l : Launch) {dA : FieldType → ClassId} {D : va_G} {al : Nat → Nat} {ext : mv_Sh} {sk sv : Nat → Nat} (hi : mv_inj (mg dA D al ext)) (h : mv_H) (hb : xRT (mv_r h))  (a0 : Int32) {rv : Int32} {rg : mv_H} (hf : f_Tokens_cutName h a0 = some (rv, rg)) : mv_C l y_Tokens_cutName (Cond.code y_Tokens_cutName b_Tokens_cutName 5 (Option.some Jvm.ClassFile.FieldType.int) :: ma) ({ frames := 3, cells := 0, slots := 0, locals := 91 }) (mg dA D al ext) (mK sk sv) [.ref (al 3), .int a0] h (mv_Ri (fun v σ1 => rv = v ∧ rg = σ1 ∧ mv_r σ1 = mv_r h)) := by
  refine mv_C.ofV (cc := b_Tokens_cutName) (nL := 5) (ret := (Option.some Jvm.ClassFile.FieldType.int)) (by decide +kernel) rfl hi (Nat.le_of_ble_eq_true rfl) ?_
  intro p e s m below meth c B hNs hr hnm hno
  have jn73 : ∀ (x1 : Int32) (x2 : Int32) (x3 : Int32) (y0 : Int32) (hz : mv_H), mv_r hz = mv_r h → f_Tokens_cutName_73 x1 x2 x3 y0 hz = some (rv, rg) → mv_V p l e ({ frames := 3, cells := 0, slots := 0, locals := 91 }) s m ([.ref (al 3), .int a0] : List Value).toArray below meth c (mg dA D al ext) 5 0 0 (mv_Q (mg dA D al ext) below s 0 0 (mv_Ri (fun v σ1 => rv = v ∧ rg = σ1 ∧ mv_r σ1 = mv_r h))) hz 73 [(0, .ref (al 3)), (1, .int x1), (2, .int x2), (3, .int x3)] [.int y0] := by
    intro x1 x2 x3 y0 hz r_hz hf
    unfold f_Tokens_cutName_73 at hf
    refine mv_istore (pc := 73) B d_Tokens_cutName_73 (by decide) rfl ?_
    refine mv_aload_n (pc := 75) B d_Tokens_cutName_75 rfl 1 rfl ?_
    refine mv_iload (pc := 76) B d_Tokens_cutName_76 0 rfl ?_
    refine mv_iload_n (pc := 78) B d_Tokens_cutName_78 rfl 2 rfl ?_
    refine mv_iload_n (pc := 79) B d_Tokens_cutName_79 rfl 4 rfl ?_
    refine mv_i2l (pc := 80) B d_Tokens_cutName_80 ?_
    refine mv_iload_n (pc := 81) B d_Tokens_cutName_81 rfl 3 rfl ?_
    obtain ⟨v2, g1, eg1, hf⟩ := xhb_e hf
    refine mv_callVi (pc := 82) (n := 4) (ci := 2) (C := R_Tokens) B (mK_ok sk sv) hNs rfl rfl (ch_Tokens_add l hi _ (xrw r_hz hb) _ _ _ _ eg1) rfl (ma_goodc kc_Tokens_add) (B.2.2.2.1 _ k_831) (B.2.2.2.1 _ k_833) (B.2.2.2.1 _ ks_22) (B.2.2.2.1 _ k_3) ⟨by decide +kernel, by decide +kernel, by decide +kernel⟩ rfl d_Tokens_cutName_82 rfl (Nat.le_of_ble_eq_true rfl) ⟨by decide, by decide⟩ ⟨by decide, by decide⟩ ⟨by decide, by decide⟩ (mv_noH hno _) (fun w82 σ82 h82 => ?_)
    obtain ⟨rfl, rfl, s_g1⟩ := h82
    have r_g1 : mv_r g1 = mv_r h := s_g1.trans r_hz
    exact mv_iret (pc := 85) B hr rfl d_Tokens_cutName_85 (Nat.le_refl _) (Nat.le_refl _) ⟨_, rfl, xrh_i hf r_g1⟩
  have jn42 : ∀ (x1 : Int32) (x2 : Int32) (hz : mv_H), mv_r hz = mv_r h → f_Tokens_cutName_42 x1 x2 hz = some (rv, rg) → mv_V p l e ({ frames := 3, cells := 0, slots := 0, locals := 91 }) s m ([.ref (al 3), .int a0] : List Value).toArray below meth c (mg dA D al ext) 5 0 0 (mv_Q (mg dA D al ext) below s 0 0 (mv_Ri (fun v σ1 => rv = v ∧ rg = σ1 ∧ mv_r σ1 = mv_r h))) hz 42 [(0, .ref (al 3)), (1, .int x1), (2, .int x2)] [] := by
    intro x1 x2 hz r_hz hf
    unfold f_Tokens_cutName_42 at hf
    refine mv_aload_n (pc := 42) B d_Tokens_cutName_42 rfl 0 rfl ?_
    refine mv_getR (pc := 43) (ci := 2) (C := R_Tokens) (T := F_Tokens) (N := 10) B 3 rfl rfl (by decide) i_Tokens (B.2.2.2.1 _ k_97) rfl ((congrFun (congrFun r_hz 3) 3).trans (hb.1 3 3 _ rfl)) d_Tokens_cutName_43 ?_
    refine mv_aload_n (pc := 46) B d_Tokens_cutName_46 rfl 0 rfl ?_
    refine mv_getR (pc := 47) (ci := 2) (C := R_Tokens) (T := F_Tokens) (N := 10) B 4 rfl rfl (by decide) i_Tokens (B.2.2.2.1 _ k_98) rfl ((congrFun (congrFun r_hz 3) 4).trans hb.2) d_Tokens_cutName_47 ?_
    refine mv_iload_n (pc := 50) B d_Tokens_cutName_50 rfl 1 rfl ?_
    refine mv_iload_n (pc := 51) B d_Tokens_cutName_51 rfl 2 rfl ?_
    refine mv_iload_n (pc := 52) B d_Tokens_cutName_52 rfl 1 rfl ?_
    refine mv_isub (pc := 53) B d_Tokens_cutName_53 ?_
    obtain ⟨v4, g3, eg3, hf⟩ := xhb_e hf
    refine mv_callVi (pc := 54) (n := 3) (ci := 3) (C := R_Symbols) B (mK_ok sk sv) hNs rfl rfl (ch_Symbols_find_1 l hi _ (xrw r_hz hb) _ _ eg3) rfl (ma_goodc kc_Symbols_find) (B.2.2.2.1 _ k_869) (B.2.2.2.1 _ k_804) (B.2.2.2.1 _ k_805) (B.2.2.2.1 _ k_4) ⟨by decide +kernel, by decide +kernel, by decide +kernel⟩ rfl d_Tokens_cutName_54 rfl (Nat.le_of_ble_eq_true rfl) ⟨by decide, by decide⟩ ⟨by decide, by decide⟩ ⟨by decide, by decide⟩ (mv_noH hno _) (fun w54 σ54 h54 => ?_)
    obtain ⟨rfl, rfl, s_g3⟩ := h54
    have r_g3 : mv_r g3 = mv_r h := s_g3.trans r_hz
    refine mv_istore_n (pc := 57) B d_Tokens_cutName_57 rfl (by decide) rfl ?_
    refine mv_iload_n (pc := 58) B d_Tokens_cutName_58 rfl 0 rfl ?_
    refine mv_bipush (pc := 59) (v := 17) B d_Tokens_cutName_59 (by decide) ?_
    refine mv_icmp_ge (pc := 61) (tgt := 72) B d_Tokens_cutName_61 rfl (fun h61 => ?_) (fun h61 => ?_)
    · skip
      have hf := xif_t h61 hf
      refine mv_iconst (pc := 72) (v := 3) B d_Tokens_cutName_72 (by decide) ?_
      refine mv_lpick [1, 2, 3, 0] rfl ?_
      exact jn73 _ _ _ _ _ r_g3 hf
    · skip
      have hf := xif_f h61 hf
      refine mv_sipush (pc := 64) (v := 200) B d_Tokens_cutName_64 (by decide) ?_
      refine mv_iload_n (pc := 67) B d_Tokens_cutName_67 rfl 0 rfl ?_
      refine mv_iadd (pc := 68) B d_Tokens_cutName_68 ?_
      refine mv_goto (pc := 69) (tgt := 73) B d_Tokens_cutName_69 rfl ?_
      refine mv_lpick [1, 2, 3, 0] rfl ?_
      exact jn73 _ _ _ _ _ r_g3 hf
  have lp2 : ∀ (nn2 : Nat) (x1 : Int32) (x2 : Int32) (hz : mv_H), mv_r hz = mv_r h → f_Tokens_cutName_2 nn2 x1 x2 hz = some (rv, rg) → mv_V p l e ({ frames := 3, cells := 0, slots := 0, locals := 91 }) s m ([.ref (al 3), .int a0] : List Value).toArray below meth c (mg dA D al ext) 5 0 0 (mv_Q (mg dA D al ext) below s 0 0 (mv_Ri (fun v σ1 => rv = v ∧ rg = σ1 ∧ mv_r σ1 = mv_r h))) hz 2 [(0, .ref (al 3)), (1, .int x1), (2, .int x2)] [] := by
    intro nn2
    induction nn2 with
    | zero => intro x1 x2 hz r_hz hf; cases hf
    | succ nn2 ih2 =>
      intro x1 x2 hz r_hz hf
      have hf : fF_Tokens_cutName_2 (f_Tokens_cutName_2 nn2) x1 x2 hz = some (rv, rg) := hf
      unfold fF_Tokens_cutName_2 at hf
      refine mv_iload_n (pc := 2) B d_Tokens_cutName_2 rfl 2 rfl ?_
      refine mv_aload_n (pc := 3) B d_Tokens_cutName_3 rfl 0 rfl ?_
      refine mv_getI (pc := 4) (ci := 2) (C := R_Tokens) (T := F_Tokens) (N := 10) B 5 rfl rfl (by decide) i_Tokens (B.2.2.2.1 _ k_100) rfl d_Tokens_cutName_4 ?_
      refine mv_icmp_ge (pc := 7) (tgt := 42) B d_Tokens_cutName_7 rfl (fun h7 => ?_) (fun h7 => ?_)
      · skip
        have hf := xif_t h7 hf
        refine mv_lpick [0, 1, 2] rfl ?_
        exact jn42 _ _ _ r_hz hf
      · skip
        have hf := xif_f h7 hf
        refine mv_aload_n (pc := 10) B d_Tokens_cutName_10 rfl 0 rfl ?_
        refine mv_getR (pc := 11) (ci := 2) (C := R_Tokens) (T := F_Tokens) (N := 10) B 4 rfl rfl (by decide) i_Tokens (B.2.2.2.1 _ k_98) rfl ((congrFun (congrFun r_hz 3) 4).trans hb.2) d_Tokens_cutName_11 ?_
        refine mv_iload_n (pc := 14) B d_Tokens_cutName_14 rfl 2 rfl ?_
        obtain ⟨q5, hf⟩ := xvi_e hf
        refine mv_bald (pc := 15) B rfl q5 d_Tokens_cutName_15 ?_
        obtain ⟨v7, g6, eg6, hf⟩ := xhb_e hf
        refine mv_callSi (pc := 16) (n := 1) B (mK_ok sk sv) hNs (ch_Tokens_isOfName l hi _ _ eg6) rfl (ma_goodc kc_Tokens_isOfName) (B.2.2.2.1 _ k_866) (B.2.2.2.1 _ k_867) (B.2.2.2.1 _ k_3) ⟨by decide +kernel, by decide +kernel, by decide +kernel⟩ rfl d_Tokens_cutName_16 rfl (Nat.le_of_ble_eq_true rfl) ⟨by decide, by decide⟩ ⟨by decide, by decide⟩ ⟨by decide, by decide⟩ (mv_noH hno _) (fun w16 σ16 h16 => ?_)
        obtain ⟨rfl, rfl, s_g6⟩ := h16
        have r_g6 : mv_r g6 = mv_r h := s_g6.trans r_hz
        refine mv_if_eq (pc := 19) (tgt := 42) B d_Tokens_cutName_19 rfl (fun h19 => ?_) (fun h19 => ?_)
        · skip
          have hf := xif_t h19 hf
          refine mv_lpick [0, 1, 2] rfl ?_
          exact jn42 _ _ _ r_g6 hf
        · skip
          have hf := xif_f h19 hf
          refine mv_iload_n (pc := 22) B d_Tokens_cutName_22 rfl 2 rfl ?_
          refine mv_iload_n (pc := 23) B d_Tokens_cutName_23 rfl 1 rfl ?_
          refine mv_bipush (pc := 24) (v := 32) B d_Tokens_cutName_24 (by decide) ?_
          refine mv_iadd (pc := 26) B d_Tokens_cutName_26 ?_
          refine mv_icmp_ne (pc := 27) (tgt := 36) B d_Tokens_cutName_27 rfl (fun h27 => ?_) (fun h27 => ?_)
          · skip
            have hf := xif_f h27 hf
            refine mv_iinc (pc := 36) (j := 2) (v := 1) B d_Tokens_cutName_36 rfl (by decide) (by decide) rfl ?_
            refine mv_goto (pc := 39) (tgt := 2) B d_Tokens_cutName_39 rfl ?_
            refine mv_lpick [1, 2, 0] rfl ?_
            exact ih2 _ _ _ r_g6 hf
          · skip
            have hf := xif_t h27 hf
            refine mv_aload_n (pc := 30) B d_Tokens_cutName_30 rfl 0 rfl ?_
            refine mv_iload_n (pc := 31) B d_Tokens_cutName_31 rfl 2 rfl ?_
            obtain ⟨v9, g8, eg8, hf⟩ := xhb_e hf
            refine mv_callVi (pc := 32) (n := 1) (ci := 2) (C := R_Tokens) B (mK_ok sk sv) hNs rfl rfl (ch_Tokens_broken l hi _ (xrw r_g6 hb) _ eg8) rfl (ma_goodc kc_Tokens_broken) (B.2.2.2.1 _ k_845) (B.2.2.2.1 _ k_847) (B.2.2.2.1 _ ks_24) (B.2.2.2.1 _ k_3) ⟨by decide +kernel, by decide +kernel, by decide +kernel⟩ rfl d_Tokens_cutName_32 rfl (Nat.le_of_ble_eq_true rfl) ⟨by decide, by decide⟩ ⟨by decide, by decide⟩ ⟨by decide, by decide⟩ (mv_noH hno _) (fun w32 σ32 h32 => ?_)
            obtain ⟨rfl, rfl, s_g8⟩ := h32
            have r_g8 : mv_r g8 = mv_r h := s_g8.trans r_g6
            exact mv_iret (pc := 35) B hr rfl d_Tokens_cutName_35 (Nat.le_refl _) (Nat.le_refl _) ⟨_, rfl, xrh_i hf r_g8⟩
  unfold f_Tokens_cutName at hf
  refine mv_iload_n (pc := 0) B d_Tokens_cutName_0 rfl 1 rfl ?_
  refine mv_istore_n (pc := 1) B d_Tokens_cutName_1 rfl (by decide) rfl ?_
  refine mv_lpick [1, 2, 0] rfl ?_
  exact lp2 _ _ _ _ rfl hf
def f_Tokens_cutOne_84 (x1 : Int32) (hz : mv_H) : Option (Int32 × mv_H) := xhb (f_Tokens_cutName hz x1) fun v2 g1 => some (v2, g1)
def f_Tokens_cutOne_52 (x1 : Int32) (y0 : Int32) (hz : mv_H) : Option (Int32 × mv_H) := if y0 = (0 : Int32) then (xhb (f_Tokens_cutDecimal hz x1) fun v4 g3 => some (v4, g3)) else (xhb (f_Tokens_cutHex hz x1) fun v6 g5 => some (v6, g5))
def f_Tokens_cutOne_51 (x1 : Int32) (hz : mv_H) : Option (Int32 × mv_H) := f_Tokens_cutOne_52 x1 (0 : Int32) hz
def f_Tokens_cutOne (h : mv_H) (a0 : Int32) : Option (Int32 × mv_H) := xhb (f_Tokens_characterAt h a0) fun v8 g7 => if (0 : Int32) ≤ v8 then (xhb (f_Tokens_isDigit g7 v8) fun v10 g9 => if v10 = (0 : Int32) then (xhb (f_Tokens_isLetter g9 v8) fun v12 g11 => if v12 = (0 : Int32) then (if v8 = (95 : Int32) then (f_Tokens_cutOne_84 a0 g11) else (if v8 = (34 : Int32) then (xhb (f_Tokens_cutCode g11 a0) fun v16 g15 => some (v16, g15)) else (xhb (f_Tokens_cutSign g11 a0 v8) fun v14 g13 => some (v14, g13)))) else (f_Tokens_cutOne_84 a0 g11)) else (if v8 = (48 : Int32) then (xhb (f_Tokens_characterAt g9 (a0 + (1 : Int32))) fun v18 g17 => if v18 = (120 : Int32) then (f_Tokens_cutOne_52 a0 (1 : Int32) g17) else (f_Tokens_cutOne_51 a0 g17)) else (f_Tokens_cutOne_51 a0 g9))) else (xhb (f_Tokens_add g7 (1 : Int32) (mv_i g7 3 5) (0 : Int64) (-1 : Int32)) fun v20 g19 => some (v20, g19))
set_option maxHeartbeats 4000000 in
set_option maxRecDepth 100000 in
theorem ch_Tokens_cutOne (l : Launch) {dA : FieldType → ClassId} {D : va_G} {al : Nat → Nat} {ext : mv_Sh} {sk sv : Nat → Nat} (hi : mv_inj (mg dA D al ext)) (h : mv_H) (hb : xRT (mv_r h))  (a0 : Int32) {rv : Int32} {rg : mv_H} (hf : f_Tokens_cutOne h a0 = some (rv, rg)) : mv_C l y_Tokens_cutOne (Cond.code y_Tokens_cutOne b_Tokens_cutOne 4 (Option.some Jvm.ClassFile.FieldType.int) :: ma) ({ frames := 5, cells := 0, slots := 0, locals := 129 }) (mg dA D al ext) (mK sk sv) [.ref (al 3), .int a0] h (mv_Ri (fun v σ1 => rv = v ∧ rg = σ1 ∧ mv_r σ1 = mv_r h)) := by
  refine mv_C.ofV (cc := b_Tokens_cutOne) (nL := 4) (ret := (Option.some Jvm.ClassFile.FieldType.int)) (by decide +kernel) rfl hi (Nat.le_of_ble_eq_true rfl) ?_
  intro p e s m below meth c B hNs hr hnm hno
  have jn84 : ∀ (x1 : Int32) (hz : mv_H), mv_r hz = mv_r h → f_Tokens_cutOne_84 x1 hz = some (rv, rg) → mv_V p l e ({ frames := 5, cells := 0, slots := 0, locals := 129 }) s m ([.ref (al 3), .int a0] : List Value).toArray below meth c (mg dA D al ext) 4 0 0 (mv_Q (mg dA D al ext) below s 0 0 (mv_Ri (fun v σ1 => rv = v ∧ rg = σ1 ∧ mv_r σ1 = mv_r h))) hz 84 [(0, .ref (al 3)), (1, .int x1)] [] := by
    intro x1 hz r_hz hf
    unfold f_Tokens_cutOne_84 at hf
    refine mv_aload_n (pc := 84) B d_Tokens_cutOne_84 rfl 0 rfl ?_
    refine mv_iload_n (pc := 85) B d_Tokens_cutOne_85 rfl 1 rfl ?_
    obtain ⟨v2, g1, eg1, hf⟩ := xhb_e hf
    refine mv_callVi (pc := 86) (n := 1) (ci := 2) (C := R_Tokens) B (mK_ok sk sv) hNs rfl rfl (ch_Tokens_cutName l hi _ (xrw r_hz hb) _ eg1) rfl (ma_goodc kc_Tokens_cutName) (B.2.2.2.1 _ k_862) (B.2.2.2.1 _ k_864) (B.2.2.2.1 _ ks_27) (B.2.2.2.1 _ k_3) ⟨by decide +kernel, by decide +kernel, by decide +kernel⟩ rfl d_Tokens_cutOne_86 rfl (Nat.le_of_ble_eq_true rfl) ⟨by decide, by decide⟩ ⟨by decide, by decide⟩ ⟨by decide, by decide⟩ (mv_noH hno _) (fun w86 σ86 h86 => ?_)
    obtain ⟨rfl, rfl, s_g1⟩ := h86
    have r_g1 : mv_r g1 = mv_r h := s_g1.trans r_hz
    exact mv_iret (pc := 89) B hr rfl d_Tokens_cutOne_89 (Nat.le_refl _) (Nat.le_refl _) ⟨_, rfl, xrh_i hf r_g1⟩
  have jn52 : ∀ (x1 : Int32) (y0 : Int32) (hz : mv_H), mv_r hz = mv_r h → f_Tokens_cutOne_52 x1 y0 hz = some (rv, rg) → mv_V p l e ({ frames := 5, cells := 0, slots := 0, locals := 129 }) s m ([.ref (al 3), .int a0] : List Value).toArray below meth c (mg dA D al ext) 4 0 0 (mv_Q (mg dA D al ext) below s 0 0 (mv_Ri (fun v σ1 => rv = v ∧ rg = σ1 ∧ mv_r σ1 = mv_r h))) hz 52 [(0, .ref (al 3)), (1, .int x1)] [.int y0] := by
    intro x1 y0 hz r_hz hf
    unfold f_Tokens_cutOne_52 at hf
    refine mv_istore_n (pc := 52) B d_Tokens_cutOne_52 rfl (by decide) rfl ?_
    refine mv_iload_n (pc := 53) B d_Tokens_cutOne_53 rfl 0 rfl ?_
    refine mv_if_eq (pc := 54) (tgt := 65) B d_Tokens_cutOne_54 rfl (fun h54 => ?_) (fun h54 => ?_)
    · skip
      have hf := xif_t h54 hf
      refine mv_aload_n (pc := 65) B d_Tokens_cutOne_65 rfl 1 rfl ?_
      refine mv_iload_n (pc := 66) B d_Tokens_cutOne_66 rfl 2 rfl ?_
      obtain ⟨v4, g3, eg3, hf⟩ := xhb_e hf
      refine mv_callVi (pc := 67) (n := 1) (ci := 2) (C := R_Tokens) B (mK_ok sk sv) hNs rfl rfl (ch_Tokens_cutDecimal l hi _ (xrw r_hz hb) _ eg3) rfl (ma_goodc kc_Tokens_cutDecimal) (B.2.2.2.1 _ k_856) (B.2.2.2.1 _ k_858) (B.2.2.2.1 _ ks_26) (B.2.2.2.1 _ k_3) ⟨by decide +kernel, by decide +kernel, by decide +kernel⟩ rfl d_Tokens_cutOne_67 rfl (Nat.le_of_ble_eq_true rfl) ⟨by decide, by decide⟩ ⟨by decide, by decide⟩ ⟨by decide, by decide⟩ (mv_noH hno _) (fun w67 σ67 h67 => ?_)
      obtain ⟨rfl, rfl, s_g3⟩ := h67
      have r_g3 : mv_r g3 = mv_r h := s_g3.trans r_hz
      exact mv_iret (pc := 70) B hr rfl d_Tokens_cutOne_70 (Nat.le_refl _) (Nat.le_refl _) ⟨_, rfl, xrh_i hf r_g3⟩
    · skip
      have hf := xif_f h54 hf
      refine mv_aload_n (pc := 57) B d_Tokens_cutOne_57 rfl 1 rfl ?_
      refine mv_iload_n (pc := 58) B d_Tokens_cutOne_58 rfl 2 rfl ?_
      obtain ⟨v6, g5, eg5, hf⟩ := xhb_e hf
      refine mv_callVi (pc := 59) (n := 1) (ci := 2) (C := R_Tokens) B (mK_ok sk sv) hNs rfl rfl (ch_Tokens_cutHex l hi _ (xrw r_hz hb) _ eg5) rfl (ma_goodc kc_Tokens_cutHex) (B.2.2.2.1 _ k_838) (B.2.2.2.1 _ k_840) (B.2.2.2.1 _ ks_23) (B.2.2.2.1 _ k_3) ⟨by decide +kernel, by decide +kernel, by decide +kernel⟩ rfl d_Tokens_cutOne_59 rfl (Nat.le_of_ble_eq_true rfl) ⟨by decide, by decide⟩ ⟨by decide, by decide⟩ ⟨by decide, by decide⟩ (mv_noH hno _) (fun w59 σ59 h59 => ?_)
      obtain ⟨rfl, rfl, s_g5⟩ := h59
      have r_g5 : mv_r g5 = mv_r h := s_g5.trans r_hz
      refine mv_goto (pc := 62) (tgt := 70) B d_Tokens_cutOne_62 rfl ?_
      exact mv_iret (pc := 70) B hr rfl d_Tokens_cutOne_70 (Nat.le_refl _) (Nat.le_refl _) ⟨_, rfl, xrh_i hf r_g5⟩
  have jn51 : ∀ (x1 : Int32) (hz : mv_H), mv_r hz = mv_r h → f_Tokens_cutOne_51 x1 hz = some (rv, rg) → mv_V p l e ({ frames := 5, cells := 0, slots := 0, locals := 129 }) s m ([.ref (al 3), .int a0] : List Value).toArray below meth c (mg dA D al ext) 4 0 0 (mv_Q (mg dA D al ext) below s 0 0 (mv_Ri (fun v σ1 => rv = v ∧ rg = σ1 ∧ mv_r σ1 = mv_r h))) hz 51 [(0, .ref (al 3)), (1, .int x1)] [] := by
    intro x1 hz r_hz hf
    unfold f_Tokens_cutOne_51 at hf
    refine mv_iconst (pc := 51) (v := 0) B d_Tokens_cutOne_51 (by decide) ?_
    refine mv_lpick [0, 1] rfl ?_
    exact jn52 _ _ _ r_hz hf
  unfold f_Tokens_cutOne at hf
  refine mv_aload_n (pc := 0) B d_Tokens_cutOne_0 rfl 0 rfl ?_
  refine mv_iload_n (pc := 1) B d_Tokens_cutOne_1 rfl 1 rfl ?_
  obtain ⟨v8, g7, eg7, hf⟩ := xhb_e hf
  refine mv_callVi (pc := 2) (n := 1) (ci := 2) (C := R_Tokens) B (mK_ok sk sv) hNs rfl rfl (ch_Tokens_characterAt l hi _ (hb) _ eg7) rfl (ma_goodc kc_Tokens_characterAt) (B.2.2.2.1 _ k_827) (B.2.2.2.1 _ k_829) (B.2.2.2.1 _ ks_21) (B.2.2.2.1 _ k_3) ⟨by decide +kernel, by decide +kernel, by decide +kernel⟩ rfl d_Tokens_cutOne_2 rfl (Nat.le_of_ble_eq_true rfl) ⟨by decide, by decide⟩ ⟨by decide, by decide⟩ ⟨by decide, by decide⟩ (mv_noH hno _) (fun w2 σ2 h2 => ?_)
  obtain ⟨rfl, rfl, s_g7⟩ := h2
  have r_g7 : mv_r g7 = mv_r h := s_g7.trans rfl
  refine mv_istore_n (pc := 5) B d_Tokens_cutOne_5 rfl (by decide) rfl ?_
  refine mv_iload_n (pc := 6) B d_Tokens_cutOne_6 rfl 0 rfl ?_
  refine mv_if_ge (pc := 7) (tgt := 22) B d_Tokens_cutOne_7 rfl (fun h7 => ?_) (fun h7 => ?_)
  · skip
    have hf := xif_t h7 hf
    refine mv_iload_n (pc := 22) B d_Tokens_cutOne_22 rfl 0 rfl ?_
    obtain ⟨v10, g9, eg9, hf⟩ := xhb_e hf
    refine mv_callSi (pc := 23) (n := 1) B (mK_ok sk sv) hNs (ch_Tokens_isDigit l hi _ _ eg9) rfl (ma_goodc kc_Tokens_isDigit) (B.2.2.2.1 _ k_835) (B.2.2.2.1 _ k_836) (B.2.2.2.1 _ k_3) ⟨by decide +kernel, by decide +kernel, by decide +kernel⟩ rfl d_Tokens_cutOne_23 rfl (Nat.le_of_ble_eq_true rfl) ⟨by decide, by decide⟩ ⟨by decide, by decide⟩ ⟨by decide, by decide⟩ (mv_noH hno _) (fun w23 σ23 h23 => ?_)
    obtain ⟨rfl, rfl, s_g9⟩ := h23
    have r_g9 : mv_r g9 = mv_r h := s_g9.trans r_g7
    refine mv_if_eq (pc := 26) (tgt := 71) B d_Tokens_cutOne_26 rfl (fun h26 => ?_) (fun h26 => ?_)
    · skip
      have hf := xif_t h26 hf
      refine mv_iload_n (pc := 71) B d_Tokens_cutOne_71 rfl 0 rfl ?_
      obtain ⟨v12, g11, eg11, hf⟩ := xhb_e hf
      refine mv_callSi (pc := 72) (n := 1) B (mK_ok sk sv) hNs (ch_Tokens_isLetter l hi _ _ eg11) rfl (ma_goodc kc_Tokens_isLetter) (B.2.2.2.1 _ k_853) (B.2.2.2.1 _ k_854) (B.2.2.2.1 _ k_3) ⟨by decide +kernel, by decide +kernel, by decide +kernel⟩ rfl d_Tokens_cutOne_72 rfl (Nat.le_of_ble_eq_true rfl) ⟨by decide, by decide⟩ ⟨by decide, by decide⟩ ⟨by decide, by decide⟩ (mv_noH hno _) (fun w72 σ72 h72 => ?_)
      obtain ⟨rfl, rfl, s_g11⟩ := h72
      have r_g11 : mv_r g11 = mv_r h := s_g11.trans r_g9
      refine mv_if_ne (pc := 75) (tgt := 84) B d_Tokens_cutOne_75 rfl (fun h75 => ?_) (fun h75 => ?_)
      · skip
        have hf := xif_f h75 hf
        refine mv_lpick [1, 2] rfl ?_
        exact jn84 _ _ r_g11 hf
      · skip
        have hf := xif_t h75 hf
        refine mv_iload_n (pc := 78) B d_Tokens_cutOne_78 rfl 0 rfl ?_
        refine mv_bipush (pc := 79) (v := 95) B d_Tokens_cutOne_79 (by decide) ?_
        refine mv_icmp_ne (pc := 81) (tgt := 90) B d_Tokens_cutOne_81 rfl (fun h81 => ?_) (fun h81 => ?_)
        · skip
          have hf := xif_f h81 hf
          refine mv_iload_n (pc := 90) B d_Tokens_cutOne_90 rfl 0 rfl ?_
          refine mv_bipush (pc := 91) (v := 34) B d_Tokens_cutOne_91 (by decide) ?_
          refine mv_icmp_ne (pc := 93) (tgt := 104) B d_Tokens_cutOne_93 rfl (fun h93 => ?_) (fun h93 => ?_)
          · skip
            have hf := xif_f h93 hf
            refine mv_aload_n (pc := 104) B d_Tokens_cutOne_104 rfl 1 rfl ?_
            refine mv_iload_n (pc := 105) B d_Tokens_cutOne_105 rfl 2 rfl ?_
            refine mv_iload_n (pc := 106) B d_Tokens_cutOne_106 rfl 0 rfl ?_
            obtain ⟨v14, g13, eg13, hf⟩ := xhb_e hf
            refine mv_callVi (pc := 107) (n := 2) (ci := 2) (C := R_Tokens) B (mK_ok sk sv) hNs rfl rfl (ch_Tokens_cutSign l hi _ (xrw r_g11 hb) _ _ eg13) rfl (ma_goodc kc_Tokens_cutSign) (B.2.2.2.1 _ k_877) (B.2.2.2.1 _ k_879) (B.2.2.2.1 _ ks_29) (B.2.2.2.1 _ k_3) ⟨by decide +kernel, by decide +kernel, by decide +kernel⟩ rfl d_Tokens_cutOne_107 rfl (Nat.le_of_ble_eq_true rfl) ⟨by decide, by decide⟩ ⟨by decide, by decide⟩ ⟨by decide, by decide⟩ (mv_noH hno _) (fun w107 σ107 h107 => ?_)
            obtain ⟨rfl, rfl, s_g13⟩ := h107
            have r_g13 : mv_r g13 = mv_r h := s_g13.trans r_g11
            exact mv_iret (pc := 110) B hr rfl d_Tokens_cutOne_110 (Nat.le_refl _) (Nat.le_refl _) ⟨_, rfl, xrh_i hf r_g13⟩
          · skip
            have hf := xif_t h93 hf
            refine mv_aload_n (pc := 96) B d_Tokens_cutOne_96 rfl 1 rfl ?_
            refine mv_iload_n (pc := 97) B d_Tokens_cutOne_97 rfl 2 rfl ?_
            obtain ⟨v16, g15, eg15, hf⟩ := xhb_e hf
            refine mv_callVi (pc := 98) (n := 1) (ci := 2) (C := R_Tokens) B (mK_ok sk sv) hNs rfl rfl (ch_Tokens_cutCode l hi _ (xrw r_g11 hb) _ eg15) rfl (ma_goodc kc_Tokens_cutCode) (B.2.2.2.1 _ k_870) (B.2.2.2.1 _ k_872) (B.2.2.2.1 _ ks_28) (B.2.2.2.1 _ k_3) ⟨by decide +kernel, by decide +kernel, by decide +kernel⟩ rfl d_Tokens_cutOne_98 rfl (Nat.le_of_ble_eq_true rfl) ⟨by decide, by decide⟩ ⟨by decide, by decide⟩ ⟨by decide, by decide⟩ (mv_noH hno _) (fun w98 σ98 h98 => ?_)
            obtain ⟨rfl, rfl, s_g15⟩ := h98
            have r_g15 : mv_r g15 = mv_r h := s_g15.trans r_g11
            refine mv_goto (pc := 101) (tgt := 110) B d_Tokens_cutOne_101 rfl ?_
            exact mv_iret (pc := 110) B hr rfl d_Tokens_cutOne_110 (Nat.le_refl _) (Nat.le_refl _) ⟨_, rfl, xrh_i hf r_g15⟩
        · skip
          have hf := xif_t h81 hf
          refine mv_lpick [1, 2] rfl ?_
          exact jn84 _ _ r_g11 hf
    · skip
      have hf := xif_f h26 hf
      refine mv_iload_n (pc := 29) B d_Tokens_cutOne_29 rfl 0 rfl ?_
      refine mv_bipush (pc := 30) (v := 48) B d_Tokens_cutOne_30 (by decide) ?_
      refine mv_icmp_ne (pc := 32) (tgt := 51) B d_Tokens_cutOne_32 rfl (fun h32 => ?_) (fun h32 => ?_)
      · skip
        have hf := xif_f h32 hf
        refine mv_lpick [1, 2] rfl ?_
        exact jn51 _ _ r_g9 hf
      · skip
        have hf := xif_t h32 hf
        refine mv_aload_n (pc := 35) B d_Tokens_cutOne_35 rfl 1 rfl ?_
        refine mv_iload_n (pc := 36) B d_Tokens_cutOne_36 rfl 2 rfl ?_
        refine mv_iconst (pc := 37) (v := 1) B d_Tokens_cutOne_37 (by decide) ?_
        refine mv_iadd (pc := 38) B d_Tokens_cutOne_38 ?_
        obtain ⟨v18, g17, eg17, hf⟩ := xhb_e hf
        refine mv_callVi (pc := 39) (n := 1) (ci := 2) (C := R_Tokens) B (mK_ok sk sv) hNs rfl rfl (ch_Tokens_characterAt l hi _ (xrw r_g9 hb) _ eg17) rfl (ma_goodc kc_Tokens_characterAt) (B.2.2.2.1 _ k_827) (B.2.2.2.1 _ k_829) (B.2.2.2.1 _ ks_21) (B.2.2.2.1 _ k_3) ⟨by decide +kernel, by decide +kernel, by decide +kernel⟩ rfl d_Tokens_cutOne_39 rfl (Nat.le_of_ble_eq_true rfl) ⟨by decide, by decide⟩ ⟨by decide, by decide⟩ ⟨by decide, by decide⟩ (mv_noH hno _) (fun w39 σ39 h39 => ?_)
        obtain ⟨rfl, rfl, s_g17⟩ := h39
        have r_g17 : mv_r g17 = mv_r h := s_g17.trans r_g9
        refine mv_bipush (pc := 42) (v := 120) B d_Tokens_cutOne_42 (by decide) ?_
        refine mv_icmp_ne (pc := 44) (tgt := 51) B d_Tokens_cutOne_44 rfl (fun h44 => ?_) (fun h44 => ?_)
        · skip
          have hf := xif_f h44 hf
          refine mv_lpick [1, 2] rfl ?_
          exact jn51 _ _ r_g17 hf
        · skip
          have hf := xif_t h44 hf
          refine mv_iconst (pc := 47) (v := 1) B d_Tokens_cutOne_47 (by decide) ?_
          refine mv_goto (pc := 48) (tgt := 52) B d_Tokens_cutOne_48 rfl ?_
          refine mv_lpick [1, 2] rfl ?_
          exact jn52 _ _ _ r_g17 hf
  · skip
    have hf := xif_f h7 hf
    refine mv_aload_n (pc := 10) B d_Tokens_cutOne_10 rfl 1 rfl ?_
    refine mv_iconst (pc := 11) (v := 1) B d_Tokens_cutOne_11 (by decide) ?_
    refine mv_aload_n (pc := 12) B d_Tokens_cutOne_12 rfl 1 rfl ?_
    refine mv_getI (pc := 13) (ci := 2) (C := R_Tokens) (T := F_Tokens) (N := 10) B 5 rfl rfl (by decide) i_Tokens (B.2.2.2.1 _ k_100) rfl d_Tokens_cutOne_13 ?_
    refine mv_lconst (pc := 16) (v := 0) B d_Tokens_cutOne_16 (by decide) ?_
    refine mv_iconst (pc := 17) (v := -1) B d_Tokens_cutOne_17 (by decide) ?_
    obtain ⟨v20, g19, eg19, hf⟩ := xhb_e hf
    refine mv_callVi (pc := 18) (n := 4) (ci := 2) (C := R_Tokens) B (mK_ok sk sv) hNs rfl rfl (ch_Tokens_add l hi _ (xrw r_g7 hb) _ _ _ _ eg19) rfl (ma_goodc kc_Tokens_add) (B.2.2.2.1 _ k_831) (B.2.2.2.1 _ k_833) (B.2.2.2.1 _ ks_22) (B.2.2.2.1 _ k_3) ⟨by decide +kernel, by decide +kernel, by decide +kernel⟩ rfl d_Tokens_cutOne_18 rfl (Nat.le_of_ble_eq_true rfl) ⟨by decide, by decide⟩ ⟨by decide, by decide⟩ ⟨by decide, by decide⟩ (mv_noH hno _) (fun w18 σ18 h18 => ?_)
    obtain ⟨rfl, rfl, s_g19⟩ := h18
    have r_g19 : mv_r g19 = mv_r h := s_g19.trans r_g7
    exact mv_iret (pc := 21) B hr rfl d_Tokens_cutOne_21 (Nat.le_refl _) (Nat.le_refl _) ⟨_, rfl, xrh_i hf r_g19⟩
def fF_Tokens_cut_42 (k42 : Int32 → Int32 → mv_H → Option mv_H) (x3 : Int32) (x4 : Int32) (hz : mv_H) : Option mv_H := if (32768 : Int32) < x4 then (some hz) else (if x3 < (0 : Int32) then (some hz) else (xhb (f_Tokens_behindSpaces hz x3) fun v2 g1 => xhb (f_Tokens_cutOne g1 v2) fun v4 g3 => k42 v4 (x4 + 1) g3))
def f_Tokens_cut_42 : Nat → Int32 → Int32 → mv_H → Option mv_H
  | 0 => fun _ _ _ => none
  | nn + 1 => fF_Tokens_cut_42 (f_Tokens_cut_42 nn)
def f_Tokens_cut (h : mv_H) (a1 : Int32) : Option mv_H := xk (mv_sr h 3 4 (some 1)) fun g5 => xk (mv_si g5 3 5 a1) fun g6 => xk (mv_si g6 3 6 (1 : Int32)) fun g7 => xk (mv_si g7 3 7 (1 : Int32)) fun g8 => xk (mv_si g8 3 8 (0 : Int32)) fun g9 => xk (mv_si g9 3 9 (-1 : Int32)) fun g10 => xhv (f_Symbols_clear g10) fun g11 => f_Tokens_cut_42 200000 (0 : Int32) (0 : Int32) g11
set_option maxHeartbeats 4000000 in
set_option maxRecDepth 100000 in
theorem ch_Tokens_cut (l : Launch) {dA : FieldType → ClassId} {D : va_G} {al : Nat → Nat} {ext : mv_Sh} {sk sv : Nat → Nat} (hi : mv_inj (mg dA D al ext)) (h : mv_H) (hb : mh (mv_r h))  (a1 : Int32) {rg : mv_H} (hf : f_Tokens_cut h a1 = some rg) : mv_C l y_Tokens_cut (Cond.code y_Tokens_cut b_Tokens_cut 5 (Option.none : Option Jvm.ClassFile.FieldType) :: ma) ({ frames := 6, cells := 0, slots := 0, locals := 152 }) (mg dA D al ext) (mK sk sv) [.ref (al 3), .ref (al 1), .int a1] h (mv_Rv (fun σ1 => rg = σ1 ∧ mv_r σ1 = mv_r (mv_sr h 3 4 (some 1)))) := by
  refine mv_C.ofV (cc := b_Tokens_cut) (nL := 5) (ret := (Option.none : Option Jvm.ClassFile.FieldType)) (by decide +kernel) rfl hi (Nat.le_of_ble_eq_true rfl) ?_
  intro p e s m below meth c B hNs hr hnm hno
  have hb1 : xRT (mv_r (mv_sr h 3 4 (some 1))) := ⟨mh_sr hb rfl, rfl⟩
  have lp42 : ∀ (nn42 : Nat) (x3 : Int32) (x4 : Int32) (hz : mv_H), mv_r hz = mv_r (mv_sr h 3 4 (some 1)) → f_Tokens_cut_42 nn42 x3 x4 hz = some rg → mv_V p l e ({ frames := 6, cells := 0, slots := 0, locals := 152 }) s m ([.ref (al 3), .ref (al 1), .int a1] : List Value).toArray below meth c (mg dA D al ext) 5 0 0 (mv_Q (mg dA D al ext) below s 0 0 (mv_Rv (fun σ1 => rg = σ1 ∧ mv_r σ1 = mv_r (mv_sr h 3 4 (some 1))))) hz 42 [(0, .ref (al 3)), (3, .int x3), (4, .int x4)] [] := by
    intro nn42
    induction nn42 with
    | zero => intro x3 x4 hz r_hz hf; cases hf
    | succ nn42 ih42 =>
      intro x3 x4 hz r_hz hf
      have hf : fF_Tokens_cut_42 (f_Tokens_cut_42 nn42) x3 x4 hz = some rg := hf
      unfold fF_Tokens_cut_42 at hf
      refine mv_iload (pc := 42) B d_Tokens_cut_42 2 rfl ?_
      refine mv_ldc (pc := 44) (v := 32768) B (B.2.2.2.1 _ k_818) d_Tokens_cut_44 ?_
      refine mv_icmp_gt (pc := 46) (tgt := 69) B d_Tokens_cut_46 rfl (fun h46 => ?_) (fun h46 => ?_)
      · skip
        have hf := xif_t h46 hf
        exact mv_vret (pc := 69) B hr d_Tokens_cut_69 (Nat.le_refl _) (Nat.le_refl _) ⟨rfl, xrh_v hf r_hz⟩
      · skip
        have hf := xif_f h46 hf
        refine mv_iload_n (pc := 49) B d_Tokens_cut_49 rfl 1 rfl ?_
        refine mv_if_lt (pc := 50) (tgt := 69) B d_Tokens_cut_50 rfl (fun h50 => ?_) (fun h50 => ?_)
        · skip
          have hf := xif_t h50 hf
          exact mv_vret (pc := 69) B hr d_Tokens_cut_69 (Nat.le_refl _) (Nat.le_refl _) ⟨rfl, xrh_v hf r_hz⟩
        · skip
          have hf := xif_f h50 hf
          refine mv_aload_n (pc := 53) B d_Tokens_cut_53 rfl 0 rfl ?_
          refine mv_aload_n (pc := 54) B d_Tokens_cut_54 rfl 0 rfl ?_
          refine mv_iload_n (pc := 55) B d_Tokens_cut_55 rfl 1 rfl ?_
          obtain ⟨v2, g1, eg1, hf⟩ := xhb_e hf
          refine mv_callVi (pc := 56) (n := 1) (ci := 2) (C := R_Tokens) B (mK_ok sk sv) hNs rfl rfl (ch_Tokens_behindSpaces l hi _ (xrw r_hz hb1) _ eg1) rfl (ma_goodc kc_Tokens_behindSpaces) (B.2.2.2.1 _ k_819) (B.2.2.2.1 _ k_821) (B.2.2.2.1 _ ks_19) (B.2.2.2.1 _ k_3) ⟨by decide +kernel, by decide +kernel, by decide +kernel⟩ rfl d_Tokens_cut_56 rfl (Nat.le_of_ble_eq_true rfl) ⟨by decide, by decide⟩ ⟨by decide, by decide⟩ ⟨by decide, by decide⟩ (mv_noH hno _) (fun w56 σ56 h56 => ?_)
          obtain ⟨rfl, rfl, s_g1⟩ := h56
          have r_g1 : mv_r g1 = mv_r (mv_sr h 3 4 (some 1)) := s_g1.trans r_hz
          obtain ⟨v4, g3, eg3, hf⟩ := xhb_e hf
          refine mv_callVi (pc := 59) (n := 1) (ci := 2) (C := R_Tokens) B (mK_ok sk sv) hNs rfl rfl (ch_Tokens_cutOne l hi _ (xrw r_g1 hb1) _ eg3) rfl (ma_goodc kc_Tokens_cutOne) (B.2.2.2.1 _ k_823) (B.2.2.2.1 _ k_825) (B.2.2.2.1 _ ks_20) (B.2.2.2.1 _ k_3) ⟨by decide +kernel, by decide +kernel, by decide +kernel⟩ rfl d_Tokens_cut_59 rfl (Nat.le_of_ble_eq_true rfl) ⟨by decide, by decide⟩ ⟨by decide, by decide⟩ ⟨by decide, by decide⟩ (mv_noH hno _) (fun w59 σ59 h59 => ?_)
          obtain ⟨rfl, rfl, s_g3⟩ := h59
          have r_g3 : mv_r g3 = mv_r (mv_sr h 3 4 (some 1)) := s_g3.trans r_g1
          refine mv_istore_n (pc := 62) B d_Tokens_cut_62 rfl (by decide) rfl ?_
          refine mv_iinc (pc := 63) (j := 2) (v := 1) B d_Tokens_cut_63 rfl (by decide) (by decide) rfl ?_
          refine mv_goto (pc := 66) (tgt := 42) B d_Tokens_cut_66 rfl ?_
          refine mv_lpick [2, 1, 0] rfl ?_
          exact ih42 _ _ _ r_g3 hf
  unfold f_Tokens_cut at hf
  refine mv_aload_n (pc := 0) B d_Tokens_cut_0 rfl 0 rfl ?_
  refine mv_aload_n (pc := 1) B d_Tokens_cut_1 rfl 1 rfl ?_
  refine mv_putR (pc := 2) (ci := 2) (C := R_Tokens) (T := F_Tokens) (N := 10) B 4 rfl rfl (by decide) i_Tokens t_Tokens_ok n_Tokens (B.2.2.2.1 _ k_98) rfl rfl d_Tokens_cut_2 ?_
  refine mvh_hp (R9 := mv_r (mv_sr h 3 4 (some 1))) hf rfl (fun g5 hf r_g5 => ?_)
  refine mv_aload_n (pc := 5) B d_Tokens_cut_5 rfl 0 rfl ?_
  refine mv_iload_n (pc := 6) B d_Tokens_cut_6 rfl 2 rfl ?_
  refine mv_putI (pc := 7) (ci := 2) (C := R_Tokens) (T := F_Tokens) (N := 10) B 5 rfl rfl (by decide) i_Tokens t_Tokens_ok n_Tokens (B.2.2.2.1 _ k_100) rfl rfl rfl rfl d_Tokens_cut_7 ?_
  refine mvh_hp (R9 := mv_r (mv_sr h 3 4 (some 1))) hf r_g5 (fun g6 hf r_g6 => ?_)
  refine mv_aload_n (pc := 10) B d_Tokens_cut_10 rfl 0 rfl ?_
  refine mv_iconst (pc := 11) (v := 1) B d_Tokens_cut_11 (by decide) ?_
  refine mv_putI (pc := 12) (ci := 2) (C := R_Tokens) (T := F_Tokens) (N := 10) B 6 rfl rfl (by decide) i_Tokens t_Tokens_ok n_Tokens (B.2.2.2.1 _ k_101) rfl rfl rfl rfl d_Tokens_cut_12 ?_
  refine mvh_hp (R9 := mv_r (mv_sr h 3 4 (some 1))) hf r_g6 (fun g7 hf r_g7 => ?_)
  refine mv_aload_n (pc := 15) B d_Tokens_cut_15 rfl 0 rfl ?_
  refine mv_iconst (pc := 16) (v := 1) B d_Tokens_cut_16 (by decide) ?_
  refine mv_putI (pc := 17) (ci := 2) (C := R_Tokens) (T := F_Tokens) (N := 10) B 7 rfl rfl (by decide) i_Tokens t_Tokens_ok n_Tokens (B.2.2.2.1 _ k_102) rfl rfl rfl rfl d_Tokens_cut_17 ?_
  refine mvh_hp (R9 := mv_r (mv_sr h 3 4 (some 1))) hf r_g7 (fun g8 hf r_g8 => ?_)
  refine mv_aload_n (pc := 20) B d_Tokens_cut_20 rfl 0 rfl ?_
  refine mv_iconst (pc := 21) (v := 0) B d_Tokens_cut_21 (by decide) ?_
  refine mv_putI (pc := 22) (ci := 2) (C := R_Tokens) (T := F_Tokens) (N := 10) B 8 rfl rfl (by decide) i_Tokens t_Tokens_ok n_Tokens (B.2.2.2.1 _ k_103) rfl rfl rfl rfl d_Tokens_cut_22 ?_
  refine mvh_hp (R9 := mv_r (mv_sr h 3 4 (some 1))) hf r_g8 (fun g9 hf r_g9 => ?_)
  refine mv_aload_n (pc := 25) B d_Tokens_cut_25 rfl 0 rfl ?_
  refine mv_iconst (pc := 26) (v := -1) B d_Tokens_cut_26 (by decide) ?_
  refine mv_putI (pc := 27) (ci := 2) (C := R_Tokens) (T := F_Tokens) (N := 10) B 9 rfl rfl (by decide) i_Tokens t_Tokens_ok n_Tokens (B.2.2.2.1 _ k_105) rfl rfl rfl rfl d_Tokens_cut_27 ?_
  refine mvh_hp (R9 := mv_r (mv_sr h 3 4 (some 1))) hf r_g9 (fun g10 hf r_g10 => ?_)
  refine mv_aload_n (pc := 30) B d_Tokens_cut_30 rfl 0 rfl ?_
  refine mv_getR (pc := 31) (ci := 2) (C := R_Tokens) (T := F_Tokens) (N := 10) B 3 rfl rfl (by decide) i_Tokens (B.2.2.2.1 _ k_97) rfl ((congrFun (congrFun r_g10 3) 3).trans (hb1.1 3 3 _ rfl)) d_Tokens_cut_31 ?_
  obtain ⟨g11, eg11, hf⟩ := xhv_e hf
  refine mv_callVv (pc := 34) (n := 0) (ci := 3) (C := R_Symbols) B (mK_ok sk sv) hNs rfl rfl (ch_Symbols_clear l hi _ (xrw r_g10 hb1) eg11) rfl (ma_goodc kc_Symbols_clear) (B.2.2.2.1 _ k_793) (B.2.2.2.1 _ k_794) (B.2.2.2.1 _ k_795) (B.2.2.2.1 _ k_4) ⟨by decide +kernel, by decide +kernel, by decide +kernel⟩ rfl d_Tokens_cut_34 rfl (Nat.le_of_ble_eq_true rfl) ⟨by decide, by decide⟩ ⟨by decide, by decide⟩ ⟨by decide, by decide⟩ (mv_noH hno _) (fun σ34 h34 => ?_)
  obtain ⟨rfl, s_g11⟩ := h34
  have r_g11 : mv_r g11 = mv_r (mv_sr h 3 4 (some 1)) := s_g11.trans r_g10
  refine mv_iconst (pc := 37) (v := 0) B d_Tokens_cut_37 (by decide) ?_
  refine mv_istore_n (pc := 38) B d_Tokens_cut_38 rfl (by decide) rfl ?_
  refine mv_iconst (pc := 39) (v := 0) B d_Tokens_cut_39 (by decide) ?_
  refine mv_istore (pc := 40) B d_Tokens_cut_40 (by decide) rfl ?_
  refine mv_lpick [2, 1, 0] rfl ?_
  exact lp42 _ _ _ _ r_g11 hf
def f_Bits_mask (h : mv_H) (a0 : Int32) : Option (Int64 × mv_H) := if a0 < (64 : Int32) then (some ((((1 : Int64) <<< ((a0).toInt64 &&& 63)) - (1 : Int64)), h)) else (some ((-1 : Int64), h))
set_option maxHeartbeats 4000000 in
set_option maxRecDepth 100000 in
theorem ch_Bits_mask (l : Launch) {dA : FieldType → ClassId} {D : va_G} {al : Nat → Nat} {ext : mv_Sh} {sk sv : Nat → Nat} (hi : mv_inj (mg dA D al ext)) (h : mv_H)  (a0 : Int32) {rv : Int64} {rg : mv_H} (hf : f_Bits_mask h a0 = some (rv, rg)) : mv_C l y_Bits_mask (Cond.code y_Bits_mask b_Bits_mask 1 (Option.some Jvm.ClassFile.FieldType.long) :: ma) ({ frames := 0, cells := 0, slots := 0, locals := 0 }) (mg dA D al ext) (mK sk sv) [.int a0] h (mv_Rl (fun v σ1 => rv = v ∧ rg = σ1 ∧ mv_r σ1 = mv_r h)) := by
  refine mv_C.ofV (cc := b_Bits_mask) (nL := 1) (ret := (Option.some Jvm.ClassFile.FieldType.long)) (by decide +kernel) rfl hi (Nat.le_of_ble_eq_true rfl) ?_
  intro p e s m below meth c B hNs hr hnm hno
  unfold f_Bits_mask at hf
  refine mv_iload_n (pc := 0) B d_Bits_mask_0 rfl 0 rfl ?_
  refine mv_bipush (pc := 1) (v := 64) B d_Bits_mask_1 (by decide) ?_
  refine mv_icmp_lt (pc := 3) (tgt := 12) B d_Bits_mask_3 rfl (fun h3 => ?_) (fun h3 => ?_)
  · skip
    have hf := xif_t h3 hf
    refine mv_lconst (pc := 12) (v := 1) B d_Bits_mask_12 (by decide) ?_
    refine mv_iload_n (pc := 13) B d_Bits_mask_13 rfl 0 rfl ?_
    refine mv_lshl (pc := 14) B d_Bits_mask_14 ?_
    refine mv_lconst (pc := 15) (v := 1) B d_Bits_mask_15 (by decide) ?_
    refine mv_lsub (pc := 16) B d_Bits_mask_16 ?_
    exact mv_lret (pc := 17) B hr d_Bits_mask_17 (Nat.le_refl _) (Nat.le_refl _) ⟨_, rfl, xrh_l hf rfl⟩
  · skip
    have hf := xif_f h3 hf
    refine mv_ldc2 (pc := 6) (v := -1) B (B.2.2.2.1 _ k_1439) d_Bits_mask_6 ?_
    refine mv_goto (pc := 9) (tgt := 17) B d_Bits_mask_9 rfl ?_
    exact mv_lret (pc := 17) B hr d_Bits_mask_17 (Nat.le_refl _) (Nat.le_refl _) ⟨_, rfl, xrh_l hf rfl⟩
def f_Bits_below (h : mv_H) (a0 : Int64) (a1 : Int64) : Option (Int32 × mv_H) := if (0 : Int32) ≤ (lg_cmp (a0 ^^^ (-9223372036854775808 : Int64)) (a1 ^^^ (-9223372036854775808 : Int64))) then (bif xzb (0 : Int32) then some ((0 : Int32), h) else none) else (bif xzb (1 : Int32) then some ((1 : Int32), h) else none)
set_option maxHeartbeats 4000000 in
set_option maxRecDepth 100000 in
theorem ch_Bits_below (l : Launch) {dA : FieldType → ClassId} {D : va_G} {al : Nat → Nat} {ext : mv_Sh} {sk sv : Nat → Nat} (hi : mv_inj (mg dA D al ext)) (h : mv_H)  (a0 : Int64) (a1 : Int64) {rv : Int32} {rg : mv_H} (hf : f_Bits_below h a0 a1 = some (rv, rg)) : mv_C l y_Bits_below (Cond.code y_Bits_below b_Bits_below 4 (Option.some Jvm.ClassFile.FieldType.boolean) :: ma) ({ frames := 0, cells := 0, slots := 0, locals := 0 }) (mg dA D al ext) (mK sk sv) [.long a0, .long a1] h (mv_Ri (fun v σ1 => rv = v ∧ rg = σ1 ∧ mv_r σ1 = mv_r h)) := by
  refine mv_C.ofV (cc := b_Bits_below) (nL := 4) (ret := (Option.some Jvm.ClassFile.FieldType.boolean)) (by decide +kernel) rfl hi (Nat.le_of_ble_eq_true rfl) ?_
  intro p e s m below meth c B hNs hr hnm hno
  unfold f_Bits_below at hf
  refine mv_lload_n (pc := 0) B d_Bits_below_0 rfl 0 rfl ?_
  refine mv_ldc2 (pc := 1) (v := -9223372036854775808) B (B.2.2.2.1 _ k_1476) d_Bits_below_1 ?_
  refine mv_lxor (pc := 4) B d_Bits_below_4 ?_
  refine mv_lload_n (pc := 5) B d_Bits_below_5 rfl 1 rfl ?_
  refine mv_ldc2 (pc := 6) (v := -9223372036854775808) B (B.2.2.2.1 _ k_1476) d_Bits_below_6 ?_
  refine mv_lxor (pc := 9) B d_Bits_below_9 ?_
  refine mv_lcmp (pc := 10) B d_Bits_below_10 ?_
  refine mv_if_ge (pc := 11) (tgt := 18) B d_Bits_below_11 rfl (fun h11 => ?_) (fun h11 => ?_)
  · skip
    have hf := xif_t h11 hf
    refine mv_iconst (pc := 18) (v := 0) B d_Bits_below_18 (by decide) ?_
    obtain ⟨q1, hf⟩ := xzb_e hf
    exact mv_iret (pc := 19) B hr (xzb_n q1) d_Bits_below_19 (Nat.le_refl _) (Nat.le_refl _) ⟨_, rfl, xrh_i hf rfl⟩
  · skip
    have hf := xif_f h11 hf
    refine mv_iconst (pc := 14) (v := 1) B d_Bits_below_14 (by decide) ?_
    refine mv_goto (pc := 15) (tgt := 19) B d_Bits_below_15 rfl ?_
    obtain ⟨q2, hf⟩ := xzb_e hf
    exact mv_iret (pc := 19) B hr (xzb_n q2) d_Bits_below_19 (Nat.le_refl _) (Nat.le_refl _) ⟨_, rfl, xrh_i hf rfl⟩
def f_Long_bitCount (h : mv_H) (a0 : Int64) : Option (Int32 × mv_H) := some ((((((((((((a0 - ((((a0).toUInt64 >>> (((1 : Int32)).toInt64.toUInt64 &&& Int64.toUInt64 63)).toInt64) &&& (6148914691236517205 : Int64))) &&& (3689348814741910323 : Int64)) + (((((a0 - ((((a0).toUInt64 >>> (((1 : Int32)).toInt64.toUInt64 &&& Int64.toUInt64 63)).toInt64) &&& (6148914691236517205 : Int64)))).toUInt64 >>> (((2 : Int32)).toInt64.toUInt64 &&& Int64.toUInt64 63)).toInt64) &&& (3689348814741910323 : Int64))) + ((((((a0 - ((((a0).toUInt64 >>> (((1 : Int32)).toInt64.toUInt64 &&& Int64.toUInt64 63)).toInt64) &&& (6148914691236517205 : Int64))) &&& (3689348814741910323 : Int64)) + (((((a0 - ((((a0).toUInt64 >>> (((1 : Int32)).toInt64.toUInt64 &&& Int64.toUInt64 63)).toInt64) &&& (6148914691236517205 : Int64)))).toUInt64 >>> (((2 : Int32)).toInt64.toUInt64 &&& Int64.toUInt64 63)).toInt64) &&& (3689348814741910323 : Int64)))).toUInt64 >>> (((4 : Int32)).toInt64.toUInt64 &&& Int64.toUInt64 63)).toInt64)) &&& (1085102592571150095 : Int64)) + ((((((((a0 - ((((a0).toUInt64 >>> (((1 : Int32)).toInt64.toUInt64 &&& Int64.toUInt64 63)).toInt64) &&& (6148914691236517205 : Int64))) &&& (3689348814741910323 : Int64)) + (((((a0 - ((((a0).toUInt64 >>> (((1 : Int32)).toInt64.toUInt64 &&& Int64.toUInt64 63)).toInt64) &&& (6148914691236517205 : Int64)))).toUInt64 >>> (((2 : Int32)).toInt64.toUInt64 &&& Int64.toUInt64 63)).toInt64) &&& (3689348814741910323 : Int64))) + ((((((a0 - ((((a0).toUInt64 >>> (((1 : Int32)).toInt64.toUInt64 &&& Int64.toUInt64 63)).toInt64) &&& (6148914691236517205 : Int64))) &&& (3689348814741910323 : Int64)) + (((((a0 - ((((a0).toUInt64 >>> (((1 : Int32)).toInt64.toUInt64 &&& Int64.toUInt64 63)).toInt64) &&& (6148914691236517205 : Int64)))).toUInt64 >>> (((2 : Int32)).toInt64.toUInt64 &&& Int64.toUInt64 63)).toInt64) &&& (3689348814741910323 : Int64)))).toUInt64 >>> (((4 : Int32)).toInt64.toUInt64 &&& Int64.toUInt64 63)).toInt64)) &&& (1085102592571150095 : Int64))).toUInt64 >>> (((8 : Int32)).toInt64.toUInt64 &&& Int64.toUInt64 63)).toInt64)) + (((((((((a0 - ((((a0).toUInt64 >>> (((1 : Int32)).toInt64.toUInt64 &&& Int64.toUInt64 63)).toInt64) &&& (6148914691236517205 : Int64))) &&& (3689348814741910323 : Int64)) + (((((a0 - ((((a0).toUInt64 >>> (((1 : Int32)).toInt64.toUInt64 &&& Int64.toUInt64 63)).toInt64) &&& (6148914691236517205 : Int64)))).toUInt64 >>> (((2 : Int32)).toInt64.toUInt64 &&& Int64.toUInt64 63)).toInt64) &&& (3689348814741910323 : Int64))) + ((((((a0 - ((((a0).toUInt64 >>> (((1 : Int32)).toInt64.toUInt64 &&& Int64.toUInt64 63)).toInt64) &&& (6148914691236517205 : Int64))) &&& (3689348814741910323 : Int64)) + (((((a0 - ((((a0).toUInt64 >>> (((1 : Int32)).toInt64.toUInt64 &&& Int64.toUInt64 63)).toInt64) &&& (6148914691236517205 : Int64)))).toUInt64 >>> (((2 : Int32)).toInt64.toUInt64 &&& Int64.toUInt64 63)).toInt64) &&& (3689348814741910323 : Int64)))).toUInt64 >>> (((4 : Int32)).toInt64.toUInt64 &&& Int64.toUInt64 63)).toInt64)) &&& (1085102592571150095 : Int64)) + ((((((((a0 - ((((a0).toUInt64 >>> (((1 : Int32)).toInt64.toUInt64 &&& Int64.toUInt64 63)).toInt64) &&& (6148914691236517205 : Int64))) &&& (3689348814741910323 : Int64)) + (((((a0 - ((((a0).toUInt64 >>> (((1 : Int32)).toInt64.toUInt64 &&& Int64.toUInt64 63)).toInt64) &&& (6148914691236517205 : Int64)))).toUInt64 >>> (((2 : Int32)).toInt64.toUInt64 &&& Int64.toUInt64 63)).toInt64) &&& (3689348814741910323 : Int64))) + ((((((a0 - ((((a0).toUInt64 >>> (((1 : Int32)).toInt64.toUInt64 &&& Int64.toUInt64 63)).toInt64) &&& (6148914691236517205 : Int64))) &&& (3689348814741910323 : Int64)) + (((((a0 - ((((a0).toUInt64 >>> (((1 : Int32)).toInt64.toUInt64 &&& Int64.toUInt64 63)).toInt64) &&& (6148914691236517205 : Int64)))).toUInt64 >>> (((2 : Int32)).toInt64.toUInt64 &&& Int64.toUInt64 63)).toInt64) &&& (3689348814741910323 : Int64)))).toUInt64 >>> (((4 : Int32)).toInt64.toUInt64 &&& Int64.toUInt64 63)).toInt64)) &&& (1085102592571150095 : Int64))).toUInt64 >>> (((8 : Int32)).toInt64.toUInt64 &&& Int64.toUInt64 63)).toInt64))).toUInt64 >>> (((16 : Int32)).toInt64.toUInt64 &&& Int64.toUInt64 63)).toInt64)) + ((((((((((a0 - ((((a0).toUInt64 >>> (((1 : Int32)).toInt64.toUInt64 &&& Int64.toUInt64 63)).toInt64) &&& (6148914691236517205 : Int64))) &&& (3689348814741910323 : Int64)) + (((((a0 - ((((a0).toUInt64 >>> (((1 : Int32)).toInt64.toUInt64 &&& Int64.toUInt64 63)).toInt64) &&& (6148914691236517205 : Int64)))).toUInt64 >>> (((2 : Int32)).toInt64.toUInt64 &&& Int64.toUInt64 63)).toInt64) &&& (3689348814741910323 : Int64))) + ((((((a0 - ((((a0).toUInt64 >>> (((1 : Int32)).toInt64.toUInt64 &&& Int64.toUInt64 63)).toInt64) &&& (6148914691236517205 : Int64))) &&& (3689348814741910323 : Int64)) + (((((a0 - ((((a0).toUInt64 >>> (((1 : Int32)).toInt64.toUInt64 &&& Int64.toUInt64 63)).toInt64) &&& (6148914691236517205 : Int64)))).toUInt64 >>> (((2 : Int32)).toInt64.toUInt64 &&& Int64.toUInt64 63)).toInt64) &&& (3689348814741910323 : Int64)))).toUInt64 >>> (((4 : Int32)).toInt64.toUInt64 &&& Int64.toUInt64 63)).toInt64)) &&& (1085102592571150095 : Int64)) + ((((((((a0 - ((((a0).toUInt64 >>> (((1 : Int32)).toInt64.toUInt64 &&& Int64.toUInt64 63)).toInt64) &&& (6148914691236517205 : Int64))) &&& (3689348814741910323 : Int64)) + (((((a0 - ((((a0).toUInt64 >>> (((1 : Int32)).toInt64.toUInt64 &&& Int64.toUInt64 63)).toInt64) &&& (6148914691236517205 : Int64)))).toUInt64 >>> (((2 : Int32)).toInt64.toUInt64 &&& Int64.toUInt64 63)).toInt64) &&& (3689348814741910323 : Int64))) + ((((((a0 - ((((a0).toUInt64 >>> (((1 : Int32)).toInt64.toUInt64 &&& Int64.toUInt64 63)).toInt64) &&& (6148914691236517205 : Int64))) &&& (3689348814741910323 : Int64)) + (((((a0 - ((((a0).toUInt64 >>> (((1 : Int32)).toInt64.toUInt64 &&& Int64.toUInt64 63)).toInt64) &&& (6148914691236517205 : Int64)))).toUInt64 >>> (((2 : Int32)).toInt64.toUInt64 &&& Int64.toUInt64 63)).toInt64) &&& (3689348814741910323 : Int64)))).toUInt64 >>> (((4 : Int32)).toInt64.toUInt64 &&& Int64.toUInt64 63)).toInt64)) &&& (1085102592571150095 : Int64))).toUInt64 >>> (((8 : Int32)).toInt64.toUInt64 &&& Int64.toUInt64 63)).toInt64)) + (((((((((a0 - ((((a0).toUInt64 >>> (((1 : Int32)).toInt64.toUInt64 &&& Int64.toUInt64 63)).toInt64) &&& (6148914691236517205 : Int64))) &&& (3689348814741910323 : Int64)) + (((((a0 - ((((a0).toUInt64 >>> (((1 : Int32)).toInt64.toUInt64 &&& Int64.toUInt64 63)).toInt64) &&& (6148914691236517205 : Int64)))).toUInt64 >>> (((2 : Int32)).toInt64.toUInt64 &&& Int64.toUInt64 63)).toInt64) &&& (3689348814741910323 : Int64))) + ((((((a0 - ((((a0).toUInt64 >>> (((1 : Int32)).toInt64.toUInt64 &&& Int64.toUInt64 63)).toInt64) &&& (6148914691236517205 : Int64))) &&& (3689348814741910323 : Int64)) + (((((a0 - ((((a0).toUInt64 >>> (((1 : Int32)).toInt64.toUInt64 &&& Int64.toUInt64 63)).toInt64) &&& (6148914691236517205 : Int64)))).toUInt64 >>> (((2 : Int32)).toInt64.toUInt64 &&& Int64.toUInt64 63)).toInt64) &&& (3689348814741910323 : Int64)))).toUInt64 >>> (((4 : Int32)).toInt64.toUInt64 &&& Int64.toUInt64 63)).toInt64)) &&& (1085102592571150095 : Int64)) + ((((((((a0 - ((((a0).toUInt64 >>> (((1 : Int32)).toInt64.toUInt64 &&& Int64.toUInt64 63)).toInt64) &&& (6148914691236517205 : Int64))) &&& (3689348814741910323 : Int64)) + (((((a0 - ((((a0).toUInt64 >>> (((1 : Int32)).toInt64.toUInt64 &&& Int64.toUInt64 63)).toInt64) &&& (6148914691236517205 : Int64)))).toUInt64 >>> (((2 : Int32)).toInt64.toUInt64 &&& Int64.toUInt64 63)).toInt64) &&& (3689348814741910323 : Int64))) + ((((((a0 - ((((a0).toUInt64 >>> (((1 : Int32)).toInt64.toUInt64 &&& Int64.toUInt64 63)).toInt64) &&& (6148914691236517205 : Int64))) &&& (3689348814741910323 : Int64)) + (((((a0 - ((((a0).toUInt64 >>> (((1 : Int32)).toInt64.toUInt64 &&& Int64.toUInt64 63)).toInt64) &&& (6148914691236517205 : Int64)))).toUInt64 >>> (((2 : Int32)).toInt64.toUInt64 &&& Int64.toUInt64 63)).toInt64) &&& (3689348814741910323 : Int64)))).toUInt64 >>> (((4 : Int32)).toInt64.toUInt64 &&& Int64.toUInt64 63)).toInt64)) &&& (1085102592571150095 : Int64))).toUInt64 >>> (((8 : Int32)).toInt64.toUInt64 &&& Int64.toUInt64 63)).toInt64))).toUInt64 >>> (((16 : Int32)).toInt64.toUInt64 &&& Int64.toUInt64 63)).toInt64))).toUInt64 >>> (((32 : Int32)).toInt64.toUInt64 &&& Int64.toUInt64 63)).toInt64))).toInt32) &&& (127 : Int32)), h)
set_option maxHeartbeats 4000000 in
set_option maxRecDepth 100000 in
theorem ch_Long_bitCount (l : Launch) {dA : FieldType → ClassId} {D : va_G} {al : Nat → Nat} {ext : mv_Sh} {sk sv : Nat → Nat} (hi : mv_inj (mg dA D al ext)) (h : mv_H)  (a0 : Int64) {rv : Int32} {rg : mv_H} (hf : f_Long_bitCount h a0 = some (rv, rg)) : mv_C l y_Long_bitCount (Cond.code y_Long_bitCount b_Long_bitCount 2 (Option.some Jvm.ClassFile.FieldType.int) :: ma) ({ frames := 0, cells := 0, slots := 0, locals := 0 }) (mg dA D al ext) (mK sk sv) [.long a0] h (mv_Ri (fun v σ1 => rv = v ∧ rg = σ1 ∧ mv_r σ1 = mv_r h)) := by
  refine mv_C.ofV (cc := b_Long_bitCount) (nL := 2) (ret := (Option.some Jvm.ClassFile.FieldType.int)) (by decide +kernel) rfl hi (Nat.le_of_ble_eq_true rfl) ?_
  intro p e s m below meth c B hNs hr hnm hno
  unfold f_Long_bitCount at hf
  refine mv_lload_n (pc := 0) B d_Long_bitCount_0 rfl 0 rfl ?_
  refine mv_lload_n (pc := 1) B d_Long_bitCount_1 rfl 0 rfl ?_
  refine mv_iconst (pc := 2) (v := 1) B d_Long_bitCount_2 (by decide) ?_
  refine mv_lushr (pc := 3) B d_Long_bitCount_3 ?_
  refine mv_ldc2 (pc := 4) (v := 6148914691236517205) B (B.2.2.2.1 _ k_426) d_Long_bitCount_4 ?_
  refine mv_land (pc := 7) B d_Long_bitCount_7 ?_
  refine mv_lsub (pc := 8) B d_Long_bitCount_8 ?_
  refine mv_lstore_n (pc := 9) B d_Long_bitCount_9 rfl (by decide) rfl ?_
  refine mv_lload_n (pc := 10) B d_Long_bitCount_10 rfl 0 rfl ?_
  refine mv_ldc2 (pc := 11) (v := 3689348814741910323) B (B.2.2.2.1 _ k_427) d_Long_bitCount_11 ?_
  refine mv_land (pc := 14) B d_Long_bitCount_14 ?_
  refine mv_lload_n (pc := 15) B d_Long_bitCount_15 rfl 0 rfl ?_
  refine mv_iconst (pc := 16) (v := 2) B d_Long_bitCount_16 (by decide) ?_
  refine mv_lushr (pc := 17) B d_Long_bitCount_17 ?_
  refine mv_ldc2 (pc := 18) (v := 3689348814741910323) B (B.2.2.2.1 _ k_427) d_Long_bitCount_18 ?_
  refine mv_land (pc := 21) B d_Long_bitCount_21 ?_
  refine mv_ladd (pc := 22) B d_Long_bitCount_22 ?_
  refine mv_lstore_n (pc := 23) B d_Long_bitCount_23 rfl (by decide) rfl ?_
  refine mv_lload_n (pc := 24) B d_Long_bitCount_24 rfl 0 rfl ?_
  refine mv_lload_n (pc := 25) B d_Long_bitCount_25 rfl 0 rfl ?_
  refine mv_iconst (pc := 26) (v := 4) B d_Long_bitCount_26 (by decide) ?_
  refine mv_lushr (pc := 27) B d_Long_bitCount_27 ?_
  refine mv_ladd (pc := 28) B d_Long_bitCount_28 ?_
  refine mv_ldc2 (pc := 29) (v := 1085102592571150095) B (B.2.2.2.1 _ k_428) d_Long_bitCount_29 ?_
  refine mv_land (pc := 32) B d_Long_bitCount_32 ?_
  refine mv_lstore_n (pc := 33) B d_Long_bitCount_33 rfl (by decide) rfl ?_
  refine mv_lload_n (pc := 34) B d_Long_bitCount_34 rfl 0 rfl ?_
  refine mv_lload_n (pc := 35) B d_Long_bitCount_35 rfl 0 rfl ?_
  refine mv_bipush (pc := 36) (v := 8) B d_Long_bitCount_36 (by decide) ?_
  refine mv_lushr (pc := 38) B d_Long_bitCount_38 ?_
  refine mv_ladd (pc := 39) B d_Long_bitCount_39 ?_
  refine mv_lstore_n (pc := 40) B d_Long_bitCount_40 rfl (by decide) rfl ?_
  refine mv_lload_n (pc := 41) B d_Long_bitCount_41 rfl 0 rfl ?_
  refine mv_lload_n (pc := 42) B d_Long_bitCount_42 rfl 0 rfl ?_
  refine mv_bipush (pc := 43) (v := 16) B d_Long_bitCount_43 (by decide) ?_
  refine mv_lushr (pc := 45) B d_Long_bitCount_45 ?_
  refine mv_ladd (pc := 46) B d_Long_bitCount_46 ?_
  refine mv_lstore_n (pc := 47) B d_Long_bitCount_47 rfl (by decide) rfl ?_
  refine mv_lload_n (pc := 48) B d_Long_bitCount_48 rfl 0 rfl ?_
  refine mv_lload_n (pc := 49) B d_Long_bitCount_49 rfl 0 rfl ?_
  refine mv_bipush (pc := 50) (v := 32) B d_Long_bitCount_50 (by decide) ?_
  refine mv_lushr (pc := 52) B d_Long_bitCount_52 ?_
  refine mv_ladd (pc := 53) B d_Long_bitCount_53 ?_
  refine mv_lstore_n (pc := 54) B d_Long_bitCount_54 rfl (by decide) rfl ?_
  refine mv_lload_n (pc := 55) B d_Long_bitCount_55 rfl 0 rfl ?_
  refine mv_l2i (pc := 56) B d_Long_bitCount_56 ?_
  refine mv_bipush (pc := 57) (v := 127) B d_Long_bitCount_57 (by decide) ?_
  refine mv_iand (pc := 59) B d_Long_bitCount_59 ?_
  exact mv_iret (pc := 60) B hr rfl d_Long_bitCount_60 (Nat.le_refl _) (Nat.le_refl _) ⟨_, rfl, xrh_i hf rfl⟩
def f_Faults_clear (h : mv_H) : Option mv_H := xk (mv_si h 21 0 (0 : Int32)) fun g1 => xk (mv_si g1 21 1 (-1 : Int32)) fun g2 => some g2
set_option maxHeartbeats 4000000 in
set_option maxRecDepth 100000 in
theorem ch_Faults_clear (l : Launch) {dA : FieldType → ClassId} {D : va_G} {al : Nat → Nat} {ext : mv_Sh} {sk sv : Nat → Nat} (hi : mv_inj (mg dA D al ext)) (h : mv_H)  {rg : mv_H} (hf : f_Faults_clear h = some rg) : mv_C l y_Faults_clear (Cond.code y_Faults_clear b_Faults_clear 1 (Option.none : Option Jvm.ClassFile.FieldType) :: ma) ({ frames := 0, cells := 0, slots := 0, locals := 0 }) (mg dA D al ext) (mK sk sv) [.ref (al 21)] h (mv_Rv (fun σ1 => rg = σ1 ∧ mv_r σ1 = mv_r h)) := by
  refine mv_C.ofV (cc := b_Faults_clear) (nL := 1) (ret := (Option.none : Option Jvm.ClassFile.FieldType)) (by decide +kernel) rfl hi (Nat.le_of_ble_eq_true rfl) ?_
  intro p e s m below meth c B hNs hr hnm hno
  unfold f_Faults_clear at hf
  refine mv_aload_n (pc := 0) B d_Faults_clear_0 rfl 0 rfl ?_
  refine mv_iconst (pc := 1) (v := 0) B d_Faults_clear_1 (by decide) ?_
  refine mv_putI (pc := 2) (ci := 5) (C := R_Faults) (T := F_Faults) (N := 2) B 0 rfl rfl (by decide) i_Faults t_Faults_ok n_Faults (B.2.2.2.1 _ k_177) rfl rfl rfl rfl d_Faults_clear_2 ?_
  refine mvh_hp (R9 := mv_r h) hf rfl (fun g1 hf r_g1 => ?_)
  refine mv_aload_n (pc := 5) B d_Faults_clear_5 rfl 0 rfl ?_
  refine mv_iconst (pc := 6) (v := -1) B d_Faults_clear_6 (by decide) ?_
  refine mv_putI (pc := 7) (ci := 5) (C := R_Faults) (T := F_Faults) (N := 2) B 1 rfl rfl (by decide) i_Faults t_Faults_ok n_Faults (B.2.2.2.1 _ k_180) rfl rfl rfl rfl d_Faults_clear_7 ?_
  refine mvh_hp (R9 := mv_r h) hf r_g1 (fun g2 hf r_g2 => ?_)
  exact mv_vret (pc := 10) B hr d_Faults_clear_10 (Nat.le_refl _) (Nat.le_refl _) ⟨rfl, xrh_v hf r_g2⟩
def f_Faults_tell_31 (x1 : Int32) (x2 : Int32) (hz : mv_H) : Option mv_H := xk (mv_si hz 21 0 x2) fun g1 => xk (mv_si g1 21 1 x1) fun g2 => some g2
def f_Faults_tell (h : mv_H) (a0 : Int32) (a1 : Int32) : Option mv_H := if (mv_i h 21 0) = (0 : Int32) then (f_Faults_tell_31 a0 a1 h) else (if a0 < (mv_i h 21 1) then (f_Faults_tell_31 a0 a1 h) else (if a0 = (mv_i h 21 1) then (if (mv_i h 21 0) ≤ a1 then (some h) else (f_Faults_tell_31 a0 a1 h)) else (some h)))
set_option maxHeartbeats 4000000 in
set_option maxRecDepth 100000 in
theorem ch_Faults_tell (l : Launch) {dA : FieldType → ClassId} {D : va_G} {al : Nat → Nat} {ext : mv_Sh} {sk sv : Nat → Nat} (hi : mv_inj (mg dA D al ext)) (h : mv_H)  (a0 : Int32) (a1 : Int32) {rg : mv_H} (hf : f_Faults_tell h a0 a1 = some rg) : mv_C l y_Faults_tell (Cond.code y_Faults_tell b_Faults_tell 3 (Option.none : Option Jvm.ClassFile.FieldType) :: ma) ({ frames := 0, cells := 0, slots := 0, locals := 0 }) (mg dA D al ext) (mK sk sv) [.ref (al 21), .int a0, .int a1] h (mv_Rv (fun σ1 => rg = σ1 ∧ mv_r σ1 = mv_r h)) := by
  refine mv_C.ofV (cc := b_Faults_tell) (nL := 3) (ret := (Option.none : Option Jvm.ClassFile.FieldType)) (by decide +kernel) rfl hi (Nat.le_of_ble_eq_true rfl) ?_
  intro p e s m below meth c B hNs hr hnm hno
  have jn31 : ∀ (x1 : Int32) (x2 : Int32) (hz : mv_H), mv_r hz = mv_r h → f_Faults_tell_31 x1 x2 hz = some rg → mv_V p l e ({ frames := 0, cells := 0, slots := 0, locals := 0 }) s m ([.ref (al 21), .int a0, .int a1] : List Value).toArray below meth c (mg dA D al ext) 3 0 0 (mv_Q (mg dA D al ext) below s 0 0 (mv_Rv (fun σ1 => rg = σ1 ∧ mv_r σ1 = mv_r h))) hz 31 [(0, .ref (al 21)), (1, .int x1), (2, .int x2)] [] := by
    intro x1 x2 hz r_hz hf
    unfold f_Faults_tell_31 at hf
    refine mv_aload_n (pc := 31) B d_Faults_tell_31 rfl 0 rfl ?_
    refine mv_iload_n (pc := 32) B d_Faults_tell_32 rfl 2 rfl ?_
    refine mv_putI (pc := 33) (ci := 5) (C := R_Faults) (T := F_Faults) (N := 2) B 0 rfl rfl (by decide) i_Faults t_Faults_ok n_Faults (B.2.2.2.1 _ k_177) rfl rfl rfl rfl d_Faults_tell_33 ?_
    refine mvh_hp (R9 := mv_r h) hf r_hz (fun g1 hf r_g1 => ?_)
    refine mv_aload_n (pc := 36) B d_Faults_tell_36 rfl 0 rfl ?_
    refine mv_iload_n (pc := 37) B d_Faults_tell_37 rfl 1 rfl ?_
    refine mv_putI (pc := 38) (ci := 5) (C := R_Faults) (T := F_Faults) (N := 2) B 1 rfl rfl (by decide) i_Faults t_Faults_ok n_Faults (B.2.2.2.1 _ k_180) rfl rfl rfl rfl d_Faults_tell_38 ?_
    refine mvh_hp (R9 := mv_r h) hf r_g1 (fun g2 hf r_g2 => ?_)
    exact mv_vret (pc := 41) B hr d_Faults_tell_41 (Nat.le_refl _) (Nat.le_refl _) ⟨rfl, xrh_v hf r_g2⟩
  unfold f_Faults_tell at hf
  refine mv_aload_n (pc := 0) B d_Faults_tell_0 rfl 0 rfl ?_
  refine mv_getI (pc := 1) (ci := 5) (C := R_Faults) (T := F_Faults) (N := 2) B 0 rfl rfl (by decide) i_Faults (B.2.2.2.1 _ k_177) rfl d_Faults_tell_1 ?_
  refine mv_if_eq (pc := 4) (tgt := 31) B d_Faults_tell_4 rfl (fun h4 => ?_) (fun h4 => ?_)
  · skip
    have hf := xif_t h4 hf
    refine mv_lpick [0, 1, 2] rfl ?_
    exact jn31 _ _ _ rfl hf
  · skip
    have hf := xif_f h4 hf
    refine mv_iload_n (pc := 7) B d_Faults_tell_7 rfl 1 rfl ?_
    refine mv_aload_n (pc := 8) B d_Faults_tell_8 rfl 0 rfl ?_
    refine mv_getI (pc := 9) (ci := 5) (C := R_Faults) (T := F_Faults) (N := 2) B 1 rfl rfl (by decide) i_Faults (B.2.2.2.1 _ k_180) rfl d_Faults_tell_9 ?_
    refine mv_icmp_lt (pc := 12) (tgt := 31) B d_Faults_tell_12 rfl (fun h12 => ?_) (fun h12 => ?_)
    · skip
      have hf := xif_t h12 hf
      refine mv_lpick [0, 1, 2] rfl ?_
      exact jn31 _ _ _ rfl hf
    · skip
      have hf := xif_f h12 hf
      refine mv_iload_n (pc := 15) B d_Faults_tell_15 rfl 1 rfl ?_
      refine mv_aload_n (pc := 16) B d_Faults_tell_16 rfl 0 rfl ?_
      refine mv_getI (pc := 17) (ci := 5) (C := R_Faults) (T := F_Faults) (N := 2) B 1 rfl rfl (by decide) i_Faults (B.2.2.2.1 _ k_180) rfl d_Faults_tell_17 ?_
      refine mv_icmp_ne (pc := 20) (tgt := 41) B d_Faults_tell_20 rfl (fun h20 => ?_) (fun h20 => ?_)
      · skip
        have hf := xif_f h20 hf
        exact mv_vret (pc := 41) B hr d_Faults_tell_41 (Nat.le_refl _) (Nat.le_refl _) ⟨rfl, xrh_v hf rfl⟩
      · skip
        have hf := xif_t h20 hf
        refine mv_iload_n (pc := 23) B d_Faults_tell_23 rfl 2 rfl ?_
        refine mv_aload_n (pc := 24) B d_Faults_tell_24 rfl 0 rfl ?_
        refine mv_getI (pc := 25) (ci := 5) (C := R_Faults) (T := F_Faults) (N := 2) B 0 rfl rfl (by decide) i_Faults (B.2.2.2.1 _ k_177) rfl d_Faults_tell_25 ?_
        refine mv_icmp_ge (pc := 28) (tgt := 41) B d_Faults_tell_28 rfl (fun h28 => ?_) (fun h28 => ?_)
        · skip
          have hf := xif_t h28 hf
          exact mv_vret (pc := 41) B hr d_Faults_tell_41 (Nat.le_refl _) (Nat.le_refl _) ⟨rfl, xrh_v hf rfl⟩
        · skip
          have hf := xif_f h28 hf
          refine mv_lpick [0, 1, 2] rfl ?_
          exact jn31 _ _ _ rfl hf
def f_Names_know (h : mv_H) (a0 : Int32) (a1 : Int32) (a2 : Int32) : Option mv_H := bif xvi a0 16448 then xk (mv_sa h 14 (a0).toNatClampNeg a1) fun g2 => bif xvi a0 16448 then xk (mv_sa g2 15 (a0).toNatClampNeg a2) fun g4 => some g4 else none else none
set_option maxHeartbeats 4000000 in
set_option maxRecDepth 100000 in
theorem ch_Names_know (l : Launch) {dA : FieldType → ClassId} {D : va_G} {al : Nat → Nat} {ext : mv_Sh} {sk sv : Nat → Nat} (hi : mv_inj (mg dA D al ext)) (h : mv_H) (hb : xRT (mv_r h))  (a0 : Int32) (a1 : Int32) (a2 : Int32) {rg : mv_H} (hf : f_Names_know h a0 a1 a2 = some rg) : mv_C l y_Names_know (Cond.code y_Names_know b_Names_know 4 (Option.none : Option Jvm.ClassFile.FieldType) :: ma) ({ frames := 0, cells := 0, slots := 0, locals := 0 }) (mg dA D al ext) (mK sk sv) [.ref (al 13), .int a0, .int a1, .int a2] h (mv_Rv (fun σ1 => rg = σ1 ∧ mv_r σ1 = mv_r h)) := by
  refine mv_C.ofV (cc := b_Names_know) (nL := 4) (ret := (Option.none : Option Jvm.ClassFile.FieldType)) (by decide +kernel) rfl hi (Nat.le_of_ble_eq_true rfl) ?_
  intro p e s m below meth c B hNs hr hnm hno
  unfold f_Names_know at hf
  refine mv_aload_n (pc := 0) B d_Names_know_0 rfl 0 rfl ?_
  refine mv_getR (pc := 1) (ci := 4) (C := R_Names) (T := F_Names) (N := 10) B 1 rfl rfl (by decide) i_Names (B.2.2.2.1 _ k_135) rfl (hb.1 13 1 _ rfl) d_Names_know_1 ?_
  refine mv_iload_n (pc := 4) B d_Names_know_4 rfl 1 rfl ?_
  refine mv_iload_n (pc := 5) B d_Names_know_5 rfl 2 rfl ?_
  obtain ⟨q1, hf⟩ := xvi_e hf
  refine mv_iast (pc := 6) B rfl q1 d_Names_know_6 ?_
  refine mvh_hp (R9 := mv_r h) hf rfl (fun g2 hf r_g2 => ?_)
  refine mv_aload_n (pc := 7) B d_Names_know_7 rfl 0 rfl ?_
  refine mv_getR (pc := 8) (ci := 4) (C := R_Names) (T := F_Names) (N := 10) B 2 rfl rfl (by decide) i_Names (B.2.2.2.1 _ k_136) rfl ((congrFun (congrFun r_g2 13) 2).trans (hb.1 13 2 _ rfl)) d_Names_know_8 ?_
  refine mv_iload_n (pc := 11) B d_Names_know_11 rfl 1 rfl ?_
  refine mv_iload_n (pc := 12) B d_Names_know_12 rfl 3 rfl ?_
  obtain ⟨q3, hf⟩ := xvi_e hf
  refine mv_iast (pc := 13) B rfl q3 d_Names_know_13 ?_
  refine mvh_hp (R9 := mv_r h) hf r_g2 (fun g4 hf r_g4 => ?_)
  exact mv_vret (pc := 14) B hr d_Names_know_14 (Nat.le_refl _) (Nat.le_refl _) ⟨rfl, xrh_v hf r_g4⟩
def f_Names_kindOf (h : mv_H) (a0 : Int32) : Option (Int32 × mv_H) := xhb (f_Symbols_letter h a0) fun v2 g1 => bif xvi v2 128 then if (mv_a g1 17 (v2).toNatClampNeg) ≤ (0 : Int32) then (bif xvi a0 16448 then some ((mv_a g1 14 (a0).toNatClampNeg), g1) else none) else (some ((4 : Int32), g1)) else none
set_option maxHeartbeats 4000000 in
set_option maxRecDepth 100000 in
theorem ch_Names_kindOf (l : Launch) {dA : FieldType → ClassId} {D : va_G} {al : Nat → Nat} {ext : mv_Sh} {sk sv : Nat → Nat} (hi : mv_inj (mg dA D al ext)) (h : mv_H) (hb : xRT (mv_r h))  (a0 : Int32) {rv : Int32} {rg : mv_H} (hf : f_Names_kindOf h a0 = some (rv, rg)) : mv_C l y_Names_kindOf (Cond.code y_Names_kindOf b_Names_kindOf 2 (Option.some Jvm.ClassFile.FieldType.int) :: ma) ({ frames := 1, cells := 0, slots := 0, locals := 22 }) (mg dA D al ext) (mK sk sv) [.ref (al 13), .int a0] h (mv_Ri (fun v σ1 => rv = v ∧ rg = σ1 ∧ mv_r σ1 = mv_r h)) := by
  refine mv_C.ofV (cc := b_Names_kindOf) (nL := 2) (ret := (Option.some Jvm.ClassFile.FieldType.int)) (by decide +kernel) rfl hi (Nat.le_of_ble_eq_true rfl) ?_
  intro p e s m below meth c B hNs hr hnm hno
  unfold f_Names_kindOf at hf
  refine mv_aload_n (pc := 0) B d_Names_kindOf_0 rfl 0 rfl ?_
  refine mv_getR (pc := 1) (ci := 4) (C := R_Names) (T := F_Names) (N := 10) B 4 rfl rfl (by decide) i_Names (B.2.2.2.1 _ k_141) rfl (hb.1 13 4 _ rfl) d_Names_kindOf_1 ?_
  refine mv_aload_n (pc := 4) B d_Names_kindOf_4 rfl 0 rfl ?_
  refine mv_getR (pc := 5) (ci := 4) (C := R_Names) (T := F_Names) (N := 10) B 0 rfl rfl (by decide) i_Names (B.2.2.2.1 _ k_134) rfl (hb.1 13 0 _ rfl) d_Names_kindOf_5 ?_
  refine mv_iload_n (pc := 8) B d_Names_kindOf_8 rfl 1 rfl ?_
  obtain ⟨v2, g1, eg1, hf⟩ := xhb_e hf
  refine mv_callVi (pc := 9) (n := 1) (ci := 3) (C := R_Symbols) B (mK_ok sk sv) hNs rfl rfl (ch_Symbols_letter l hi _ (hb) _ eg1) rfl (ma_goodc kc_Symbols_letter) (B.2.2.2.1 _ k_1320) (B.2.2.2.1 _ k_1321) (B.2.2.2.1 _ k_1322) (B.2.2.2.1 _ k_4) ⟨by decide +kernel, by decide +kernel, by decide +kernel⟩ rfl d_Names_kindOf_9 rfl (Nat.le_of_ble_eq_true rfl) ⟨by decide, by decide⟩ ⟨by decide, by decide⟩ ⟨by decide, by decide⟩ (mv_noH hno _) (fun w9 σ9 h9 => ?_)
  obtain ⟨rfl, rfl, s_g1⟩ := h9
  have r_g1 : mv_r g1 = mv_r h := s_g1.trans rfl
  obtain ⟨q3, hf⟩ := xvi_e hf
  refine mv_iald (pc := 12) B rfl q3 d_Names_kindOf_12 ?_
  refine mv_if_le (pc := 13) (tgt := 20) B d_Names_kindOf_13 rfl (fun h13 => ?_) (fun h13 => ?_)
  · skip
    have hf := xif_t h13 hf
    refine mv_aload_n (pc := 20) B d_Names_kindOf_20 rfl 0 rfl ?_
    refine mv_getR (pc := 21) (ci := 4) (C := R_Names) (T := F_Names) (N := 10) B 1 rfl rfl (by decide) i_Names (B.2.2.2.1 _ k_135) rfl ((congrFun (congrFun r_g1 13) 1).trans (hb.1 13 1 _ rfl)) d_Names_kindOf_21 ?_
    refine mv_iload_n (pc := 24) B d_Names_kindOf_24 rfl 1 rfl ?_
    obtain ⟨q4, hf⟩ := xvi_e hf
    refine mv_iald (pc := 25) B rfl q4 d_Names_kindOf_25 ?_
    exact mv_iret (pc := 26) B hr rfl d_Names_kindOf_26 (Nat.le_refl _) (Nat.le_refl _) ⟨_, rfl, xrh_i hf r_g1⟩
  · skip
    have hf := xif_f h13 hf
    refine mv_iconst (pc := 16) (v := 4) B d_Names_kindOf_16 (by decide) ?_
    refine mv_goto (pc := 17) (tgt := 26) B d_Names_kindOf_17 rfl ?_
    exact mv_iret (pc := 26) B hr rfl d_Names_kindOf_26 (Nat.le_refl _) (Nat.le_refl _) ⟨_, rfl, xrh_i hf r_g1⟩
def f_Names_maskOf (h : mv_H) (a0 : Int32) : Option (Int64 × mv_H) := xhb (f_Symbols_letter h a0) fun v2 g1 => bif xvi v2 128 then some ((mv_b g1 18 (v2).toNatClampNeg), g1) else none
set_option maxHeartbeats 4000000 in
set_option maxRecDepth 100000 in
theorem ch_Names_maskOf (l : Launch) {dA : FieldType → ClassId} {D : va_G} {al : Nat → Nat} {ext : mv_Sh} {sk sv : Nat → Nat} (hi : mv_inj (mg dA D al ext)) (h : mv_H) (hb : xRT (mv_r h))  (a0 : Int32) {rv : Int64} {rg : mv_H} (hf : f_Names_maskOf h a0 = some (rv, rg)) : mv_C l y_Names_maskOf (Cond.code y_Names_maskOf b_Names_maskOf 2 (Option.some Jvm.ClassFile.FieldType.long) :: ma) ({ frames := 1, cells := 0, slots := 0, locals := 22 }) (mg dA D al ext) (mK sk sv) [.ref (al 13), .int a0] h (mv_Rl (fun v σ1 => rv = v ∧ rg = σ1 ∧ mv_r σ1 = mv_r h)) := by
  refine mv_C.ofV (cc := b_Names_maskOf) (nL := 2) (ret := (Option.some Jvm.ClassFile.FieldType.long)) (by decide +kernel) rfl hi (Nat.le_of_ble_eq_true rfl) ?_
  intro p e s m below meth c B hNs hr hnm hno
  unfold f_Names_maskOf at hf
  refine mv_aload_n (pc := 0) B d_Names_maskOf_0 rfl 0 rfl ?_
  refine mv_getR (pc := 1) (ci := 4) (C := R_Names) (T := F_Names) (N := 10) B 5 rfl rfl (by decide) i_Names (B.2.2.2.1 _ k_142) rfl (hb.1 13 5 _ rfl) d_Names_maskOf_1 ?_
  refine mv_aload_n (pc := 4) B d_Names_maskOf_4 rfl 0 rfl ?_
  refine mv_getR (pc := 5) (ci := 4) (C := R_Names) (T := F_Names) (N := 10) B 0 rfl rfl (by decide) i_Names (B.2.2.2.1 _ k_134) rfl (hb.1 13 0 _ rfl) d_Names_maskOf_5 ?_
  refine mv_iload_n (pc := 8) B d_Names_maskOf_8 rfl 1 rfl ?_
  obtain ⟨v2, g1, eg1, hf⟩ := xhb_e hf
  refine mv_callVi (pc := 9) (n := 1) (ci := 3) (C := R_Symbols) B (mK_ok sk sv) hNs rfl rfl (ch_Symbols_letter l hi _ (hb) _ eg1) rfl (ma_goodc kc_Symbols_letter) (B.2.2.2.1 _ k_1320) (B.2.2.2.1 _ k_1321) (B.2.2.2.1 _ k_1322) (B.2.2.2.1 _ k_4) ⟨by decide +kernel, by decide +kernel, by decide +kernel⟩ rfl d_Names_maskOf_9 rfl (Nat.le_of_ble_eq_true rfl) ⟨by decide, by decide⟩ ⟨by decide, by decide⟩ ⟨by decide, by decide⟩ (mv_noH hno _) (fun w9 σ9 h9 => ?_)
  obtain ⟨rfl, rfl, s_g1⟩ := h9
  have r_g1 : mv_r g1 = mv_r h := s_g1.trans rfl
  obtain ⟨q3, hf⟩ := xvi_e hf
  refine mv_lald (pc := 12) B rfl q3 d_Names_maskOf_12 ?_
  exact mv_lret (pc := 13) B hr d_Names_maskOf_13 (Nat.le_refl _) (Nat.le_refl _) ⟨_, rfl, xrh_l hf r_g1⟩
def fF_Names_forget_2 (k2 : Int32 → Int32 → mv_H → Option mv_H) (x1 : Int32) (x2 : Int32) (hz : mv_H) : Option mv_H := if (mv_i hz 13 7) ≤ x2 then (xk (mv_si hz 13 7 x1) fun g1 => some g1) else (bif xvi x2 64 then bif xvi (mv_a hz 19 (x2).toNatClampNeg) 16448 then xk (mv_sa hz 14 ((mv_a hz 19 (x2).toNatClampNeg)).toNatClampNeg (0 : Int32)) fun g4 => k2 x1 (x2 + 1) g4 else none else none)
def f_Names_forget_2 : Nat → Int32 → Int32 → mv_H → Option mv_H
  | 0 => fun _ _ _ => none
  | nn + 1 => fF_Names_forget_2 (f_Names_forget_2 nn)
def f_Names_forget (h : mv_H) (a0 : Int32) : Option mv_H := f_Names_forget_2 200000 a0 a0 h
set_option maxHeartbeats 4000000 in
set_option maxRecDepth 100000 in
theorem ch_Names_forget (l : Launch) {dA : FieldType → ClassId} {D : va_G} {al : Nat → Nat} {ext : mv_Sh} {sk sv : Nat → Nat} (hi : mv_inj (mg dA D al ext)) (h : mv_H) (hb : xRT (mv_r h))  (a0 : Int32) {rg : mv_H} (hf : f_Names_forget h a0 = some rg) : mv_C l y_Names_forget (Cond.code y_Names_forget b_Names_forget 3 (Option.none : Option Jvm.ClassFile.FieldType) :: ma) ({ frames := 0, cells := 0, slots := 0, locals := 0 }) (mg dA D al ext) (mK sk sv) [.ref (al 13), .int a0] h (mv_Rv (fun σ1 => rg = σ1 ∧ mv_r σ1 = mv_r h)) := by
  refine mv_C.ofV (cc := b_Names_forget) (nL := 3) (ret := (Option.none : Option Jvm.ClassFile.FieldType)) (by decide +kernel) rfl hi (Nat.le_of_ble_eq_true rfl) ?_
  intro p e s m below meth c B hNs hr hnm hno
  have lp2 : ∀ (nn2 : Nat) (x1 : Int32) (x2 : Int32) (hz : mv_H), mv_r hz = mv_r h → f_Names_forget_2 nn2 x1 x2 hz = some rg → mv_V p l e ({ frames := 0, cells := 0, slots := 0, locals := 0 }) s m ([.ref (al 13), .int a0] : List Value).toArray below meth c (mg dA D al ext) 3 0 0 (mv_Q (mg dA D al ext) below s 0 0 (mv_Rv (fun σ1 => rg = σ1 ∧ mv_r σ1 = mv_r h))) hz 2 [(0, .ref (al 13)), (1, .int x1), (2, .int x2)] [] := by
    intro nn2
    induction nn2 with
    | zero => intro x1 x2 hz r_hz hf; cases hf
    | succ nn2 ih2 =>
      intro x1 x2 hz r_hz hf
      have hf : fF_Names_forget_2 (f_Names_forget_2 nn2) x1 x2 hz = some rg := hf
      unfold fF_Names_forget_2 at hf
      refine mv_iload_n (pc := 2) B d_Names_forget_2 rfl 2 rfl ?_
      refine mv_aload_n (pc := 3) B d_Names_forget_3 rfl 0 rfl ?_
      refine mv_getI (pc := 4) (ci := 4) (C := R_Names) (T := F_Names) (N := 10) B 7 rfl rfl (by decide) i_Names (B.2.2.2.1 _ k_144) rfl d_Names_forget_4 ?_
      refine mv_icmp_ge (pc := 7) (tgt := 28) B d_Names_forget_7 rfl (fun h7 => ?_) (fun h7 => ?_)
      · skip
        have hf := xif_t h7 hf
        refine mv_aload_n (pc := 28) B d_Names_forget_28 rfl 0 rfl ?_
        refine mv_iload_n (pc := 29) B d_Names_forget_29 rfl 1 rfl ?_
        refine mv_putI (pc := 30) (ci := 4) (C := R_Names) (T := F_Names) (N := 10) B 7 rfl rfl (by decide) i_Names t_Names_ok n_Names (B.2.2.2.1 _ k_144) rfl rfl rfl rfl d_Names_forget_30 ?_
        refine mvh_hp (R9 := mv_r h) hf r_hz (fun g1 hf r_g1 => ?_)
        exact mv_vret (pc := 33) B hr d_Names_forget_33 (Nat.le_refl _) (Nat.le_refl _) ⟨rfl, xrh_v hf r_g1⟩
      · skip
        have hf := xif_f h7 hf
        refine mv_aload_n (pc := 10) B d_Names_forget_10 rfl 0 rfl ?_
        refine mv_getR (pc := 11) (ci := 4) (C := R_Names) (T := F_Names) (N := 10) B 1 rfl rfl (by decide) i_Names (B.2.2.2.1 _ k_135) rfl ((congrFun (congrFun r_hz 13) 1).trans (hb.1 13 1 _ rfl)) d_Names_forget_11 ?_
        refine mv_aload_n (pc := 14) B d_Names_forget_14 rfl 0 rfl ?_
        refine mv_getR (pc := 15) (ci := 4) (C := R_Names) (T := F_Names) (N := 10) B 6 rfl rfl (by decide) i_Names (B.2.2.2.1 _ k_143) rfl ((congrFun (congrFun r_hz 13) 6).trans (hb.1 13 6 _ rfl)) d_Names_forget_15 ?_
        refine mv_iload_n (pc := 18) B d_Names_forget_18 rfl 2 rfl ?_
        obtain ⟨q2, hf⟩ := xvi_e hf
        refine mv_iald (pc := 19) B rfl q2 d_Names_forget_19 ?_
        refine mv_iconst (pc := 20) (v := 0) B d_Names_forget_20 (by decide) ?_
        obtain ⟨q3, hf⟩ := xvi_e hf
        refine mv_iast (pc := 21) B rfl q3 d_Names_forget_21 ?_
        refine mvh_hp (R9 := mv_r h) hf r_hz (fun g4 hf r_g4 => ?_)
        refine mv_iinc (pc := 22) (j := 2) (v := 1) B d_Names_forget_22 rfl (by decide) (by decide) rfl ?_
        refine mv_goto (pc := 25) (tgt := 2) B d_Names_forget_25 rfl ?_
        refine mv_lpick [1, 2, 0] rfl ?_
        exact ih2 _ _ _ r_g4 hf
  unfold f_Names_forget at hf
  refine mv_iload_n (pc := 0) B d_Names_forget_0 rfl 1 rfl ?_
  refine mv_istore_n (pc := 1) B d_Names_forget_1 rfl (by decide) rfl ?_
  refine mv_lpick [1, 2, 0] rfl ?_
  exact lp2 _ _ _ _ rfl hf
def f_Names_leaveOp (h : mv_H) : Option mv_H := xk (mv_fi h 17 0 128 (0 : Int32)) fun g1 => xk (mv_fl g1 18 0 128 (0 : Int64)) fun g2 => xhv (f_Names_forget g2 (0 : Int32)) fun g3 => xk (mv_si g3 13 9 (0 : Int32)) fun g4 => some g4
set_option maxHeartbeats 4000000 in
set_option maxRecDepth 100000 in
theorem ch_Names_leaveOp (l : Launch) {dA : FieldType → ClassId} {D : va_G} {al : Nat → Nat} {ext : mv_Sh} {sk sv : Nat → Nat} (hi : mv_inj (mg dA D al ext)) (h : mv_H) (hb : xRT (mv_r h))  {rg : mv_H} (hf : f_Names_leaveOp h = some rg) : mv_C l y_Names_leaveOp (Cond.code y_Names_leaveOp b_Names_leaveOp 1 (Option.none : Option Jvm.ClassFile.FieldType) :: ma) ({ frames := 1, cells := 0, slots := 0, locals := 24 }) (mg dA D al ext) (mK sk sv) [.ref (al 13)] h (mv_Rv (fun σ1 => rg = σ1 ∧ mv_r σ1 = mv_r h)) := by
  refine mv_C.ofV (cc := b_Names_leaveOp) (nL := 1) (ret := (Option.none : Option Jvm.ClassFile.FieldType)) (by decide +kernel) rfl hi (Nat.le_of_ble_eq_true rfl) ?_
  intro p e s m below meth c B hNs hr hnm hno
  unfold f_Names_leaveOp at hf
  refine mv_aload_n (pc := 0) B d_Names_leaveOp_0 rfl 0 rfl ?_
  refine mv_getR (pc := 1) (ci := 4) (C := R_Names) (T := F_Names) (N := 10) B 4 rfl rfl (by decide) i_Names (B.2.2.2.1 _ k_141) rfl (hb.1 13 4 _ rfl) d_Names_leaveOp_1 ?_
  refine mv_iconst (pc := 4) (v := 0) B d_Names_leaveOp_4 (by decide) ?_
  refine mv_callSv (pc := 5) (n := 2) B (mK_ok sk sv) hNs (c_Arrays_fill_0 l hi _ 17 128 rfl (by decide) _) rfl (ma_goodc kc_Arrays_fill_0) (B.2.2.2.1 _ k_1254) (B.2.2.2.1 _ k_798) (B.2.2.2.1 _ k_20) ⟨by decide +kernel, by decide +kernel, by decide +kernel⟩ rfl d_Names_leaveOp_5 rfl (Nat.le_of_ble_eq_true rfl) ⟨by decide, by decide⟩ ⟨by decide, by decide⟩ ⟨by decide, by decide⟩ (mv_noH hno _) (fun σ5 h5 => ?_)
  subst h5
  refine mvh_hp (R9 := mv_r h) hf rfl (fun g1 hf r_g1 => ?_)
  refine mv_aload_n (pc := 8) B d_Names_leaveOp_8 rfl 0 rfl ?_
  refine mv_getR (pc := 9) (ci := 4) (C := R_Names) (T := F_Names) (N := 10) B 5 rfl rfl (by decide) i_Names (B.2.2.2.1 _ k_142) rfl ((congrFun (congrFun r_g1 13) 5).trans (hb.1 13 5 _ rfl)) d_Names_leaveOp_9 ?_
  refine mv_lconst (pc := 12) (v := 0) B d_Names_leaveOp_12 (by decide) ?_
  refine mv_callSv (pc := 13) (n := 2) B (mK_ok sk sv) hNs (c_Arrays_fill_3 l hi _ 18 128 rfl (by decide) _) rfl (ma_goodc kc_Arrays_fill_3) (B.2.2.2.1 _ k_1255) (B.2.2.2.1 _ k_1256) (B.2.2.2.1 _ k_20) ⟨by decide +kernel, by decide +kernel, by decide +kernel⟩ rfl d_Names_leaveOp_13 rfl (Nat.le_of_ble_eq_true rfl) ⟨by decide, by decide⟩ ⟨by decide, by decide⟩ ⟨by decide, by decide⟩ (mv_noH hno _) (fun σ13 h13 => ?_)
  subst h13
  refine mvh_hp (R9 := mv_r h) hf r_g1 (fun g2 hf r_g2 => ?_)
  refine mv_aload_n (pc := 16) B d_Names_leaveOp_16 rfl 0 rfl ?_
  refine mv_iconst (pc := 17) (v := 0) B d_Names_leaveOp_17 (by decide) ?_
  obtain ⟨g3, eg3, hf⟩ := xhv_e hf
  refine mv_callVv (pc := 18) (n := 1) (ci := 4) (C := R_Names) B (mK_ok sk sv) hNs rfl rfl (ch_Names_forget l hi _ (xrw r_g2 hb) _ eg3) rfl (ma_goodc kc_Names_forget) (B.2.2.2.1 _ k_1258) (B.2.2.2.1 _ k_1259) (B.2.2.2.1 _ k_1260) (B.2.2.2.1 _ k_5) ⟨by decide +kernel, by decide +kernel, by decide +kernel⟩ rfl d_Names_leaveOp_18 rfl (Nat.le_of_ble_eq_true rfl) ⟨by decide, by decide⟩ ⟨by decide, by decide⟩ ⟨by decide, by decide⟩ (mv_noH hno _) (fun σ18 h18 => ?_)
  obtain ⟨rfl, s_g3⟩ := h18
  have r_g3 : mv_r g3 = mv_r h := s_g3.trans r_g2
  refine mv_aload_n (pc := 21) B d_Names_leaveOp_21 rfl 0 rfl ?_
  refine mv_iconst (pc := 22) (v := 0) B d_Names_leaveOp_22 (by decide) ?_
  refine mv_putI (pc := 23) (ci := 4) (C := R_Names) (T := F_Names) (N := 10) B 9 rfl rfl (by decide) i_Names t_Names_ok n_Names (B.2.2.2.1 _ k_148) rfl rfl rfl rfl d_Names_leaveOp_23 ?_
  refine mvh_hp (R9 := mv_r h) hf r_g3 (fun g4 hf r_g4 => ?_)
  exact mv_vret (pc := 26) B hr d_Names_leaveOp_26 (Nat.le_refl _) (Nat.le_refl _) ⟨rfl, xrh_v hf r_g4⟩
def f_Names_addLet (h : mv_H) (a0 : Int32) (a1 : Int32) : Option mv_H := xhv (f_Names_know h a0 (3 : Int32) (mv_i h 13 9)) fun g1 => bif xvi (mv_i g1 13 7) 64 then xk (mv_sa g1 19 ((mv_i g1 13 7)).toNatClampNeg a0) fun g3 => xk (mv_si g3 13 7 ((mv_i g3 13 7) + (1 : Int32))) fun g4 => bif xvi (mv_i g4 13 9) 64 then xk (mv_sa g4 20 ((mv_i g4 13 9)).toNatClampNeg a1) fun g6 => xk (mv_si g6 13 9 ((mv_i g6 13 9) + (1 : Int32))) fun g7 => some g7 else none else none
set_option maxHeartbeats 4000000 in
set_option maxRecDepth 100000 in
theorem ch_Names_addLet (l : Launch) {dA : FieldType → ClassId} {D : va_G} {al : Nat → Nat} {ext : mv_Sh} {sk sv : Nat → Nat} (hi : mv_inj (mg dA D al ext)) (h : mv_H) (hb : xRT (mv_r h))  (a0 : Int32) (a1 : Int32) {rg : mv_H} (hf : f_Names_addLet h a0 a1 = some rg) : mv_C l y_Names_addLet (Cond.code y_Names_addLet b_Names_addLet 3 (Option.none : Option Jvm.ClassFile.FieldType) :: ma) ({ frames := 1, cells := 0, slots := 0, locals := 23 }) (mg dA D al ext) (mK sk sv) [.ref (al 13), .int a0, .int a1] h (mv_Rv (fun σ1 => rg = σ1 ∧ mv_r σ1 = mv_r h)) := by
  refine mv_C.ofV (cc := b_Names_addLet) (nL := 3) (ret := (Option.none : Option Jvm.ClassFile.FieldType)) (by decide +kernel) rfl hi (Nat.le_of_ble_eq_true rfl) ?_
  intro p e s m below meth c B hNs hr hnm hno
  unfold f_Names_addLet at hf
  refine mv_aload_n (pc := 0) B d_Names_addLet_0 rfl 0 rfl ?_
  refine mv_iload_n (pc := 1) B d_Names_addLet_1 rfl 1 rfl ?_
  refine mv_iconst (pc := 2) (v := 3) B d_Names_addLet_2 (by decide) ?_
  refine mv_aload_n (pc := 3) B d_Names_addLet_3 rfl 0 rfl ?_
  refine mv_getI (pc := 4) (ci := 4) (C := R_Names) (T := F_Names) (N := 10) B 9 rfl rfl (by decide) i_Names (B.2.2.2.1 _ k_148) rfl d_Names_addLet_4 ?_
  obtain ⟨g1, eg1, hf⟩ := xhv_e hf
  refine mv_callVv (pc := 7) (n := 3) (ci := 4) (C := R_Names) B (mK_ok sk sv) hNs rfl rfl (ch_Names_know l hi _ (hb) _ _ _ eg1) rfl (ma_goodc kc_Names_know) (B.2.2.2.1 _ k_1535) (B.2.2.2.1 _ k_1326) (B.2.2.2.1 _ k_1327) (B.2.2.2.1 _ k_5) ⟨by decide +kernel, by decide +kernel, by decide +kernel⟩ rfl d_Names_addLet_7 rfl (Nat.le_of_ble_eq_true rfl) ⟨by decide, by decide⟩ ⟨by decide, by decide⟩ ⟨by decide, by decide⟩ (mv_noH hno _) (fun σ7 h7 => ?_)
  obtain ⟨rfl, s_g1⟩ := h7
  have r_g1 : mv_r g1 = mv_r h := s_g1.trans rfl
  refine mv_aload_n (pc := 10) B d_Names_addLet_10 rfl 0 rfl ?_
  refine mv_getR (pc := 11) (ci := 4) (C := R_Names) (T := F_Names) (N := 10) B 6 rfl rfl (by decide) i_Names (B.2.2.2.1 _ k_143) rfl ((congrFun (congrFun r_g1 13) 6).trans (hb.1 13 6 _ rfl)) d_Names_addLet_11 ?_
  refine mv_aload_n (pc := 14) B d_Names_addLet_14 rfl 0 rfl ?_
  refine mv_getI (pc := 15) (ci := 4) (C := R_Names) (T := F_Names) (N := 10) B 7 rfl rfl (by decide) i_Names (B.2.2.2.1 _ k_144) rfl d_Names_addLet_15 ?_
  refine mv_iload_n (pc := 18) B d_Names_addLet_18 rfl 1 rfl ?_
  obtain ⟨q2, hf⟩ := xvi_e hf
  refine mv_iast (pc := 19) B rfl q2 d_Names_addLet_19 ?_
  refine mvh_hp (R9 := mv_r h) hf r_g1 (fun g3 hf r_g3 => ?_)
  refine mv_aload_n (pc := 20) B d_Names_addLet_20 rfl 0 rfl ?_
  refine mv_dup (pc := 21) B d_Names_addLet_21 rfl ?_
  refine mv_getI (pc := 22) (ci := 4) (C := R_Names) (T := F_Names) (N := 10) B 7 rfl rfl (by decide) i_Names (B.2.2.2.1 _ k_144) rfl d_Names_addLet_22 ?_
  refine mv_iconst (pc := 25) (v := 1) B d_Names_addLet_25 (by decide) ?_
  refine mv_iadd (pc := 26) B d_Names_addLet_26 ?_
  refine mv_putI (pc := 27) (ci := 4) (C := R_Names) (T := F_Names) (N := 10) B 7 rfl rfl (by decide) i_Names t_Names_ok n_Names (B.2.2.2.1 _ k_144) rfl rfl rfl rfl d_Names_addLet_27 ?_
  refine mvh_hp (R9 := mv_r h) hf r_g3 (fun g4 hf r_g4 => ?_)
  refine mv_aload_n (pc := 30) B d_Names_addLet_30 rfl 0 rfl ?_
  refine mv_getR (pc := 31) (ci := 4) (C := R_Names) (T := F_Names) (N := 10) B 8 rfl rfl (by decide) i_Names (B.2.2.2.1 _ k_146) rfl ((congrFun (congrFun r_g4 13) 8).trans (hb.1 13 8 _ rfl)) d_Names_addLet_31 ?_
  refine mv_aload_n (pc := 34) B d_Names_addLet_34 rfl 0 rfl ?_
  refine mv_getI (pc := 35) (ci := 4) (C := R_Names) (T := F_Names) (N := 10) B 9 rfl rfl (by decide) i_Names (B.2.2.2.1 _ k_148) rfl d_Names_addLet_35 ?_
  refine mv_iload_n (pc := 38) B d_Names_addLet_38 rfl 2 rfl ?_
  obtain ⟨q5, hf⟩ := xvi_e hf
  refine mv_iast (pc := 39) B rfl q5 d_Names_addLet_39 ?_
  refine mvh_hp (R9 := mv_r h) hf r_g4 (fun g6 hf r_g6 => ?_)
  refine mv_aload_n (pc := 40) B d_Names_addLet_40 rfl 0 rfl ?_
  refine mv_dup (pc := 41) B d_Names_addLet_41 rfl ?_
  refine mv_getI (pc := 42) (ci := 4) (C := R_Names) (T := F_Names) (N := 10) B 9 rfl rfl (by decide) i_Names (B.2.2.2.1 _ k_148) rfl d_Names_addLet_42 ?_
  refine mv_iconst (pc := 45) (v := 1) B d_Names_addLet_45 (by decide) ?_
  refine mv_iadd (pc := 46) B d_Names_addLet_46 ?_
  refine mv_putI (pc := 47) (ci := 4) (C := R_Names) (T := F_Names) (N := 10) B 9 rfl rfl (by decide) i_Names t_Names_ok n_Names (B.2.2.2.1 _ k_148) rfl rfl rfl rfl d_Names_addLet_47 ?_
  refine mvh_hp (R9 := mv_r h) hf r_g6 (fun g7 hf r_g7 => ?_)
  exact mv_vret (pc := 50) B hr d_Names_addLet_50 (Nat.le_refl _) (Nat.le_refl _) ⟨rfl, xrh_v hf r_g7⟩
def f_Names_clear (h : mv_H) : Option mv_H := bif xvr (0 : Int32) (mv_i h 7 5) 16448 then xk (mv_fi h 14 ((0 : Int32)).toNatClampNeg ((mv_i h 7 5)).toNatClampNeg (0 : Int32)) fun g1 => bif xvr (0 : Int32) (mv_i g1 7 5) 16448 then xk (mv_fi g1 16 ((0 : Int32)).toNatClampNeg ((mv_i g1 7 5)).toNatClampNeg (vp_nar .byte (0 : Int32))) fun g3 => xhv (f_Names_leaveOp g3) fun g5 => some g5 else none else none
set_option maxHeartbeats 4000000 in
set_option maxRecDepth 100000 in
theorem ch_Names_clear (l : Launch) {dA : FieldType → ClassId} {D : va_G} {al : Nat → Nat} {ext : mv_Sh} {sk sv : Nat → Nat} (hi : mv_inj (mg dA D al ext)) (h : mv_H) (hb : xRT (mv_r h))  {rg : mv_H} (hf : f_Names_clear h = some rg) : mv_C l y_Names_clear (Cond.code y_Names_clear b_Names_clear 1 (Option.none : Option Jvm.ClassFile.FieldType) :: ma) ({ frames := 2, cells := 0, slots := 0, locals := 46 }) (mg dA D al ext) (mK sk sv) [.ref (al 13)] h (mv_Rv (fun σ1 => rg = σ1 ∧ mv_r σ1 = mv_r h)) := by
  refine mv_C.ofV (cc := b_Names_clear) (nL := 1) (ret := (Option.none : Option Jvm.ClassFile.FieldType)) (by decide +kernel) rfl hi (Nat.le_of_ble_eq_true rfl) ?_
  intro p e s m below meth c B hNs hr hnm hno
  unfold f_Names_clear at hf
  refine mv_aload_n (pc := 0) B d_Names_clear_0 rfl 0 rfl ?_
  refine mv_getR (pc := 1) (ci := 4) (C := R_Names) (T := F_Names) (N := 10) B 1 rfl rfl (by decide) i_Names (B.2.2.2.1 _ k_135) rfl (hb.1 13 1 _ rfl) d_Names_clear_1 ?_
  refine mv_iconst (pc := 4) (v := 0) B d_Names_clear_4 (by decide) ?_
  refine mv_aload_n (pc := 5) B d_Names_clear_5 rfl 0 rfl ?_
  refine mv_getR (pc := 6) (ci := 4) (C := R_Names) (T := F_Names) (N := 10) B 0 rfl rfl (by decide) i_Names (B.2.2.2.1 _ k_134) rfl (hb.1 13 0 _ rfl) d_Names_clear_6 ?_
  refine mv_getI (pc := 9) (ci := 3) (C := R_Symbols) (T := F_Symbols) (N := 6) B 5 rfl rfl (by decide) i_Symbols (B.2.2.2.1 _ k_71) rfl d_Names_clear_9 ?_
  refine mv_iconst (pc := 12) (v := 0) B d_Names_clear_12 (by decide) ?_
  obtain ⟨q2, hf⟩ := xvr_e hf
  refine mv_callSv (pc := 13) (n := 4) B (mK_ok sk sv) hNs (c_Arrays_fill_1 l hi _ 14 16448 rfl (by decide) _ _ _ q2.1 q2.2.1 q2.2.2) rfl (ma_goodc kc_Arrays_fill_1) (B.2.2.2.1 _ k_948) (B.2.2.2.1 _ k_949) (B.2.2.2.1 _ k_20) ⟨by decide +kernel, by decide +kernel, by decide +kernel⟩ rfl d_Names_clear_13 rfl (Nat.le_of_ble_eq_true rfl) ⟨by decide, by decide⟩ ⟨by decide, by decide⟩ ⟨by decide, by decide⟩ (mv_noH hno _) (fun σ13 h13 => ?_)
  subst h13
  refine mvh_hp (R9 := mv_r h) hf rfl (fun g1 hf r_g1 => ?_)
  refine mv_aload_n (pc := 16) B d_Names_clear_16 rfl 0 rfl ?_
  refine mv_getR (pc := 17) (ci := 4) (C := R_Names) (T := F_Names) (N := 10) B 3 rfl rfl (by decide) i_Names (B.2.2.2.1 _ k_139) rfl ((congrFun (congrFun r_g1 13) 3).trans (hb.1 13 3 _ rfl)) d_Names_clear_17 ?_
  refine mv_iconst (pc := 20) (v := 0) B d_Names_clear_20 (by decide) ?_
  refine mv_aload_n (pc := 21) B d_Names_clear_21 rfl 0 rfl ?_
  refine mv_getR (pc := 22) (ci := 4) (C := R_Names) (T := F_Names) (N := 10) B 0 rfl rfl (by decide) i_Names (B.2.2.2.1 _ k_134) rfl ((congrFun (congrFun r_g1 13) 0).trans (hb.1 13 0 _ rfl)) d_Names_clear_22 ?_
  refine mv_getI (pc := 25) (ci := 3) (C := R_Symbols) (T := F_Symbols) (N := 6) B 5 rfl rfl (by decide) i_Symbols (B.2.2.2.1 _ k_71) rfl d_Names_clear_25 ?_
  refine mv_iconst (pc := 28) (v := 0) B d_Names_clear_28 (by decide) ?_
  obtain ⟨q4, hf⟩ := xvr_e hf
  refine mv_callSv (pc := 29) (n := 4) B (mK_ok sk sv) hNs (c_Arrays_fill_2 l hi _ 16 16448 rfl (by decide) _ _ _ q4.1 q4.2.1 q4.2.2) rfl (ma_goodc kc_Arrays_fill_2) (B.2.2.2.1 _ k_1247) (B.2.2.2.1 _ k_1248) (B.2.2.2.1 _ k_20) ⟨by decide +kernel, by decide +kernel, by decide +kernel⟩ rfl d_Names_clear_29 rfl (Nat.le_of_ble_eq_true rfl) ⟨by decide, by decide⟩ ⟨by decide, by decide⟩ ⟨by decide, by decide⟩ (mv_noH hno _) (fun σ29 h29 => ?_)
  subst h29
  refine mvh_hp (R9 := mv_r h) hf r_g1 (fun g3 hf r_g3 => ?_)
  refine mv_aload_n (pc := 32) B d_Names_clear_32 rfl 0 rfl ?_
  obtain ⟨g5, eg5, hf⟩ := xhv_e hf
  refine mv_callVv (pc := 33) (n := 0) (ci := 4) (C := R_Names) B (mK_ok sk sv) hNs rfl rfl (ch_Names_leaveOp l hi _ (xrw r_g3 hb) eg5) rfl (ma_goodc kc_Names_leaveOp) (B.2.2.2.1 _ k_1250) (B.2.2.2.1 _ k_1251) (B.2.2.2.1 _ k_1252) (B.2.2.2.1 _ k_5) ⟨by decide +kernel, by decide +kernel, by decide +kernel⟩ rfl d_Names_clear_33 rfl (Nat.le_of_ble_eq_true rfl) ⟨by decide, by decide⟩ ⟨by decide, by decide⟩ ⟨by decide, by decide⟩ (mv_noH hno _) (fun σ33 h33 => ?_)
  obtain ⟨rfl, s_g5⟩ := h33
  have r_g5 : mv_r g5 = mv_r h := s_g5.trans r_g3
  exact mv_vret (pc := 36) B hr d_Names_clear_36 (Nat.le_refl _) (Nat.le_refl _) ⟨rfl, xrh_v hf r_g5⟩
def f_Names_enterOp_64 (k3 : Int32 → Int32 → Int32 → Int32 → mv_H → Option mv_H) (x2 : Int32) (x3 : Int32) (x4 : Int32) (x5 : Int32) (hz : mv_H) : Option mv_H := k3 x2 x3 x4 (x5 + 1) hz
def f_Names_enterOp_62 (k3 : Int32 → Int32 → Int32 → Int32 → mv_H → Option mv_H) (x2 : Int32) (x3 : Int32) (x4 : Int32) (x5 : Int32) (y0 : Int64) (y1 : Int64) (y2 : Int32) (hz : mv_H) : Option mv_H := bif xvi y2 128 then xk (mv_sb hz 18 (y2).toNatClampNeg (y1 ||| y0)) fun g2 => f_Names_enterOp_64 k3 x2 x3 x4 x5 g2 else none
def fF_Names_enterOp_3 (k3 : Int32 → Int32 → Int32 → Int32 → mv_H → Option mv_H) (x2 : Int32) (x3 : Int32) (x4 : Int32) (x5 : Int32) (hz : mv_H) : Option mv_H := if x3 ≤ x5 then (some hz) else (bif xvi (x2 + x5) 32768 then if (mv_a hz 1 ((x2 + x5)).toNatClampNeg) < (65 : Int32) then (f_Names_enterOp_64 k3 x2 x3 x4 x5 hz) else (bif xvi (mv_a hz 1 ((x2 + x5)).toNatClampNeg) 128 then bif xvi (mv_a hz 1 ((x2 + x5)).toNatClampNeg) 128 then xk (mv_sa hz 17 ((mv_a hz 1 ((x2 + x5)).toNatClampNeg)).toNatClampNeg ((mv_a hz 17 ((mv_a hz 1 ((x2 + x5)).toNatClampNeg)).toNatClampNeg) + (1 : Int32))) fun g6 => bif xvi (mv_a hz 1 ((x2 + x5)).toNatClampNeg) 128 then if x3 = x4 then (f_Names_enterOp_62 k3 x2 x3 x4 x5 ((1 : Int64) <<< ((((x4 - (1 : Int32)) - x5)).toInt64 &&& 63)) (mv_b g6 18 ((mv_a hz 1 ((x2 + x5)).toNatClampNeg)).toNatClampNeg) (mv_a hz 1 ((x2 + x5)).toNatClampNeg) g6) else (f_Names_enterOp_62 k3 x2 x3 x4 x5 (0 : Int64) (mv_b g6 18 ((mv_a hz 1 ((x2 + x5)).toNatClampNeg)).toNatClampNeg) (mv_a hz 1 ((x2 + x5)).toNatClampNeg) g6) else none else none else none) else none)
def f_Names_enterOp_3 : Nat → Int32 → Int32 → Int32 → Int32 → mv_H → Option mv_H
  | 0 => fun _ _ _ _ _ => none
  | nn + 1 => fF_Names_enterOp_3 (f_Names_enterOp_3 nn)
def f_Names_enterOp (h : mv_H) (a1 : Int32) (a2 : Int32) (a3 : Int32) : Option mv_H := f_Names_enterOp_3 200000 a1 a2 a3 (0 : Int32) h
set_option maxHeartbeats 4000000 in
set_option maxRecDepth 100000 in
theorem ch_Names_enterOp (l : Launch) {dA : FieldType → ClassId} {D : va_G} {al : Nat → Nat} {ext : mv_Sh} {sk sv : Nat → Nat} (hi : mv_inj (mg dA D al ext)) (h : mv_H) (hb : xRT (mv_r h))  (a1 : Int32) (a2 : Int32) (a3 : Int32) {rg : mv_H} (hf : f_Names_enterOp h a1 a2 a3 = some rg) : mv_C l y_Names_enterOp (Cond.code y_Names_enterOp b_Names_enterOp 7 (Option.none : Option Jvm.ClassFile.FieldType) :: ma) ({ frames := 0, cells := 0, slots := 0, locals := 0 }) (mg dA D al ext) (mK sk sv) [.ref (al 13), .ref (al 1), .int a1, .int a2, .int a3] h (mv_Rv (fun σ1 => rg = σ1 ∧ mv_r σ1 = mv_r h)) := by
  refine mv_C.ofV (cc := b_Names_enterOp) (nL := 7) (ret := (Option.none : Option Jvm.ClassFile.FieldType)) (by decide +kernel) rfl hi (Nat.le_of_ble_eq_true rfl) ?_
  intro p e s m below meth c B hNs hr hnm hno
  have lp3 : ∀ (nn3 : Nat) (x2 : Int32) (x3 : Int32) (x4 : Int32) (x5 : Int32) (hz : mv_H), mv_r hz = mv_r h → f_Names_enterOp_3 nn3 x2 x3 x4 x5 hz = some rg → mv_V p l e ({ frames := 0, cells := 0, slots := 0, locals := 0 }) s m ([.ref (al 13), .ref (al 1), .int a1, .int a2, .int a3] : List Value).toArray below meth c (mg dA D al ext) 7 0 0 (mv_Q (mg dA D al ext) below s 0 0 (mv_Rv (fun σ1 => rg = σ1 ∧ mv_r σ1 = mv_r h))) hz 3 [(0, .ref (al 13)), (1, .ref (al 1)), (2, .int x2), (3, .int x3), (4, .int x4), (5, .int x5)] [] := by
    intro nn3
    induction nn3 with
    | zero => intro x2 x3 x4 x5 hz r_hz hf; cases hf
    | succ nn3 ih3 =>
      intro x2 x3 x4 x5 hz r_hz hf
      have jn64 : ∀ (x2 : Int32) (x3 : Int32) (x4 : Int32) (x5 : Int32) (hz : mv_H), mv_r hz = mv_r h → f_Names_enterOp_64 (f_Names_enterOp_3 nn3) x2 x3 x4 x5 hz = some rg → mv_V p l e ({ frames := 0, cells := 0, slots := 0, locals := 0 }) s m ([.ref (al 13), .ref (al 1), .int a1, .int a2, .int a3] : List Value).toArray below meth c (mg dA D al ext) 7 0 0 (mv_Q (mg dA D al ext) below s 0 0 (mv_Rv (fun σ1 => rg = σ1 ∧ mv_r σ1 = mv_r h))) hz 64 [(0, .ref (al 13)), (1, .ref (al 1)), (2, .int x2), (3, .int x3), (4, .int x4), (5, .int x5)] [] := by
        intro x2 x3 x4 x5 hz r_hz hf
        unfold f_Names_enterOp_64 at hf
        refine mv_iinc (pc := 64) (j := 5) (v := 1) B d_Names_enterOp_64 rfl (by decide) (by decide) rfl ?_
        refine mv_goto (pc := 67) (tgt := 3) B d_Names_enterOp_67 rfl ?_
        refine mv_lpick [1, 2, 3, 4, 5, 0] rfl ?_
        exact ih3 _ _ _ _ _ r_hz hf
      have jn62 : ∀ (x2 : Int32) (x3 : Int32) (x4 : Int32) (x5 : Int32) (y0 : Int64) (y1 : Int64) (y2 : Int32) (hz : mv_H), mv_r hz = mv_r h → f_Names_enterOp_62 (f_Names_enterOp_3 nn3) x2 x3 x4 x5 y0 y1 y2 hz = some rg → mv_V p l e ({ frames := 0, cells := 0, slots := 0, locals := 0 }) s m ([.ref (al 13), .ref (al 1), .int a1, .int a2, .int a3] : List Value).toArray below meth c (mg dA D al ext) 7 0 0 (mv_Q (mg dA D al ext) below s 0 0 (mv_Rv (fun σ1 => rg = σ1 ∧ mv_r σ1 = mv_r h))) hz 62 [(0, .ref (al 13)), (1, .ref (al 1)), (2, .int x2), (3, .int x3), (4, .int x4), (5, .int x5)] [.long y0, .long y1, .int y2, .ref (al 18)] := by
        intro x2 x3 x4 x5 y0 y1 y2 hz r_hz hf
        unfold f_Names_enterOp_62 at hf
        refine mv_lor (pc := 62) B d_Names_enterOp_62 ?_
        obtain ⟨q1, hf⟩ := xvi_e hf
        refine mv_last (pc := 63) B rfl q1 d_Names_enterOp_63 ?_
        refine mvh_hp (R9 := mv_r h) hf r_hz (fun g2 hf r_g2 => ?_)
        refine mv_lpick [0, 1, 2, 3, 4, 5] rfl ?_
        exact jn64 _ _ _ _ _ r_g2 hf
      have hf : fF_Names_enterOp_3 (f_Names_enterOp_3 nn3) x2 x3 x4 x5 hz = some rg := hf
      unfold fF_Names_enterOp_3 at hf
      refine mv_iload (pc := 3) B d_Names_enterOp_3 5 rfl ?_
      refine mv_iload_n (pc := 5) B d_Names_enterOp_5 rfl 3 rfl ?_
      refine mv_icmp_ge (pc := 6) (tgt := 70) B d_Names_enterOp_6 rfl (fun h6 => ?_) (fun h6 => ?_)
      · skip
        have hf := xif_t h6 hf
        exact mv_vret (pc := 70) B hr d_Names_enterOp_70 (Nat.le_refl _) (Nat.le_refl _) ⟨rfl, xrh_v hf r_hz⟩
      · skip
        have hf := xif_f h6 hf
        refine mv_aload_n (pc := 9) B d_Names_enterOp_9 rfl 1 rfl ?_
        refine mv_iload_n (pc := 10) B d_Names_enterOp_10 rfl 2 rfl ?_
        refine mv_iload (pc := 11) B d_Names_enterOp_11 5 rfl ?_
        refine mv_iadd (pc := 13) B d_Names_enterOp_13 ?_
        obtain ⟨q3, hf⟩ := xvi_e hf
        refine mv_bald (pc := 14) B rfl q3 d_Names_enterOp_14 ?_
        refine mv_istore (pc := 15) B d_Names_enterOp_15 (by decide) rfl ?_
        refine mv_iload (pc := 17) B d_Names_enterOp_17 0 rfl ?_
        refine mv_bipush (pc := 19) (v := 65) B d_Names_enterOp_19 (by decide) ?_
        refine mv_icmp_lt (pc := 21) (tgt := 64) B d_Names_enterOp_21 rfl (fun h21 => ?_) (fun h21 => ?_)
        · skip
          have hf := xif_t h21 hf
          refine mv_lpick [1, 2, 3, 4, 5, 6] rfl ?_
          exact jn64 _ _ _ _ _ r_hz hf
        · skip
          have hf := xif_f h21 hf
          refine mv_aload_n (pc := 24) B d_Names_enterOp_24 rfl 1 rfl ?_
          refine mv_getR (pc := 25) (ci := 4) (C := R_Names) (T := F_Names) (N := 10) B 4 rfl rfl (by decide) i_Names (B.2.2.2.1 _ k_141) rfl ((congrFun (congrFun r_hz 13) 4).trans (hb.1 13 4 _ rfl)) d_Names_enterOp_25 ?_
          refine mv_iload (pc := 28) B d_Names_enterOp_28 0 rfl ?_
          refine mv_dup2_11 (pc := 30) B d_Names_enterOp_30 rfl rfl ?_
          obtain ⟨q4, hf⟩ := xvi_e hf
          refine mv_iald (pc := 31) B rfl q4 d_Names_enterOp_31 ?_
          refine mv_iconst (pc := 32) (v := 1) B d_Names_enterOp_32 (by decide) ?_
          refine mv_iadd (pc := 33) B d_Names_enterOp_33 ?_
          obtain ⟨q5, hf⟩ := xvi_e hf
          refine mv_iast (pc := 34) B rfl q5 d_Names_enterOp_34 ?_
          refine mvh_hp (R9 := mv_r h) hf r_hz (fun g6 hf r_g6 => ?_)
          refine mv_aload_n (pc := 35) B d_Names_enterOp_35 rfl 1 rfl ?_
          refine mv_getR (pc := 36) (ci := 4) (C := R_Names) (T := F_Names) (N := 10) B 5 rfl rfl (by decide) i_Names (B.2.2.2.1 _ k_142) rfl ((congrFun (congrFun r_g6 13) 5).trans (hb.1 13 5 _ rfl)) d_Names_enterOp_36 ?_
          refine mv_iload (pc := 39) B d_Names_enterOp_39 0 rfl ?_
          refine mv_dup2_11 (pc := 41) B d_Names_enterOp_41 rfl rfl ?_
          obtain ⟨q7, hf⟩ := xvi_e hf
          refine mv_lald (pc := 42) B rfl q7 d_Names_enterOp_42 ?_
          refine mv_iload_n (pc := 43) B d_Names_enterOp_43 rfl 4 rfl ?_
          refine mv_iload (pc := 44) B d_Names_enterOp_44 5 rfl ?_
          refine mv_icmp_ne (pc := 46) (tgt := 61) B d_Names_enterOp_46 rfl (fun h46 => ?_) (fun h46 => ?_)
          · skip
            have hf := xif_f h46 hf
            refine mv_lconst (pc := 61) (v := 0) B d_Names_enterOp_61 (by decide) ?_
            refine mv_lpick [1, 2, 3, 4, 5, 6] rfl ?_
            exact jn62 _ _ _ _ _ _ _ _ r_g6 hf
          · skip
            have hf := xif_t h46 hf
            refine mv_lconst (pc := 49) (v := 1) B d_Names_enterOp_49 (by decide) ?_
            refine mv_iload (pc := 50) B d_Names_enterOp_50 5 rfl ?_
            refine mv_iconst (pc := 52) (v := 1) B d_Names_enterOp_52 (by decide) ?_
            refine mv_isub (pc := 53) B d_Names_enterOp_53 ?_
            refine mv_iload (pc := 54) B d_Names_enterOp_54 6 rfl ?_
            refine mv_isub (pc := 56) B d_Names_enterOp_56 ?_
            refine mv_lshl (pc := 57) B d_Names_enterOp_57 ?_
            refine mv_goto (pc := 58) (tgt := 62) B d_Names_enterOp_58 rfl ?_
            refine mv_lpick [1, 2, 3, 4, 5, 6] rfl ?_
            exact jn62 _ _ _ _ _ _ _ _ r_g6 hf
  unfold f_Names_enterOp at hf
  refine mv_iconst (pc := 0) (v := 0) B d_Names_enterOp_0 (by decide) ?_
  refine mv_istore (pc := 1) B d_Names_enterOp_1 (by decide) rfl ?_
  refine mv_lpick [1, 2, 3, 4, 5, 0] rfl ?_
  exact lp3 _ _ _ _ _ _ rfl hf
def f_Program_clear (P : Nat) (h : mv_H) : Option mv_H := xk (mv_si h P 0 (8 : Int32)) fun g1 => xk (mv_si g1 P 1 (0 : Int32)) fun g2 => xk (mv_si g2 P 6 (0 : Int32)) fun g3 => xk (mv_si g3 P 7 (0 : Int32)) fun g4 => xk (mv_si g4 P 8 (-1 : Int32)) fun g5 => xk (mv_si g5 P 9 (-1 : Int32)) fun g6 => xk (mv_si g6 P 10 (0 : Int32)) fun g7 => xk (mv_si g7 P 17 (0 : Int32)) fun g8 => some g8
set_option maxHeartbeats 4000000 in
set_option maxRecDepth 100000 in
theorem ch_Program_clear_a (l : Launch) {dA : FieldType → ClassId} {D : va_G} {al : Nat → Nat} {ext : mv_Sh} {sk sv : Nat → Nat} (hi : mv_inj (mg dA D al ext)) (h : mv_H)  {rg : mv_H} (hf : f_Program_clear 32 h = some rg) : mv_C l y_Program_clear (Cond.code y_Program_clear b_Program_clear 1 (Option.none : Option Jvm.ClassFile.FieldType) :: ma) ({ frames := 0, cells := 0, slots := 0, locals := 0 }) (mg dA D al ext) (mK sk sv) [.ref (al 32)] h (mv_Rv (fun σ1 => rg = σ1 ∧ mv_r σ1 = mv_r h)) := by
  refine mv_C.ofV (cc := b_Program_clear) (nL := 1) (ret := (Option.none : Option Jvm.ClassFile.FieldType)) (by decide +kernel) rfl hi (Nat.le_of_ble_eq_true rfl) ?_
  intro p e s m below meth c B hNs hr hnm hno
  unfold f_Program_clear at hf
  refine mv_aload_n (pc := 0) B d_Program_clear_0 rfl 0 rfl ?_
  refine mv_bipush (pc := 1) (v := 8) B d_Program_clear_1 (by decide) ?_
  refine mv_putI (pc := 3) (ci := 7) (C := R_Program) (T := F_Program) (N := 19) B 0 rfl rfl (by decide) i_Program t_Program_ok n_Program (B.2.2.2.1 _ k_311) rfl rfl rfl rfl d_Program_clear_3 ?_
  refine mvh_hp (R9 := mv_r h) hf rfl (fun g1 hf r_g1 => ?_)
  refine mv_aload_n (pc := 6) B d_Program_clear_6 rfl 0 rfl ?_
  refine mv_iconst (pc := 7) (v := 0) B d_Program_clear_7 (by decide) ?_
  refine mv_putI (pc := 8) (ci := 7) (C := R_Program) (T := F_Program) (N := 19) B 1 rfl rfl (by decide) i_Program t_Program_ok n_Program (B.2.2.2.1 _ k_315) rfl rfl rfl rfl d_Program_clear_8 ?_
  refine mvh_hp (R9 := mv_r h) hf r_g1 (fun g2 hf r_g2 => ?_)
  refine mv_aload_n (pc := 11) B d_Program_clear_11 rfl 0 rfl ?_
  refine mv_iconst (pc := 12) (v := 0) B d_Program_clear_12 (by decide) ?_
  refine mv_putI (pc := 13) (ci := 7) (C := R_Program) (T := F_Program) (N := 19) B 6 rfl rfl (by decide) i_Program t_Program_ok n_Program (B.2.2.2.1 _ k_332) rfl rfl rfl rfl d_Program_clear_13 ?_
  refine mvh_hp (R9 := mv_r h) hf r_g2 (fun g3 hf r_g3 => ?_)
  refine mv_aload_n (pc := 16) B d_Program_clear_16 rfl 0 rfl ?_
  refine mv_iconst (pc := 17) (v := 0) B d_Program_clear_17 (by decide) ?_
  refine mv_putI (pc := 18) (ci := 7) (C := R_Program) (T := F_Program) (N := 19) B 7 rfl rfl (by decide) i_Program t_Program_ok n_Program (B.2.2.2.1 _ k_334) rfl rfl rfl rfl d_Program_clear_18 ?_
  refine mvh_hp (R9 := mv_r h) hf r_g3 (fun g4 hf r_g4 => ?_)
  refine mv_aload_n (pc := 21) B d_Program_clear_21 rfl 0 rfl ?_
  refine mv_iconst (pc := 22) (v := -1) B d_Program_clear_22 (by decide) ?_
  refine mv_putI (pc := 23) (ci := 7) (C := R_Program) (T := F_Program) (N := 19) B 8 rfl rfl (by decide) i_Program t_Program_ok n_Program (B.2.2.2.1 _ k_337) rfl rfl rfl rfl d_Program_clear_23 ?_
  refine mvh_hp (R9 := mv_r h) hf r_g4 (fun g5 hf r_g5 => ?_)
  refine mv_aload_n (pc := 26) B d_Program_clear_26 rfl 0 rfl ?_
  refine mv_iconst (pc := 27) (v := -1) B d_Program_clear_27 (by decide) ?_
  refine mv_putI (pc := 28) (ci := 7) (C := R_Program) (T := F_Program) (N := 19) B 9 rfl rfl (by decide) i_Program t_Program_ok n_Program (B.2.2.2.1 _ k_340) rfl rfl rfl rfl d_Program_clear_28 ?_
  refine mvh_hp (R9 := mv_r h) hf r_g5 (fun g6 hf r_g6 => ?_)
  refine mv_aload_n (pc := 31) B d_Program_clear_31 rfl 0 rfl ?_
  refine mv_iconst (pc := 32) (v := 0) B d_Program_clear_32 (by decide) ?_
  refine mv_putI (pc := 33) (ci := 7) (C := R_Program) (T := F_Program) (N := 19) B 10 rfl rfl (by decide) i_Program t_Program_ok n_Program (B.2.2.2.1 _ k_345) rfl rfl rfl rfl d_Program_clear_33 ?_
  refine mvh_hp (R9 := mv_r h) hf r_g6 (fun g7 hf r_g7 => ?_)
  refine mv_aload_n (pc := 36) B d_Program_clear_36 rfl 0 rfl ?_
  refine mv_iconst (pc := 37) (v := 0) B d_Program_clear_37 (by decide) ?_
  refine mv_putI (pc := 38) (ci := 7) (C := R_Program) (T := F_Program) (N := 19) B 17 rfl rfl (by decide) i_Program t_Program_ok n_Program (B.2.2.2.1 _ k_361) rfl rfl rfl rfl d_Program_clear_38 ?_
  refine mvh_hp (R9 := mv_r h) hf r_g7 (fun g8 hf r_g8 => ?_)
  exact mv_vret (pc := 41) B hr d_Program_clear_41 (Nat.le_refl _) (Nat.le_refl _) ⟨rfl, xrh_v hf r_g8⟩
set_option maxHeartbeats 4000000 in
set_option maxRecDepth 100000 in
theorem ch_Program_clear_b (l : Launch) {dA : FieldType → ClassId} {D : va_G} {al : Nat → Nat} {ext : mv_Sh} {sk sv : Nat → Nat} (hi : mv_inj (mg dA D al ext)) (h : mv_H)  {rg : mv_H} (hf : f_Program_clear 48 h = some rg) : mv_C l y_Program_clear (Cond.code y_Program_clear b_Program_clear 1 (Option.none : Option Jvm.ClassFile.FieldType) :: ma) ({ frames := 0, cells := 0, slots := 0, locals := 0 }) (mg dA D al ext) (mK sk sv) [.ref (al 48)] h (mv_Rv (fun σ1 => rg = σ1 ∧ mv_r σ1 = mv_r h)) := by
  refine mv_C.ofV (cc := b_Program_clear) (nL := 1) (ret := (Option.none : Option Jvm.ClassFile.FieldType)) (by decide +kernel) rfl hi (Nat.le_of_ble_eq_true rfl) ?_
  intro p e s m below meth c B hNs hr hnm hno
  unfold f_Program_clear at hf
  refine mv_aload_n (pc := 0) B d_Program_clear_0 rfl 0 rfl ?_
  refine mv_bipush (pc := 1) (v := 8) B d_Program_clear_1 (by decide) ?_
  refine mv_putI (pc := 3) (ci := 7) (C := R_Program) (T := F_Program) (N := 19) B 0 rfl rfl (by decide) i_Program t_Program_ok n_Program (B.2.2.2.1 _ k_311) rfl rfl rfl rfl d_Program_clear_3 ?_
  refine mvh_hp (R9 := mv_r h) hf rfl (fun g1 hf r_g1 => ?_)
  refine mv_aload_n (pc := 6) B d_Program_clear_6 rfl 0 rfl ?_
  refine mv_iconst (pc := 7) (v := 0) B d_Program_clear_7 (by decide) ?_
  refine mv_putI (pc := 8) (ci := 7) (C := R_Program) (T := F_Program) (N := 19) B 1 rfl rfl (by decide) i_Program t_Program_ok n_Program (B.2.2.2.1 _ k_315) rfl rfl rfl rfl d_Program_clear_8 ?_
  refine mvh_hp (R9 := mv_r h) hf r_g1 (fun g2 hf r_g2 => ?_)
  refine mv_aload_n (pc := 11) B d_Program_clear_11 rfl 0 rfl ?_
  refine mv_iconst (pc := 12) (v := 0) B d_Program_clear_12 (by decide) ?_
  refine mv_putI (pc := 13) (ci := 7) (C := R_Program) (T := F_Program) (N := 19) B 6 rfl rfl (by decide) i_Program t_Program_ok n_Program (B.2.2.2.1 _ k_332) rfl rfl rfl rfl d_Program_clear_13 ?_
  refine mvh_hp (R9 := mv_r h) hf r_g2 (fun g3 hf r_g3 => ?_)
  refine mv_aload_n (pc := 16) B d_Program_clear_16 rfl 0 rfl ?_
  refine mv_iconst (pc := 17) (v := 0) B d_Program_clear_17 (by decide) ?_
  refine mv_putI (pc := 18) (ci := 7) (C := R_Program) (T := F_Program) (N := 19) B 7 rfl rfl (by decide) i_Program t_Program_ok n_Program (B.2.2.2.1 _ k_334) rfl rfl rfl rfl d_Program_clear_18 ?_
  refine mvh_hp (R9 := mv_r h) hf r_g3 (fun g4 hf r_g4 => ?_)
  refine mv_aload_n (pc := 21) B d_Program_clear_21 rfl 0 rfl ?_
  refine mv_iconst (pc := 22) (v := -1) B d_Program_clear_22 (by decide) ?_
  refine mv_putI (pc := 23) (ci := 7) (C := R_Program) (T := F_Program) (N := 19) B 8 rfl rfl (by decide) i_Program t_Program_ok n_Program (B.2.2.2.1 _ k_337) rfl rfl rfl rfl d_Program_clear_23 ?_
  refine mvh_hp (R9 := mv_r h) hf r_g4 (fun g5 hf r_g5 => ?_)
  refine mv_aload_n (pc := 26) B d_Program_clear_26 rfl 0 rfl ?_
  refine mv_iconst (pc := 27) (v := -1) B d_Program_clear_27 (by decide) ?_
  refine mv_putI (pc := 28) (ci := 7) (C := R_Program) (T := F_Program) (N := 19) B 9 rfl rfl (by decide) i_Program t_Program_ok n_Program (B.2.2.2.1 _ k_340) rfl rfl rfl rfl d_Program_clear_28 ?_
  refine mvh_hp (R9 := mv_r h) hf r_g5 (fun g6 hf r_g6 => ?_)
  refine mv_aload_n (pc := 31) B d_Program_clear_31 rfl 0 rfl ?_
  refine mv_iconst (pc := 32) (v := 0) B d_Program_clear_32 (by decide) ?_
  refine mv_putI (pc := 33) (ci := 7) (C := R_Program) (T := F_Program) (N := 19) B 10 rfl rfl (by decide) i_Program t_Program_ok n_Program (B.2.2.2.1 _ k_345) rfl rfl rfl rfl d_Program_clear_33 ?_
  refine mvh_hp (R9 := mv_r h) hf r_g6 (fun g7 hf r_g7 => ?_)
  refine mv_aload_n (pc := 36) B d_Program_clear_36 rfl 0 rfl ?_
  refine mv_iconst (pc := 37) (v := 0) B d_Program_clear_37 (by decide) ?_
  refine mv_putI (pc := 38) (ci := 7) (C := R_Program) (T := F_Program) (N := 19) B 17 rfl rfl (by decide) i_Program t_Program_ok n_Program (B.2.2.2.1 _ k_361) rfl rfl rfl rfl d_Program_clear_38 ?_
  refine mvh_hp (R9 := mv_r h) hf r_g7 (fun g8 hf r_g8 => ?_)
  exact mv_vret (pc := 41) B hr d_Program_clear_41 (Nat.le_refl _) (Nat.le_refl _) ⟨rfl, xrh_v hf r_g8⟩
def f_Program_addThing_57 (P : Nat) (x2 : Int32) (y0 : Int32) (y1 : Int32) (hz : mv_H) : Option mv_H := xk (mv_si hz P 6 (y1 + y0)) fun g1 => xk (mv_si g1 P 7 ((mv_i g1 P 7) + x2)) fun g2 => xk (mv_si g2 P 1 ((mv_i g2 P 1) + (1 : Int32))) fun g3 => some g3
def f_Program_addThing (P : Nat) (h : mv_H) (a0 : Int32) (a1 : Int32) (a2 : Int32) : Option mv_H := bif xvi (mv_i h P 1) 64 then xk (mv_sa h (P + 1) ((mv_i h P 1)).toNatClampNeg a0) fun g5 => bif xvi (mv_i g5 P 1) 64 then xk (mv_sa g5 (P + 2) ((mv_i g5 P 1)).toNatClampNeg a1) fun g7 => bif xvi (mv_i g7 P 1) 64 then xk (mv_sa g7 (P + 3) ((mv_i g7 P 1)).toNatClampNeg (mv_i g7 P 6)) fun g9 => bif xvi (mv_i g9 P 1) 64 then xk (mv_sa g9 (P + 4) ((mv_i g9 P 1)).toNatClampNeg (vp_nar .boolean a2)) fun g11 => if a1 = (0 : Int32) then (f_Program_addThing_57 P a1 (1 : Int32) (mv_i g11 P 6) g11) else (f_Program_addThing_57 P a1 a1 (mv_i g11 P 6) g11) else none else none else none else none
set_option maxHeartbeats 4000000 in
set_option maxRecDepth 100000 in
theorem ch_Program_addThing_a (l : Launch) {dA : FieldType → ClassId} {D : va_G} {al : Nat → Nat} {ext : mv_Sh} {sk sv : Nat → Nat} (hi : mv_inj (mg dA D al ext)) (h : mv_H) (hb : xRP 32 (mv_r h))  (a0 : Int32) (a1 : Int32) (a2 : Int32) {rg : mv_H} (hf : f_Program_addThing 32 h a0 a1 a2 = some rg) : mv_C l y_Program_addThing (Cond.code y_Program_addThing b_Program_addThing 4 (Option.none : Option Jvm.ClassFile.FieldType) :: ma) ({ frames := 0, cells := 0, slots := 0, locals := 0 }) (mg dA D al ext) (mK sk sv) [.ref (al 32), .int a0, .int a1, .int a2] h (mv_Rv (fun σ1 => rg = σ1 ∧ mv_r σ1 = mv_r h)) := by
  refine mv_C.ofV (cc := b_Program_addThing) (nL := 4) (ret := (Option.none : Option Jvm.ClassFile.FieldType)) (by decide +kernel) rfl hi (Nat.le_of_ble_eq_true rfl) ?_
  intro p e s m below meth c B hNs hr hnm hno
  have jn57 : ∀ (x2 : Int32) (y0 : Int32) (y1 : Int32) (hz : mv_H), mv_r hz = mv_r h → f_Program_addThing_57 32 x2 y0 y1 hz = some rg → mv_V p l e ({ frames := 0, cells := 0, slots := 0, locals := 0 }) s m ([.ref (al 32), .int a0, .int a1, .int a2] : List Value).toArray below meth c (mg dA D al ext) 4 0 0 (mv_Q (mg dA D al ext) below s 0 0 (mv_Rv (fun σ1 => rg = σ1 ∧ mv_r σ1 = mv_r h))) hz 57 [(0, .ref (al 32)), (2, .int x2)] [.int y0, .int y1, .ref (al 32)] := by
    intro x2 y0 y1 hz r_hz hf
    unfold f_Program_addThing_57 at hf
    refine mv_iadd (pc := 57) B d_Program_addThing_57 ?_
    refine mv_putI (pc := 58) (ci := 7) (C := R_Program) (T := F_Program) (N := 19) B 6 rfl rfl (by decide) i_Program t_Program_ok n_Program (B.2.2.2.1 _ k_332) rfl rfl rfl rfl d_Program_addThing_58 ?_
    refine mvh_hp (R9 := mv_r h) hf r_hz (fun g1 hf r_g1 => ?_)
    refine mv_aload_n (pc := 61) B d_Program_addThing_61 rfl 0 rfl ?_
    refine mv_dup (pc := 62) B d_Program_addThing_62 rfl ?_
    refine mv_getI (pc := 63) (ci := 7) (C := R_Program) (T := F_Program) (N := 19) B 7 rfl rfl (by decide) i_Program (B.2.2.2.1 _ k_334) rfl d_Program_addThing_63 ?_
    refine mv_iload_n (pc := 66) B d_Program_addThing_66 rfl 1 rfl ?_
    refine mv_iadd (pc := 67) B d_Program_addThing_67 ?_
    refine mv_putI (pc := 68) (ci := 7) (C := R_Program) (T := F_Program) (N := 19) B 7 rfl rfl (by decide) i_Program t_Program_ok n_Program (B.2.2.2.1 _ k_334) rfl rfl rfl rfl d_Program_addThing_68 ?_
    refine mvh_hp (R9 := mv_r h) hf r_g1 (fun g2 hf r_g2 => ?_)
    refine mv_aload_n (pc := 71) B d_Program_addThing_71 rfl 0 rfl ?_
    refine mv_dup (pc := 72) B d_Program_addThing_72 rfl ?_
    refine mv_getI (pc := 73) (ci := 7) (C := R_Program) (T := F_Program) (N := 19) B 1 rfl rfl (by decide) i_Program (B.2.2.2.1 _ k_315) rfl d_Program_addThing_73 ?_
    refine mv_iconst (pc := 76) (v := 1) B d_Program_addThing_76 (by decide) ?_
    refine mv_iadd (pc := 77) B d_Program_addThing_77 ?_
    refine mv_putI (pc := 78) (ci := 7) (C := R_Program) (T := F_Program) (N := 19) B 1 rfl rfl (by decide) i_Program t_Program_ok n_Program (B.2.2.2.1 _ k_315) rfl rfl rfl rfl d_Program_addThing_78 ?_
    refine mvh_hp (R9 := mv_r h) hf r_g2 (fun g3 hf r_g3 => ?_)
    exact mv_vret (pc := 81) B hr d_Program_addThing_81 (Nat.le_refl _) (Nat.le_refl _) ⟨rfl, xrh_v hf r_g3⟩
  unfold f_Program_addThing at hf
  refine mv_aload_n (pc := 0) B d_Program_addThing_0 rfl 0 rfl ?_
  refine mv_getR (pc := 1) (ci := 7) (C := R_Program) (T := F_Program) (N := 19) B 2 rfl rfl (by decide) i_Program (B.2.2.2.1 _ k_318) rfl (hb.1.2.1 32 2 33 rfl) d_Program_addThing_1 ?_
  refine mv_aload_n (pc := 4) B d_Program_addThing_4 rfl 0 rfl ?_
  refine mv_getI (pc := 5) (ci := 7) (C := R_Program) (T := F_Program) (N := 19) B 1 rfl rfl (by decide) i_Program (B.2.2.2.1 _ k_315) rfl d_Program_addThing_5 ?_
  refine mv_iload_n (pc := 8) B d_Program_addThing_8 rfl 1 rfl ?_
  obtain ⟨q4, hf⟩ := xvi_e hf
  refine mv_iast (pc := 9) B rfl q4 d_Program_addThing_9 ?_
  refine mvh_hp (R9 := mv_r h) hf rfl (fun g5 hf r_g5 => ?_)
  refine mv_aload_n (pc := 10) B d_Program_addThing_10 rfl 0 rfl ?_
  refine mv_getR (pc := 11) (ci := 7) (C := R_Program) (T := F_Program) (N := 19) B 3 rfl rfl (by decide) i_Program (B.2.2.2.1 _ k_323) rfl ((congrFun (congrFun r_g5 32) 3).trans (hb.1.2.1 32 3 34 rfl)) d_Program_addThing_11 ?_
  refine mv_aload_n (pc := 14) B d_Program_addThing_14 rfl 0 rfl ?_
  refine mv_getI (pc := 15) (ci := 7) (C := R_Program) (T := F_Program) (N := 19) B 1 rfl rfl (by decide) i_Program (B.2.2.2.1 _ k_315) rfl d_Program_addThing_15 ?_
  refine mv_iload_n (pc := 18) B d_Program_addThing_18 rfl 2 rfl ?_
  obtain ⟨q6, hf⟩ := xvi_e hf
  refine mv_iast (pc := 19) B rfl q6 d_Program_addThing_19 ?_
  refine mvh_hp (R9 := mv_r h) hf r_g5 (fun g7 hf r_g7 => ?_)
  refine mv_aload_n (pc := 20) B d_Program_addThing_20 rfl 0 rfl ?_
  refine mv_getR (pc := 21) (ci := 7) (C := R_Program) (T := F_Program) (N := 19) B 4 rfl rfl (by decide) i_Program (B.2.2.2.1 _ k_326) rfl ((congrFun (congrFun r_g7 32) 4).trans (hb.1.2.1 32 4 35 rfl)) d_Program_addThing_21 ?_
  refine mv_aload_n (pc := 24) B d_Program_addThing_24 rfl 0 rfl ?_
  refine mv_getI (pc := 25) (ci := 7) (C := R_Program) (T := F_Program) (N := 19) B 1 rfl rfl (by decide) i_Program (B.2.2.2.1 _ k_315) rfl d_Program_addThing_25 ?_
  refine mv_aload_n (pc := 28) B d_Program_addThing_28 rfl 0 rfl ?_
  refine mv_getI (pc := 29) (ci := 7) (C := R_Program) (T := F_Program) (N := 19) B 6 rfl rfl (by decide) i_Program (B.2.2.2.1 _ k_332) rfl d_Program_addThing_29 ?_
  obtain ⟨q8, hf⟩ := xvi_e hf
  refine mv_iast (pc := 32) B rfl q8 d_Program_addThing_32 ?_
  refine mvh_hp (R9 := mv_r h) hf r_g7 (fun g9 hf r_g9 => ?_)
  refine mv_aload_n (pc := 33) B d_Program_addThing_33 rfl 0 rfl ?_
  refine mv_getR (pc := 34) (ci := 7) (C := R_Program) (T := F_Program) (N := 19) B 5 rfl rfl (by decide) i_Program (B.2.2.2.1 _ k_330) rfl ((congrFun (congrFun r_g9 32) 5).trans (hb.1.2.1 32 5 36 rfl)) d_Program_addThing_34 ?_
  refine mv_aload_n (pc := 37) B d_Program_addThing_37 rfl 0 rfl ?_
  refine mv_getI (pc := 38) (ci := 7) (C := R_Program) (T := F_Program) (N := 19) B 1 rfl rfl (by decide) i_Program (B.2.2.2.1 _ k_315) rfl d_Program_addThing_38 ?_
  refine mv_iload_n (pc := 41) B d_Program_addThing_41 rfl 3 rfl ?_
  obtain ⟨q10, hf⟩ := xvi_e hf
  refine mv_zast (pc := 42) B rfl q10 d_Program_addThing_42 ?_
  refine mvh_hp (R9 := mv_r h) hf r_g9 (fun g11 hf r_g11 => ?_)
  refine mv_aload_n (pc := 43) B d_Program_addThing_43 rfl 0 rfl ?_
  refine mv_dup (pc := 44) B d_Program_addThing_44 rfl ?_
  refine mv_getI (pc := 45) (ci := 7) (C := R_Program) (T := F_Program) (N := 19) B 6 rfl rfl (by decide) i_Program (B.2.2.2.1 _ k_332) rfl d_Program_addThing_45 ?_
  refine mv_iload_n (pc := 48) B d_Program_addThing_48 rfl 2 rfl ?_
  refine mv_if_ne (pc := 49) (tgt := 56) B d_Program_addThing_49 rfl (fun h49 => ?_) (fun h49 => ?_)
  · skip
    have hf := xif_f h49 hf
    refine mv_iload_n (pc := 56) B d_Program_addThing_56 rfl 2 rfl ?_
    refine mv_lpick [0, 2] rfl ?_
    exact jn57 _ _ _ _ r_g11 hf
  · skip
    have hf := xif_t h49 hf
    refine mv_iconst (pc := 52) (v := 1) B d_Program_addThing_52 (by decide) ?_
    refine mv_goto (pc := 53) (tgt := 57) B d_Program_addThing_53 rfl ?_
    refine mv_lpick [0, 2] rfl ?_
    exact jn57 _ _ _ _ r_g11 hf
set_option maxHeartbeats 4000000 in
set_option maxRecDepth 100000 in
theorem ch_Program_addThing_b (l : Launch) {dA : FieldType → ClassId} {D : va_G} {al : Nat → Nat} {ext : mv_Sh} {sk sv : Nat → Nat} (hi : mv_inj (mg dA D al ext)) (h : mv_H) (hb : xRP 48 (mv_r h))  (a0 : Int32) (a1 : Int32) (a2 : Int32) {rg : mv_H} (hf : f_Program_addThing 48 h a0 a1 a2 = some rg) : mv_C l y_Program_addThing (Cond.code y_Program_addThing b_Program_addThing 4 (Option.none : Option Jvm.ClassFile.FieldType) :: ma) ({ frames := 0, cells := 0, slots := 0, locals := 0 }) (mg dA D al ext) (mK sk sv) [.ref (al 48), .int a0, .int a1, .int a2] h (mv_Rv (fun σ1 => rg = σ1 ∧ mv_r σ1 = mv_r h)) := by
  refine mv_C.ofV (cc := b_Program_addThing) (nL := 4) (ret := (Option.none : Option Jvm.ClassFile.FieldType)) (by decide +kernel) rfl hi (Nat.le_of_ble_eq_true rfl) ?_
  intro p e s m below meth c B hNs hr hnm hno
  have jn57 : ∀ (x2 : Int32) (y0 : Int32) (y1 : Int32) (hz : mv_H), mv_r hz = mv_r h → f_Program_addThing_57 48 x2 y0 y1 hz = some rg → mv_V p l e ({ frames := 0, cells := 0, slots := 0, locals := 0 }) s m ([.ref (al 48), .int a0, .int a1, .int a2] : List Value).toArray below meth c (mg dA D al ext) 4 0 0 (mv_Q (mg dA D al ext) below s 0 0 (mv_Rv (fun σ1 => rg = σ1 ∧ mv_r σ1 = mv_r h))) hz 57 [(0, .ref (al 48)), (2, .int x2)] [.int y0, .int y1, .ref (al 48)] := by
    intro x2 y0 y1 hz r_hz hf
    unfold f_Program_addThing_57 at hf
    refine mv_iadd (pc := 57) B d_Program_addThing_57 ?_
    refine mv_putI (pc := 58) (ci := 7) (C := R_Program) (T := F_Program) (N := 19) B 6 rfl rfl (by decide) i_Program t_Program_ok n_Program (B.2.2.2.1 _ k_332) rfl rfl rfl rfl d_Program_addThing_58 ?_
    refine mvh_hp (R9 := mv_r h) hf r_hz (fun g1 hf r_g1 => ?_)
    refine mv_aload_n (pc := 61) B d_Program_addThing_61 rfl 0 rfl ?_
    refine mv_dup (pc := 62) B d_Program_addThing_62 rfl ?_
    refine mv_getI (pc := 63) (ci := 7) (C := R_Program) (T := F_Program) (N := 19) B 7 rfl rfl (by decide) i_Program (B.2.2.2.1 _ k_334) rfl d_Program_addThing_63 ?_
    refine mv_iload_n (pc := 66) B d_Program_addThing_66 rfl 1 rfl ?_
    refine mv_iadd (pc := 67) B d_Program_addThing_67 ?_
    refine mv_putI (pc := 68) (ci := 7) (C := R_Program) (T := F_Program) (N := 19) B 7 rfl rfl (by decide) i_Program t_Program_ok n_Program (B.2.2.2.1 _ k_334) rfl rfl rfl rfl d_Program_addThing_68 ?_
    refine mvh_hp (R9 := mv_r h) hf r_g1 (fun g2 hf r_g2 => ?_)
    refine mv_aload_n (pc := 71) B d_Program_addThing_71 rfl 0 rfl ?_
    refine mv_dup (pc := 72) B d_Program_addThing_72 rfl ?_
    refine mv_getI (pc := 73) (ci := 7) (C := R_Program) (T := F_Program) (N := 19) B 1 rfl rfl (by decide) i_Program (B.2.2.2.1 _ k_315) rfl d_Program_addThing_73 ?_
    refine mv_iconst (pc := 76) (v := 1) B d_Program_addThing_76 (by decide) ?_
    refine mv_iadd (pc := 77) B d_Program_addThing_77 ?_
    refine mv_putI (pc := 78) (ci := 7) (C := R_Program) (T := F_Program) (N := 19) B 1 rfl rfl (by decide) i_Program t_Program_ok n_Program (B.2.2.2.1 _ k_315) rfl rfl rfl rfl d_Program_addThing_78 ?_
    refine mvh_hp (R9 := mv_r h) hf r_g2 (fun g3 hf r_g3 => ?_)
    exact mv_vret (pc := 81) B hr d_Program_addThing_81 (Nat.le_refl _) (Nat.le_refl _) ⟨rfl, xrh_v hf r_g3⟩
  unfold f_Program_addThing at hf
  refine mv_aload_n (pc := 0) B d_Program_addThing_0 rfl 0 rfl ?_
  refine mv_getR (pc := 1) (ci := 7) (C := R_Program) (T := F_Program) (N := 19) B 2 rfl rfl (by decide) i_Program (B.2.2.2.1 _ k_318) rfl (hb.1.2.1 48 2 49 rfl) d_Program_addThing_1 ?_
  refine mv_aload_n (pc := 4) B d_Program_addThing_4 rfl 0 rfl ?_
  refine mv_getI (pc := 5) (ci := 7) (C := R_Program) (T := F_Program) (N := 19) B 1 rfl rfl (by decide) i_Program (B.2.2.2.1 _ k_315) rfl d_Program_addThing_5 ?_
  refine mv_iload_n (pc := 8) B d_Program_addThing_8 rfl 1 rfl ?_
  obtain ⟨q4, hf⟩ := xvi_e hf
  refine mv_iast (pc := 9) B rfl q4 d_Program_addThing_9 ?_
  refine mvh_hp (R9 := mv_r h) hf rfl (fun g5 hf r_g5 => ?_)
  refine mv_aload_n (pc := 10) B d_Program_addThing_10 rfl 0 rfl ?_
  refine mv_getR (pc := 11) (ci := 7) (C := R_Program) (T := F_Program) (N := 19) B 3 rfl rfl (by decide) i_Program (B.2.2.2.1 _ k_323) rfl ((congrFun (congrFun r_g5 48) 3).trans (hb.1.2.1 48 3 50 rfl)) d_Program_addThing_11 ?_
  refine mv_aload_n (pc := 14) B d_Program_addThing_14 rfl 0 rfl ?_
  refine mv_getI (pc := 15) (ci := 7) (C := R_Program) (T := F_Program) (N := 19) B 1 rfl rfl (by decide) i_Program (B.2.2.2.1 _ k_315) rfl d_Program_addThing_15 ?_
  refine mv_iload_n (pc := 18) B d_Program_addThing_18 rfl 2 rfl ?_
  obtain ⟨q6, hf⟩ := xvi_e hf
  refine mv_iast (pc := 19) B rfl q6 d_Program_addThing_19 ?_
  refine mvh_hp (R9 := mv_r h) hf r_g5 (fun g7 hf r_g7 => ?_)
  refine mv_aload_n (pc := 20) B d_Program_addThing_20 rfl 0 rfl ?_
  refine mv_getR (pc := 21) (ci := 7) (C := R_Program) (T := F_Program) (N := 19) B 4 rfl rfl (by decide) i_Program (B.2.2.2.1 _ k_326) rfl ((congrFun (congrFun r_g7 48) 4).trans (hb.1.2.1 48 4 51 rfl)) d_Program_addThing_21 ?_
  refine mv_aload_n (pc := 24) B d_Program_addThing_24 rfl 0 rfl ?_
  refine mv_getI (pc := 25) (ci := 7) (C := R_Program) (T := F_Program) (N := 19) B 1 rfl rfl (by decide) i_Program (B.2.2.2.1 _ k_315) rfl d_Program_addThing_25 ?_
  refine mv_aload_n (pc := 28) B d_Program_addThing_28 rfl 0 rfl ?_
  refine mv_getI (pc := 29) (ci := 7) (C := R_Program) (T := F_Program) (N := 19) B 6 rfl rfl (by decide) i_Program (B.2.2.2.1 _ k_332) rfl d_Program_addThing_29 ?_
  obtain ⟨q8, hf⟩ := xvi_e hf
  refine mv_iast (pc := 32) B rfl q8 d_Program_addThing_32 ?_
  refine mvh_hp (R9 := mv_r h) hf r_g7 (fun g9 hf r_g9 => ?_)
  refine mv_aload_n (pc := 33) B d_Program_addThing_33 rfl 0 rfl ?_
  refine mv_getR (pc := 34) (ci := 7) (C := R_Program) (T := F_Program) (N := 19) B 5 rfl rfl (by decide) i_Program (B.2.2.2.1 _ k_330) rfl ((congrFun (congrFun r_g9 48) 5).trans (hb.1.2.1 48 5 52 rfl)) d_Program_addThing_34 ?_
  refine mv_aload_n (pc := 37) B d_Program_addThing_37 rfl 0 rfl ?_
  refine mv_getI (pc := 38) (ci := 7) (C := R_Program) (T := F_Program) (N := 19) B 1 rfl rfl (by decide) i_Program (B.2.2.2.1 _ k_315) rfl d_Program_addThing_38 ?_
  refine mv_iload_n (pc := 41) B d_Program_addThing_41 rfl 3 rfl ?_
  obtain ⟨q10, hf⟩ := xvi_e hf
  refine mv_zast (pc := 42) B rfl q10 d_Program_addThing_42 ?_
  refine mvh_hp (R9 := mv_r h) hf r_g9 (fun g11 hf r_g11 => ?_)
  refine mv_aload_n (pc := 43) B d_Program_addThing_43 rfl 0 rfl ?_
  refine mv_dup (pc := 44) B d_Program_addThing_44 rfl ?_
  refine mv_getI (pc := 45) (ci := 7) (C := R_Program) (T := F_Program) (N := 19) B 6 rfl rfl (by decide) i_Program (B.2.2.2.1 _ k_332) rfl d_Program_addThing_45 ?_
  refine mv_iload_n (pc := 48) B d_Program_addThing_48 rfl 2 rfl ?_
  refine mv_if_ne (pc := 49) (tgt := 56) B d_Program_addThing_49 rfl (fun h49 => ?_) (fun h49 => ?_)
  · skip
    have hf := xif_f h49 hf
    refine mv_iload_n (pc := 56) B d_Program_addThing_56 rfl 2 rfl ?_
    refine mv_lpick [0, 2] rfl ?_
    exact jn57 _ _ _ _ r_g11 hf
  · skip
    have hf := xif_t h49 hf
    refine mv_iconst (pc := 52) (v := 1) B d_Program_addThing_52 (by decide) ?_
    refine mv_goto (pc := 53) (tgt := 57) B d_Program_addThing_53 rfl ?_
    refine mv_lpick [0, 2] rfl ?_
    exact jn57 _ _ _ _ r_g11 hf
def f_Program_emit_42 (P : Nat) (hz : mv_H) : Option (Int32 × mv_H) := some (((mv_i hz P 17) - (1 : Int32)), hz)
def f_Program_emit (P : Nat) (h : mv_H) (a0 : Int32) (a1 : Int64) : Option (Int32 × mv_H) := if (32768 : Int32) ≤ (mv_i h P 17) then (f_Program_emit_42 P  h) else (bif xvi (mv_i h P 17) 32768 then xk (mv_sa h (P + 9) ((mv_i h P 17)).toNatClampNeg a0) fun g2 => bif xvi (mv_i g2 P 17) 32768 then xk (mv_sb g2 (P + 10) ((mv_i g2 P 17)).toNatClampNeg a1) fun g4 => xk (mv_si g4 P 17 ((mv_i g4 P 17) + (1 : Int32))) fun g5 => f_Program_emit_42 P  g5 else none else none)
set_option maxHeartbeats 4000000 in
set_option maxRecDepth 100000 in
theorem ch_Program_emit_a (l : Launch) {dA : FieldType → ClassId} {D : va_G} {al : Nat → Nat} {ext : mv_Sh} {sk sv : Nat → Nat} (hi : mv_inj (mg dA D al ext)) (h : mv_H) (hb : xRP 32 (mv_r h))  (a0 : Int32) (a1 : Int64) {rv : Int32} {rg : mv_H} (hf : f_Program_emit 32 h a0 a1 = some (rv, rg)) : mv_C l y_Program_emit (Cond.code y_Program_emit b_Program_emit 4 (Option.some Jvm.ClassFile.FieldType.int) :: ma) ({ frames := 0, cells := 0, slots := 0, locals := 0 }) (mg dA D al ext) (mK sk sv) [.ref (al 32), .int a0, .long a1] h (mv_Ri (fun v σ1 => rv = v ∧ rg = σ1 ∧ mv_r σ1 = mv_r h)) := by
  refine mv_C.ofV (cc := b_Program_emit) (nL := 4) (ret := (Option.some Jvm.ClassFile.FieldType.int)) (by decide +kernel) rfl hi (Nat.le_of_ble_eq_true rfl) ?_
  intro p e s m below meth c B hNs hr hnm hno
  have jn42 : ∀ (hz : mv_H), mv_r hz = mv_r h → f_Program_emit_42 32  hz = some (rv, rg) → mv_V p l e ({ frames := 0, cells := 0, slots := 0, locals := 0 }) s m ([.ref (al 32), .int a0, .long a1] : List Value).toArray below meth c (mg dA D al ext) 4 0 0 (mv_Q (mg dA D al ext) below s 0 0 (mv_Ri (fun v σ1 => rv = v ∧ rg = σ1 ∧ mv_r σ1 = mv_r h))) hz 42 [(0, .ref (al 32))] [] := by
    intro  hz r_hz hf
    unfold f_Program_emit_42 at hf
    refine mv_aload_n (pc := 42) B d_Program_emit_42 rfl 0 rfl ?_
    refine mv_getI (pc := 43) (ci := 7) (C := R_Program) (T := F_Program) (N := 19) B 17 rfl rfl (by decide) i_Program (B.2.2.2.1 _ k_361) rfl d_Program_emit_43 ?_
    refine mv_iconst (pc := 46) (v := 1) B d_Program_emit_46 (by decide) ?_
    refine mv_isub (pc := 47) B d_Program_emit_47 ?_
    exact mv_iret (pc := 48) B hr rfl d_Program_emit_48 (Nat.le_refl _) (Nat.le_refl _) ⟨_, rfl, xrh_i hf r_hz⟩
  unfold f_Program_emit at hf
  refine mv_aload_n (pc := 0) B d_Program_emit_0 rfl 0 rfl ?_
  refine mv_getI (pc := 1) (ci := 7) (C := R_Program) (T := F_Program) (N := 19) B 17 rfl rfl (by decide) i_Program (B.2.2.2.1 _ k_361) rfl d_Program_emit_1 ?_
  refine mv_aload_n (pc := 4) B d_Program_emit_4 rfl 0 rfl ?_
  refine mv_getR (pc := 5) (ci := 7) (C := R_Program) (T := F_Program) (N := 19) B 15 rfl rfl (by decide) i_Program (B.2.2.2.1 _ k_357) rfl (hb.1.2.1 32 15 41 rfl) d_Program_emit_5 ?_
  refine mv_alenI (pc := 8) (v := 32768) B rfl rfl d_Program_emit_8 ?_
  refine mv_icmp_ge (pc := 9) (tgt := 42) B d_Program_emit_9 rfl (fun h9 => ?_) (fun h9 => ?_)
  · skip
    have hf := xif_t h9 hf
    refine mv_lpick [0] rfl ?_
    exact jn42  _ rfl hf
  · skip
    have hf := xif_f h9 hf
    refine mv_aload_n (pc := 12) B d_Program_emit_12 rfl 0 rfl ?_
    refine mv_getR (pc := 13) (ci := 7) (C := R_Program) (T := F_Program) (N := 19) B 15 rfl rfl (by decide) i_Program (B.2.2.2.1 _ k_357) rfl (hb.1.2.1 32 15 41 rfl) d_Program_emit_13 ?_
    refine mv_aload_n (pc := 16) B d_Program_emit_16 rfl 0 rfl ?_
    refine mv_getI (pc := 17) (ci := 7) (C := R_Program) (T := F_Program) (N := 19) B 17 rfl rfl (by decide) i_Program (B.2.2.2.1 _ k_361) rfl d_Program_emit_17 ?_
    refine mv_iload_n (pc := 20) B d_Program_emit_20 rfl 1 rfl ?_
    obtain ⟨q1, hf⟩ := xvi_e hf
    refine mv_iast (pc := 21) B rfl q1 d_Program_emit_21 ?_
    refine mvh_hp (R9 := mv_r h) hf rfl (fun g2 hf r_g2 => ?_)
    refine mv_aload_n (pc := 22) B d_Program_emit_22 rfl 0 rfl ?_
    refine mv_getR (pc := 23) (ci := 7) (C := R_Program) (T := F_Program) (N := 19) B 16 rfl rfl (by decide) i_Program (B.2.2.2.1 _ k_359) rfl ((congrFun (congrFun r_g2 32) 16).trans (hb.1.2.1 32 16 42 rfl)) d_Program_emit_23 ?_
    refine mv_aload_n (pc := 26) B d_Program_emit_26 rfl 0 rfl ?_
    refine mv_getI (pc := 27) (ci := 7) (C := R_Program) (T := F_Program) (N := 19) B 17 rfl rfl (by decide) i_Program (B.2.2.2.1 _ k_361) rfl d_Program_emit_27 ?_
    refine mv_lload_n (pc := 30) B d_Program_emit_30 rfl 2 rfl ?_
    obtain ⟨q3, hf⟩ := xvi_e hf
    refine mv_last (pc := 31) B rfl q3 d_Program_emit_31 ?_
    refine mvh_hp (R9 := mv_r h) hf r_g2 (fun g4 hf r_g4 => ?_)
    refine mv_aload_n (pc := 32) B d_Program_emit_32 rfl 0 rfl ?_
    refine mv_dup (pc := 33) B d_Program_emit_33 rfl ?_
    refine mv_getI (pc := 34) (ci := 7) (C := R_Program) (T := F_Program) (N := 19) B 17 rfl rfl (by decide) i_Program (B.2.2.2.1 _ k_361) rfl d_Program_emit_34 ?_
    refine mv_iconst (pc := 37) (v := 1) B d_Program_emit_37 (by decide) ?_
    refine mv_iadd (pc := 38) B d_Program_emit_38 ?_
    refine mv_putI (pc := 39) (ci := 7) (C := R_Program) (T := F_Program) (N := 19) B 17 rfl rfl (by decide) i_Program t_Program_ok n_Program (B.2.2.2.1 _ k_361) rfl rfl rfl rfl d_Program_emit_39 ?_
    refine mvh_hp (R9 := mv_r h) hf r_g4 (fun g5 hf r_g5 => ?_)
    refine mv_lpick [0] rfl ?_
    exact jn42  _ r_g5 hf
set_option maxHeartbeats 4000000 in
set_option maxRecDepth 100000 in
theorem ch_Program_emit_b (l : Launch) {dA : FieldType → ClassId} {D : va_G} {al : Nat → Nat} {ext : mv_Sh} {sk sv : Nat → Nat} (hi : mv_inj (mg dA D al ext)) (h : mv_H) (hb : xRP 48 (mv_r h))  (a0 : Int32) (a1 : Int64) {rv : Int32} {rg : mv_H} (hf : f_Program_emit 48 h a0 a1 = some (rv, rg)) : mv_C l y_Program_emit (Cond.code y_Program_emit b_Program_emit 4 (Option.some Jvm.ClassFile.FieldType.int) :: ma) ({ frames := 0, cells := 0, slots := 0, locals := 0 }) (mg dA D al ext) (mK sk sv) [.ref (al 48), .int a0, .long a1] h (mv_Ri (fun v σ1 => rv = v ∧ rg = σ1 ∧ mv_r σ1 = mv_r h)) := by
  refine mv_C.ofV (cc := b_Program_emit) (nL := 4) (ret := (Option.some Jvm.ClassFile.FieldType.int)) (by decide +kernel) rfl hi (Nat.le_of_ble_eq_true rfl) ?_
  intro p e s m below meth c B hNs hr hnm hno
  have jn42 : ∀ (hz : mv_H), mv_r hz = mv_r h → f_Program_emit_42 48  hz = some (rv, rg) → mv_V p l e ({ frames := 0, cells := 0, slots := 0, locals := 0 }) s m ([.ref (al 48), .int a0, .long a1] : List Value).toArray below meth c (mg dA D al ext) 4 0 0 (mv_Q (mg dA D al ext) below s 0 0 (mv_Ri (fun v σ1 => rv = v ∧ rg = σ1 ∧ mv_r σ1 = mv_r h))) hz 42 [(0, .ref (al 48))] [] := by
    intro  hz r_hz hf
    unfold f_Program_emit_42 at hf
    refine mv_aload_n (pc := 42) B d_Program_emit_42 rfl 0 rfl ?_
    refine mv_getI (pc := 43) (ci := 7) (C := R_Program) (T := F_Program) (N := 19) B 17 rfl rfl (by decide) i_Program (B.2.2.2.1 _ k_361) rfl d_Program_emit_43 ?_
    refine mv_iconst (pc := 46) (v := 1) B d_Program_emit_46 (by decide) ?_
    refine mv_isub (pc := 47) B d_Program_emit_47 ?_
    exact mv_iret (pc := 48) B hr rfl d_Program_emit_48 (Nat.le_refl _) (Nat.le_refl _) ⟨_, rfl, xrh_i hf r_hz⟩
  unfold f_Program_emit at hf
  refine mv_aload_n (pc := 0) B d_Program_emit_0 rfl 0 rfl ?_
  refine mv_getI (pc := 1) (ci := 7) (C := R_Program) (T := F_Program) (N := 19) B 17 rfl rfl (by decide) i_Program (B.2.2.2.1 _ k_361) rfl d_Program_emit_1 ?_
  refine mv_aload_n (pc := 4) B d_Program_emit_4 rfl 0 rfl ?_
  refine mv_getR (pc := 5) (ci := 7) (C := R_Program) (T := F_Program) (N := 19) B 15 rfl rfl (by decide) i_Program (B.2.2.2.1 _ k_357) rfl (hb.1.2.1 48 15 57 rfl) d_Program_emit_5 ?_
  refine mv_alenI (pc := 8) (v := 32768) B rfl rfl d_Program_emit_8 ?_
  refine mv_icmp_ge (pc := 9) (tgt := 42) B d_Program_emit_9 rfl (fun h9 => ?_) (fun h9 => ?_)
  · skip
    have hf := xif_t h9 hf
    refine mv_lpick [0] rfl ?_
    exact jn42  _ rfl hf
  · skip
    have hf := xif_f h9 hf
    refine mv_aload_n (pc := 12) B d_Program_emit_12 rfl 0 rfl ?_
    refine mv_getR (pc := 13) (ci := 7) (C := R_Program) (T := F_Program) (N := 19) B 15 rfl rfl (by decide) i_Program (B.2.2.2.1 _ k_357) rfl (hb.1.2.1 48 15 57 rfl) d_Program_emit_13 ?_
    refine mv_aload_n (pc := 16) B d_Program_emit_16 rfl 0 rfl ?_
    refine mv_getI (pc := 17) (ci := 7) (C := R_Program) (T := F_Program) (N := 19) B 17 rfl rfl (by decide) i_Program (B.2.2.2.1 _ k_361) rfl d_Program_emit_17 ?_
    refine mv_iload_n (pc := 20) B d_Program_emit_20 rfl 1 rfl ?_
    obtain ⟨q1, hf⟩ := xvi_e hf
    refine mv_iast (pc := 21) B rfl q1 d_Program_emit_21 ?_
    refine mvh_hp (R9 := mv_r h) hf rfl (fun g2 hf r_g2 => ?_)
    refine mv_aload_n (pc := 22) B d_Program_emit_22 rfl 0 rfl ?_
    refine mv_getR (pc := 23) (ci := 7) (C := R_Program) (T := F_Program) (N := 19) B 16 rfl rfl (by decide) i_Program (B.2.2.2.1 _ k_359) rfl ((congrFun (congrFun r_g2 48) 16).trans (hb.1.2.1 48 16 58 rfl)) d_Program_emit_23 ?_
    refine mv_aload_n (pc := 26) B d_Program_emit_26 rfl 0 rfl ?_
    refine mv_getI (pc := 27) (ci := 7) (C := R_Program) (T := F_Program) (N := 19) B 17 rfl rfl (by decide) i_Program (B.2.2.2.1 _ k_361) rfl d_Program_emit_27 ?_
    refine mv_lload_n (pc := 30) B d_Program_emit_30 rfl 2 rfl ?_
    obtain ⟨q3, hf⟩ := xvi_e hf
    refine mv_last (pc := 31) B rfl q3 d_Program_emit_31 ?_
    refine mvh_hp (R9 := mv_r h) hf r_g2 (fun g4 hf r_g4 => ?_)
    refine mv_aload_n (pc := 32) B d_Program_emit_32 rfl 0 rfl ?_
    refine mv_dup (pc := 33) B d_Program_emit_33 rfl ?_
    refine mv_getI (pc := 34) (ci := 7) (C := R_Program) (T := F_Program) (N := 19) B 17 rfl rfl (by decide) i_Program (B.2.2.2.1 _ k_361) rfl d_Program_emit_34 ?_
    refine mv_iconst (pc := 37) (v := 1) B d_Program_emit_37 (by decide) ?_
    refine mv_iadd (pc := 38) B d_Program_emit_38 ?_
    refine mv_putI (pc := 39) (ci := 7) (C := R_Program) (T := F_Program) (N := 19) B 17 rfl rfl (by decide) i_Program t_Program_ok n_Program (B.2.2.2.1 _ k_361) rfl rfl rfl rfl d_Program_emit_39 ?_
    refine mvh_hp (R9 := mv_r h) hf r_g4 (fun g5 hf r_g5 => ?_)
    refine mv_lpick [0] rfl ?_
    exact jn42  _ r_g5 hf
def f_Program_aim (P : Nat) (h : mv_H) (a0 : Int32) : Option mv_H := if a0 < (0 : Int32) then (some h) else (bif xvi a0 32768 then xk (mv_sb h (P + 10) (a0).toNatClampNeg (((mv_i h P 17)).toInt64)) fun g2 => some g2 else none)
set_option maxHeartbeats 4000000 in
set_option maxRecDepth 100000 in
theorem ch_Program_aim_a (l : Launch) {dA : FieldType → ClassId} {D : va_G} {al : Nat → Nat} {ext : mv_Sh} {sk sv : Nat → Nat} (hi : mv_inj (mg dA D al ext)) (h : mv_H) (hb : xRP 32 (mv_r h))  (a0 : Int32) {rg : mv_H} (hf : f_Program_aim 32 h a0 = some rg) : mv_C l y_Program_aim (Cond.code y_Program_aim b_Program_aim 2 (Option.none : Option Jvm.ClassFile.FieldType) :: ma) ({ frames := 0, cells := 0, slots := 0, locals := 0 }) (mg dA D al ext) (mK sk sv) [.ref (al 32), .int a0] h (mv_Rv (fun σ1 => rg = σ1 ∧ mv_r σ1 = mv_r h)) := by
  refine mv_C.ofV (cc := b_Program_aim) (nL := 2) (ret := (Option.none : Option Jvm.ClassFile.FieldType)) (by decide +kernel) rfl hi (Nat.le_of_ble_eq_true rfl) ?_
  intro p e s m below meth c B hNs hr hnm hno
  unfold f_Program_aim at hf
  refine mv_iload_n (pc := 0) B d_Program_aim_0 rfl 1 rfl ?_
  refine mv_if_lt (pc := 1) (tgt := 15) B d_Program_aim_1 rfl (fun h1 => ?_) (fun h1 => ?_)
  · skip
    have hf := xif_t h1 hf
    exact mv_vret (pc := 15) B hr d_Program_aim_15 (Nat.le_refl _) (Nat.le_refl _) ⟨rfl, xrh_v hf rfl⟩
  · skip
    have hf := xif_f h1 hf
    refine mv_aload_n (pc := 4) B d_Program_aim_4 rfl 0 rfl ?_
    refine mv_getR (pc := 5) (ci := 7) (C := R_Program) (T := F_Program) (N := 19) B 16 rfl rfl (by decide) i_Program (B.2.2.2.1 _ k_359) rfl (hb.1.2.1 32 16 42 rfl) d_Program_aim_5 ?_
    refine mv_iload_n (pc := 8) B d_Program_aim_8 rfl 1 rfl ?_
    refine mv_aload_n (pc := 9) B d_Program_aim_9 rfl 0 rfl ?_
    refine mv_getI (pc := 10) (ci := 7) (C := R_Program) (T := F_Program) (N := 19) B 17 rfl rfl (by decide) i_Program (B.2.2.2.1 _ k_361) rfl d_Program_aim_10 ?_
    refine mv_i2l (pc := 13) B d_Program_aim_13 ?_
    obtain ⟨q1, hf⟩ := xvi_e hf
    refine mv_last (pc := 14) B rfl q1 d_Program_aim_14 ?_
    refine mvh_hp (R9 := mv_r h) hf rfl (fun g2 hf r_g2 => ?_)
    exact mv_vret (pc := 15) B hr d_Program_aim_15 (Nat.le_refl _) (Nat.le_refl _) ⟨rfl, xrh_v hf r_g2⟩
set_option maxHeartbeats 4000000 in
set_option maxRecDepth 100000 in
theorem ch_Program_aim_b (l : Launch) {dA : FieldType → ClassId} {D : va_G} {al : Nat → Nat} {ext : mv_Sh} {sk sv : Nat → Nat} (hi : mv_inj (mg dA D al ext)) (h : mv_H) (hb : xRP 48 (mv_r h))  (a0 : Int32) {rg : mv_H} (hf : f_Program_aim 48 h a0 = some rg) : mv_C l y_Program_aim (Cond.code y_Program_aim b_Program_aim 2 (Option.none : Option Jvm.ClassFile.FieldType) :: ma) ({ frames := 0, cells := 0, slots := 0, locals := 0 }) (mg dA D al ext) (mK sk sv) [.ref (al 48), .int a0] h (mv_Rv (fun σ1 => rg = σ1 ∧ mv_r σ1 = mv_r h)) := by
  refine mv_C.ofV (cc := b_Program_aim) (nL := 2) (ret := (Option.none : Option Jvm.ClassFile.FieldType)) (by decide +kernel) rfl hi (Nat.le_of_ble_eq_true rfl) ?_
  intro p e s m below meth c B hNs hr hnm hno
  unfold f_Program_aim at hf
  refine mv_iload_n (pc := 0) B d_Program_aim_0 rfl 1 rfl ?_
  refine mv_if_lt (pc := 1) (tgt := 15) B d_Program_aim_1 rfl (fun h1 => ?_) (fun h1 => ?_)
  · skip
    have hf := xif_t h1 hf
    exact mv_vret (pc := 15) B hr d_Program_aim_15 (Nat.le_refl _) (Nat.le_refl _) ⟨rfl, xrh_v hf rfl⟩
  · skip
    have hf := xif_f h1 hf
    refine mv_aload_n (pc := 4) B d_Program_aim_4 rfl 0 rfl ?_
    refine mv_getR (pc := 5) (ci := 7) (C := R_Program) (T := F_Program) (N := 19) B 16 rfl rfl (by decide) i_Program (B.2.2.2.1 _ k_359) rfl (hb.1.2.1 48 16 58 rfl) d_Program_aim_5 ?_
    refine mv_iload_n (pc := 8) B d_Program_aim_8 rfl 1 rfl ?_
    refine mv_aload_n (pc := 9) B d_Program_aim_9 rfl 0 rfl ?_
    refine mv_getI (pc := 10) (ci := 7) (C := R_Program) (T := F_Program) (N := 19) B 17 rfl rfl (by decide) i_Program (B.2.2.2.1 _ k_361) rfl d_Program_aim_10 ?_
    refine mv_i2l (pc := 13) B d_Program_aim_13 ?_
    obtain ⟨q1, hf⟩ := xvi_e hf
    refine mv_last (pc := 14) B rfl q1 d_Program_aim_14 ?_
    refine mvh_hp (R9 := mv_r h) hf rfl (fun g2 hf r_g2 => ?_)
    exact mv_vret (pc := 15) B hr d_Program_aim_15 (Nat.le_refl _) (Nat.le_refl _) ⟨rfl, xrh_v hf r_g2⟩
def fF_Program_aimAll_4 (P : Nat) (k4 : Int32 → Int32 → mv_H → Option mv_H) (x2 : Int32) (x3 : Int32) (hz : mv_H) : Option mv_H := if (mv_i hz P 17) ≤ x3 then (some hz) else (if x2 < (0 : Int32) then (some hz) else (bif xvi x2 32768 then bif xvi x2 32768 then xk (mv_sb hz (P + 10) (x2).toNatClampNeg (((mv_i hz P 17)).toInt64)) fun g3 => k4 (((mv_b hz (P + 10) (x2).toNatClampNeg)).toInt32) (x3 + 1) g3 else none else none))
def f_Program_aimAll_4 (P : Nat) : Nat → Int32 → Int32 → mv_H → Option mv_H
  | 0 => fun _ _ _ => none
  | nn + 1 => fF_Program_aimAll_4 P (f_Program_aimAll_4 P nn)
def f_Program_aimAll (P : Nat) (h : mv_H) (a0 : Int32) : Option mv_H := f_Program_aimAll_4 P 200000 a0 (0 : Int32) h
set_option maxHeartbeats 4000000 in
set_option maxRecDepth 100000 in
theorem ch_Program_aimAll_a (l : Launch) {dA : FieldType → ClassId} {D : va_G} {al : Nat → Nat} {ext : mv_Sh} {sk sv : Nat → Nat} (hi : mv_inj (mg dA D al ext)) (h : mv_H) (hb : xRP 32 (mv_r h))  (a0 : Int32) {rg : mv_H} (hf : f_Program_aimAll 32 h a0 = some rg) : mv_C l y_Program_aimAll (Cond.code y_Program_aimAll b_Program_aimAll 5 (Option.none : Option Jvm.ClassFile.FieldType) :: ma) ({ frames := 0, cells := 0, slots := 0, locals := 0 }) (mg dA D al ext) (mK sk sv) [.ref (al 32), .int a0] h (mv_Rv (fun σ1 => rg = σ1 ∧ mv_r σ1 = mv_r h)) := by
  refine mv_C.ofV (cc := b_Program_aimAll) (nL := 5) (ret := (Option.none : Option Jvm.ClassFile.FieldType)) (by decide +kernel) rfl hi (Nat.le_of_ble_eq_true rfl) ?_
  intro p e s m below meth c B hNs hr hnm hno
  have lp4 : ∀ (nn4 : Nat) (x2 : Int32) (x3 : Int32) (hz : mv_H), mv_r hz = mv_r h → f_Program_aimAll_4 32 nn4 x2 x3 hz = some rg → mv_V p l e ({ frames := 0, cells := 0, slots := 0, locals := 0 }) s m ([.ref (al 32), .int a0] : List Value).toArray below meth c (mg dA D al ext) 5 0 0 (mv_Q (mg dA D al ext) below s 0 0 (mv_Rv (fun σ1 => rg = σ1 ∧ mv_r σ1 = mv_r h))) hz 4 [(0, .ref (al 32)), (2, .int x2), (3, .int x3)] [] := by
    intro nn4
    induction nn4 with
    | zero => intro x2 x3 hz r_hz hf; cases hf
    | succ nn4 ih4 =>
      intro x2 x3 hz r_hz hf
      have hf : fF_Program_aimAll_4 32 (f_Program_aimAll_4 32 nn4) x2 x3 hz = some rg := hf
      unfold fF_Program_aimAll_4 at hf
      refine mv_iload_n (pc := 4) B d_Program_aimAll_4 rfl 2 rfl ?_
      refine mv_aload_n (pc := 5) B d_Program_aimAll_5 rfl 0 rfl ?_
      refine mv_getI (pc := 6) (ci := 7) (C := R_Program) (T := F_Program) (N := 19) B 17 rfl rfl (by decide) i_Program (B.2.2.2.1 _ k_361) rfl d_Program_aimAll_6 ?_
      refine mv_icmp_ge (pc := 9) (tgt := 45) B d_Program_aimAll_9 rfl (fun h9 => ?_) (fun h9 => ?_)
      · skip
        have hf := xif_t h9 hf
        exact mv_vret (pc := 45) B hr d_Program_aimAll_45 (Nat.le_refl _) (Nat.le_refl _) ⟨rfl, xrh_v hf r_hz⟩
      · skip
        have hf := xif_f h9 hf
        refine mv_iload_n (pc := 12) B d_Program_aimAll_12 rfl 1 rfl ?_
        refine mv_if_lt (pc := 13) (tgt := 45) B d_Program_aimAll_13 rfl (fun h13 => ?_) (fun h13 => ?_)
        · skip
          have hf := xif_t h13 hf
          exact mv_vret (pc := 45) B hr d_Program_aimAll_45 (Nat.le_refl _) (Nat.le_refl _) ⟨rfl, xrh_v hf r_hz⟩
        · skip
          have hf := xif_f h13 hf
          refine mv_aload_n (pc := 16) B d_Program_aimAll_16 rfl 0 rfl ?_
          refine mv_getR (pc := 17) (ci := 7) (C := R_Program) (T := F_Program) (N := 19) B 16 rfl rfl (by decide) i_Program (B.2.2.2.1 _ k_359) rfl ((congrFun (congrFun r_hz 32) 16).trans (hb.1.2.1 32 16 42 rfl)) d_Program_aimAll_17 ?_
          refine mv_iload_n (pc := 20) B d_Program_aimAll_20 rfl 1 rfl ?_
          obtain ⟨q1, hf⟩ := xvi_e hf
          refine mv_lald (pc := 21) B rfl q1 d_Program_aimAll_21 ?_
          refine mv_l2i (pc := 22) B d_Program_aimAll_22 ?_
          refine mv_istore (pc := 23) B d_Program_aimAll_23 (by decide) rfl ?_
          refine mv_aload_n (pc := 25) B d_Program_aimAll_25 rfl 1 rfl ?_
          refine mv_getR (pc := 26) (ci := 7) (C := R_Program) (T := F_Program) (N := 19) B 16 rfl rfl (by decide) i_Program (B.2.2.2.1 _ k_359) rfl ((congrFun (congrFun r_hz 32) 16).trans (hb.1.2.1 32 16 42 rfl)) d_Program_aimAll_26 ?_
          refine mv_iload_n (pc := 29) B d_Program_aimAll_29 rfl 2 rfl ?_
          refine mv_aload_n (pc := 30) B d_Program_aimAll_30 rfl 1 rfl ?_
          refine mv_getI (pc := 31) (ci := 7) (C := R_Program) (T := F_Program) (N := 19) B 17 rfl rfl (by decide) i_Program (B.2.2.2.1 _ k_361) rfl d_Program_aimAll_31 ?_
          refine mv_i2l (pc := 34) B d_Program_aimAll_34 ?_
          obtain ⟨q2, hf⟩ := xvi_e hf
          refine mv_last (pc := 35) B rfl q2 d_Program_aimAll_35 ?_
          refine mvh_hp (R9 := mv_r h) hf r_hz (fun g3 hf r_g3 => ?_)
          refine mv_iload (pc := 36) B d_Program_aimAll_36 0 rfl ?_
          refine mv_istore_n (pc := 38) B d_Program_aimAll_38 rfl (by decide) rfl ?_
          refine mv_iinc (pc := 39) (j := 3) (v := 1) B d_Program_aimAll_39 rfl (by decide) (by decide) rfl ?_
          refine mv_goto (pc := 42) (tgt := 4) B d_Program_aimAll_42 rfl ?_
          refine mv_lpick [3, 1, 0] rfl ?_
          exact ih4 _ _ _ r_g3 hf
  unfold f_Program_aimAll at hf
  refine mv_iload_n (pc := 0) B d_Program_aimAll_0 rfl 1 rfl ?_
  refine mv_istore_n (pc := 1) B d_Program_aimAll_1 rfl (by decide) rfl ?_
  refine mv_iconst (pc := 2) (v := 0) B d_Program_aimAll_2 (by decide) ?_
  refine mv_istore_n (pc := 3) B d_Program_aimAll_3 rfl (by decide) rfl ?_
  refine mv_lpick [2, 1, 0] rfl ?_
  exact lp4 _ _ _ _ rfl hf
set_option maxHeartbeats 4000000 in
set_option maxRecDepth 100000 in
theorem ch_Program_aimAll_b (l : Launch) {dA : FieldType → ClassId} {D : va_G} {al : Nat → Nat} {ext : mv_Sh} {sk sv : Nat → Nat} (hi : mv_inj (mg dA D al ext)) (h : mv_H) (hb : xRP 48 (mv_r h))  (a0 : Int32) {rg : mv_H} (hf : f_Program_aimAll 48 h a0 = some rg) : mv_C l y_Program_aimAll (Cond.code y_Program_aimAll b_Program_aimAll 5 (Option.none : Option Jvm.ClassFile.FieldType) :: ma) ({ frames := 0, cells := 0, slots := 0, locals := 0 }) (mg dA D al ext) (mK sk sv) [.ref (al 48), .int a0] h (mv_Rv (fun σ1 => rg = σ1 ∧ mv_r σ1 = mv_r h)) := by
  refine mv_C.ofV (cc := b_Program_aimAll) (nL := 5) (ret := (Option.none : Option Jvm.ClassFile.FieldType)) (by decide +kernel) rfl hi (Nat.le_of_ble_eq_true rfl) ?_
  intro p e s m below meth c B hNs hr hnm hno
  have lp4 : ∀ (nn4 : Nat) (x2 : Int32) (x3 : Int32) (hz : mv_H), mv_r hz = mv_r h → f_Program_aimAll_4 48 nn4 x2 x3 hz = some rg → mv_V p l e ({ frames := 0, cells := 0, slots := 0, locals := 0 }) s m ([.ref (al 48), .int a0] : List Value).toArray below meth c (mg dA D al ext) 5 0 0 (mv_Q (mg dA D al ext) below s 0 0 (mv_Rv (fun σ1 => rg = σ1 ∧ mv_r σ1 = mv_r h))) hz 4 [(0, .ref (al 48)), (2, .int x2), (3, .int x3)] [] := by
    intro nn4
    induction nn4 with
    | zero => intro x2 x3 hz r_hz hf; cases hf
    | succ nn4 ih4 =>
      intro x2 x3 hz r_hz hf
      have hf : fF_Program_aimAll_4 48 (f_Program_aimAll_4 48 nn4) x2 x3 hz = some rg := hf
      unfold fF_Program_aimAll_4 at hf
      refine mv_iload_n (pc := 4) B d_Program_aimAll_4 rfl 2 rfl ?_
      refine mv_aload_n (pc := 5) B d_Program_aimAll_5 rfl 0 rfl ?_
      refine mv_getI (pc := 6) (ci := 7) (C := R_Program) (T := F_Program) (N := 19) B 17 rfl rfl (by decide) i_Program (B.2.2.2.1 _ k_361) rfl d_Program_aimAll_6 ?_
      refine mv_icmp_ge (pc := 9) (tgt := 45) B d_Program_aimAll_9 rfl (fun h9 => ?_) (fun h9 => ?_)
      · skip
        have hf := xif_t h9 hf
        exact mv_vret (pc := 45) B hr d_Program_aimAll_45 (Nat.le_refl _) (Nat.le_refl _) ⟨rfl, xrh_v hf r_hz⟩
      · skip
        have hf := xif_f h9 hf
        refine mv_iload_n (pc := 12) B d_Program_aimAll_12 rfl 1 rfl ?_
        refine mv_if_lt (pc := 13) (tgt := 45) B d_Program_aimAll_13 rfl (fun h13 => ?_) (fun h13 => ?_)
        · skip
          have hf := xif_t h13 hf
          exact mv_vret (pc := 45) B hr d_Program_aimAll_45 (Nat.le_refl _) (Nat.le_refl _) ⟨rfl, xrh_v hf r_hz⟩
        · skip
          have hf := xif_f h13 hf
          refine mv_aload_n (pc := 16) B d_Program_aimAll_16 rfl 0 rfl ?_
          refine mv_getR (pc := 17) (ci := 7) (C := R_Program) (T := F_Program) (N := 19) B 16 rfl rfl (by decide) i_Program (B.2.2.2.1 _ k_359) rfl ((congrFun (congrFun r_hz 48) 16).trans (hb.1.2.1 48 16 58 rfl)) d_Program_aimAll_17 ?_
          refine mv_iload_n (pc := 20) B d_Program_aimAll_20 rfl 1 rfl ?_
          obtain ⟨q1, hf⟩ := xvi_e hf
          refine mv_lald (pc := 21) B rfl q1 d_Program_aimAll_21 ?_
          refine mv_l2i (pc := 22) B d_Program_aimAll_22 ?_
          refine mv_istore (pc := 23) B d_Program_aimAll_23 (by decide) rfl ?_
          refine mv_aload_n (pc := 25) B d_Program_aimAll_25 rfl 1 rfl ?_
          refine mv_getR (pc := 26) (ci := 7) (C := R_Program) (T := F_Program) (N := 19) B 16 rfl rfl (by decide) i_Program (B.2.2.2.1 _ k_359) rfl ((congrFun (congrFun r_hz 48) 16).trans (hb.1.2.1 48 16 58 rfl)) d_Program_aimAll_26 ?_
          refine mv_iload_n (pc := 29) B d_Program_aimAll_29 rfl 2 rfl ?_
          refine mv_aload_n (pc := 30) B d_Program_aimAll_30 rfl 1 rfl ?_
          refine mv_getI (pc := 31) (ci := 7) (C := R_Program) (T := F_Program) (N := 19) B 17 rfl rfl (by decide) i_Program (B.2.2.2.1 _ k_361) rfl d_Program_aimAll_31 ?_
          refine mv_i2l (pc := 34) B d_Program_aimAll_34 ?_
          obtain ⟨q2, hf⟩ := xvi_e hf
          refine mv_last (pc := 35) B rfl q2 d_Program_aimAll_35 ?_
          refine mvh_hp (R9 := mv_r h) hf r_hz (fun g3 hf r_g3 => ?_)
          refine mv_iload (pc := 36) B d_Program_aimAll_36 0 rfl ?_
          refine mv_istore_n (pc := 38) B d_Program_aimAll_38 rfl (by decide) rfl ?_
          refine mv_iinc (pc := 39) (j := 3) (v := 1) B d_Program_aimAll_39 rfl (by decide) (by decide) rfl ?_
          refine mv_goto (pc := 42) (tgt := 4) B d_Program_aimAll_42 rfl ?_
          refine mv_lpick [3, 1, 0] rfl ?_
          exact ih4 _ _ _ r_g3 hf
  unfold f_Program_aimAll at hf
  refine mv_iload_n (pc := 0) B d_Program_aimAll_0 rfl 1 rfl ?_
  refine mv_istore_n (pc := 1) B d_Program_aimAll_1 rfl (by decide) rfl ?_
  refine mv_iconst (pc := 2) (v := 0) B d_Program_aimAll_2 (by decide) ?_
  refine mv_istore_n (pc := 3) B d_Program_aimAll_3 rfl (by decide) rfl ?_
  refine mv_lpick [2, 1, 0] rfl ?_
  exact lp4 _ _ _ _ rfl hf
def f_Program_apart (P : Nat) (h : mv_H) (a0 : Int32) (a1 : Int32) : Option (Int32 × mv_H) := bif xvi a0 512 then bif xvi a1 512 then bif xvi a0 512 then bif xvi a1 512 then if (lg_cmp (((mv_b h (P + 5) (a0).toNatClampNeg) &&& (mv_b h (P + 5) (a1).toNatClampNeg)) &&& ((mv_b h (P + 6) (a0).toNatClampNeg) ^^^ (mv_b h (P + 6) (a1).toNatClampNeg))) (0 : Int64)) = (0 : Int32) then (bif xzb (0 : Int32) then some ((0 : Int32), h) else none) else (bif xzb (1 : Int32) then some ((1 : Int32), h) else none) else none else none else none else none
set_option maxHeartbeats 4000000 in
set_option maxRecDepth 100000 in
theorem ch_Program_apart_a (l : Launch) {dA : FieldType → ClassId} {D : va_G} {al : Nat → Nat} {ext : mv_Sh} {sk sv : Nat → Nat} (hi : mv_inj (mg dA D al ext)) (h : mv_H) (hb : xRP 32 (mv_r h))  (a0 : Int32) (a1 : Int32) {rv : Int32} {rg : mv_H} (hf : f_Program_apart 32 h a0 a1 = some (rv, rg)) : mv_C l y_Program_apart (Cond.code y_Program_apart b_Program_apart 3 (Option.some Jvm.ClassFile.FieldType.boolean) :: ma) ({ frames := 0, cells := 0, slots := 0, locals := 0 }) (mg dA D al ext) (mK sk sv) [.ref (al 32), .int a0, .int a1] h (mv_Ri (fun v σ1 => rv = v ∧ rg = σ1 ∧ mv_r σ1 = mv_r h)) := by
  refine mv_C.ofV (cc := b_Program_apart) (nL := 3) (ret := (Option.some Jvm.ClassFile.FieldType.boolean)) (by decide +kernel) rfl hi (Nat.le_of_ble_eq_true rfl) ?_
  intro p e s m below meth c B hNs hr hnm hno
  unfold f_Program_apart at hf
  refine mv_aload_n (pc := 0) B d_Program_apart_0 rfl 0 rfl ?_
  refine mv_getR (pc := 1) (ci := 7) (C := R_Program) (T := F_Program) (N := 19) B 11 rfl rfl (by decide) i_Program (B.2.2.2.1 _ k_348) rfl (hb.1.2.1 32 11 37 rfl) d_Program_apart_1 ?_
  refine mv_iload_n (pc := 4) B d_Program_apart_4 rfl 1 rfl ?_
  obtain ⟨q1, hf⟩ := xvi_e hf
  refine mv_lald (pc := 5) B rfl q1 d_Program_apart_5 ?_
  refine mv_aload_n (pc := 6) B d_Program_apart_6 rfl 0 rfl ?_
  refine mv_getR (pc := 7) (ci := 7) (C := R_Program) (T := F_Program) (N := 19) B 11 rfl rfl (by decide) i_Program (B.2.2.2.1 _ k_348) rfl (hb.1.2.1 32 11 37 rfl) d_Program_apart_7 ?_
  refine mv_iload_n (pc := 10) B d_Program_apart_10 rfl 2 rfl ?_
  obtain ⟨q2, hf⟩ := xvi_e hf
  refine mv_lald (pc := 11) B rfl q2 d_Program_apart_11 ?_
  refine mv_land (pc := 12) B d_Program_apart_12 ?_
  refine mv_aload_n (pc := 13) B d_Program_apart_13 rfl 0 rfl ?_
  refine mv_getR (pc := 14) (ci := 7) (C := R_Program) (T := F_Program) (N := 19) B 12 rfl rfl (by decide) i_Program (B.2.2.2.1 _ k_351) rfl (hb.1.2.1 32 12 38 rfl) d_Program_apart_14 ?_
  refine mv_iload_n (pc := 17) B d_Program_apart_17 rfl 1 rfl ?_
  obtain ⟨q3, hf⟩ := xvi_e hf
  refine mv_lald (pc := 18) B rfl q3 d_Program_apart_18 ?_
  refine mv_aload_n (pc := 19) B d_Program_apart_19 rfl 0 rfl ?_
  refine mv_getR (pc := 20) (ci := 7) (C := R_Program) (T := F_Program) (N := 19) B 12 rfl rfl (by decide) i_Program (B.2.2.2.1 _ k_351) rfl (hb.1.2.1 32 12 38 rfl) d_Program_apart_20 ?_
  refine mv_iload_n (pc := 23) B d_Program_apart_23 rfl 2 rfl ?_
  obtain ⟨q4, hf⟩ := xvi_e hf
  refine mv_lald (pc := 24) B rfl q4 d_Program_apart_24 ?_
  refine mv_lxor (pc := 25) B d_Program_apart_25 ?_
  refine mv_land (pc := 26) B d_Program_apart_26 ?_
  refine mv_lconst (pc := 27) (v := 0) B d_Program_apart_27 (by decide) ?_
  refine mv_lcmp (pc := 28) B d_Program_apart_28 ?_
  refine mv_if_eq (pc := 29) (tgt := 36) B d_Program_apart_29 rfl (fun h29 => ?_) (fun h29 => ?_)
  · skip
    have hf := xif_t h29 hf
    refine mv_iconst (pc := 36) (v := 0) B d_Program_apart_36 (by decide) ?_
    obtain ⟨q5, hf⟩ := xzb_e hf
    exact mv_iret (pc := 37) B hr (xzb_n q5) d_Program_apart_37 (Nat.le_refl _) (Nat.le_refl _) ⟨_, rfl, xrh_i hf rfl⟩
  · skip
    have hf := xif_f h29 hf
    refine mv_iconst (pc := 32) (v := 1) B d_Program_apart_32 (by decide) ?_
    refine mv_goto (pc := 33) (tgt := 37) B d_Program_apart_33 rfl ?_
    obtain ⟨q6, hf⟩ := xzb_e hf
    exact mv_iret (pc := 37) B hr (xzb_n q6) d_Program_apart_37 (Nat.le_refl _) (Nat.le_refl _) ⟨_, rfl, xrh_i hf rfl⟩
set_option maxHeartbeats 4000000 in
set_option maxRecDepth 100000 in
theorem ch_Program_apart_b (l : Launch) {dA : FieldType → ClassId} {D : va_G} {al : Nat → Nat} {ext : mv_Sh} {sk sv : Nat → Nat} (hi : mv_inj (mg dA D al ext)) (h : mv_H) (hb : xRP 48 (mv_r h))  (a0 : Int32) (a1 : Int32) {rv : Int32} {rg : mv_H} (hf : f_Program_apart 48 h a0 a1 = some (rv, rg)) : mv_C l y_Program_apart (Cond.code y_Program_apart b_Program_apart 3 (Option.some Jvm.ClassFile.FieldType.boolean) :: ma) ({ frames := 0, cells := 0, slots := 0, locals := 0 }) (mg dA D al ext) (mK sk sv) [.ref (al 48), .int a0, .int a1] h (mv_Ri (fun v σ1 => rv = v ∧ rg = σ1 ∧ mv_r σ1 = mv_r h)) := by
  refine mv_C.ofV (cc := b_Program_apart) (nL := 3) (ret := (Option.some Jvm.ClassFile.FieldType.boolean)) (by decide +kernel) rfl hi (Nat.le_of_ble_eq_true rfl) ?_
  intro p e s m below meth c B hNs hr hnm hno
  unfold f_Program_apart at hf
  refine mv_aload_n (pc := 0) B d_Program_apart_0 rfl 0 rfl ?_
  refine mv_getR (pc := 1) (ci := 7) (C := R_Program) (T := F_Program) (N := 19) B 11 rfl rfl (by decide) i_Program (B.2.2.2.1 _ k_348) rfl (hb.1.2.1 48 11 53 rfl) d_Program_apart_1 ?_
  refine mv_iload_n (pc := 4) B d_Program_apart_4 rfl 1 rfl ?_
  obtain ⟨q1, hf⟩ := xvi_e hf
  refine mv_lald (pc := 5) B rfl q1 d_Program_apart_5 ?_
  refine mv_aload_n (pc := 6) B d_Program_apart_6 rfl 0 rfl ?_
  refine mv_getR (pc := 7) (ci := 7) (C := R_Program) (T := F_Program) (N := 19) B 11 rfl rfl (by decide) i_Program (B.2.2.2.1 _ k_348) rfl (hb.1.2.1 48 11 53 rfl) d_Program_apart_7 ?_
  refine mv_iload_n (pc := 10) B d_Program_apart_10 rfl 2 rfl ?_
  obtain ⟨q2, hf⟩ := xvi_e hf
  refine mv_lald (pc := 11) B rfl q2 d_Program_apart_11 ?_
  refine mv_land (pc := 12) B d_Program_apart_12 ?_
  refine mv_aload_n (pc := 13) B d_Program_apart_13 rfl 0 rfl ?_
  refine mv_getR (pc := 14) (ci := 7) (C := R_Program) (T := F_Program) (N := 19) B 12 rfl rfl (by decide) i_Program (B.2.2.2.1 _ k_351) rfl (hb.1.2.1 48 12 54 rfl) d_Program_apart_14 ?_
  refine mv_iload_n (pc := 17) B d_Program_apart_17 rfl 1 rfl ?_
  obtain ⟨q3, hf⟩ := xvi_e hf
  refine mv_lald (pc := 18) B rfl q3 d_Program_apart_18 ?_
  refine mv_aload_n (pc := 19) B d_Program_apart_19 rfl 0 rfl ?_
  refine mv_getR (pc := 20) (ci := 7) (C := R_Program) (T := F_Program) (N := 19) B 12 rfl rfl (by decide) i_Program (B.2.2.2.1 _ k_351) rfl (hb.1.2.1 48 12 54 rfl) d_Program_apart_20 ?_
  refine mv_iload_n (pc := 23) B d_Program_apart_23 rfl 2 rfl ?_
  obtain ⟨q4, hf⟩ := xvi_e hf
  refine mv_lald (pc := 24) B rfl q4 d_Program_apart_24 ?_
  refine mv_lxor (pc := 25) B d_Program_apart_25 ?_
  refine mv_land (pc := 26) B d_Program_apart_26 ?_
  refine mv_lconst (pc := 27) (v := 0) B d_Program_apart_27 (by decide) ?_
  refine mv_lcmp (pc := 28) B d_Program_apart_28 ?_
  refine mv_if_eq (pc := 29) (tgt := 36) B d_Program_apart_29 rfl (fun h29 => ?_) (fun h29 => ?_)
  · skip
    have hf := xif_t h29 hf
    refine mv_iconst (pc := 36) (v := 0) B d_Program_apart_36 (by decide) ?_
    obtain ⟨q5, hf⟩ := xzb_e hf
    exact mv_iret (pc := 37) B hr (xzb_n q5) d_Program_apart_37 (Nat.le_refl _) (Nat.le_refl _) ⟨_, rfl, xrh_i hf rfl⟩
  · skip
    have hf := xif_f h29 hf
    refine mv_iconst (pc := 32) (v := 1) B d_Program_apart_32 (by decide) ?_
    refine mv_goto (pc := 33) (tgt := 37) B d_Program_apart_33 rfl ?_
    obtain ⟨q6, hf⟩ := xzb_e hf
    exact mv_iret (pc := 37) B hr (xzb_n q6) d_Program_apart_37 (Nat.le_refl _) (Nat.le_refl _) ⟨_, rfl, xrh_i hf rfl⟩
def f_Program_addOp_83 (P : Nat) (k8 : Int32 → Int64 → Int64 → Int32 → mv_H → Option mv_H) (x2 : Int32) (x3 : Int64) (x7 : Int32) (y0 : Int32) (y1 : Int64) (hz : mv_H) : Option mv_H := k8 x2 x3 (y1 ||| ((y0).toInt64)) (x7 + 1) hz
def f_Program_addOp_64 (P : Nat) (k8 : Int32 → Int64 → Int64 → Int32 → mv_H → Option mv_H) (x2 : Int32) (x5 : Int64) (x7 : Int32) (x8 : Int32) (y0 : Int32) (y1 : Int64) (hz : mv_H) : Option mv_H := if x8 = (49 : Int32) then (f_Program_addOp_83 P k8 x2 (y1 ||| ((y0).toInt64)) x7 (1 : Int32) (x5 <<< (((1 : Int32)).toInt64 &&& 63)) hz) else (f_Program_addOp_83 P k8 x2 (y1 ||| ((y0).toInt64)) x7 (0 : Int32) (x5 <<< (((1 : Int32)).toInt64 &&& 63)) hz)
def f_Program_addOp_59 (P : Nat) (k8 : Int32 → Int64 → Int64 → Int32 → mv_H → Option mv_H) (x2 : Int32) (x5 : Int64) (x7 : Int32) (x8 : Int32) (y0 : Int64) (hz : mv_H) : Option mv_H := f_Program_addOp_64 P k8 x2 x5 x7 x8 (1 : Int32) y0 hz
def fF_Program_addOp_8 (P : Nat) (k8 : Int32 → Int64 → Int64 → Int32 → mv_H → Option mv_H) (x2 : Int32) (x3 : Int64) (x5 : Int64) (x7 : Int32) (hz : mv_H) : Option mv_H := if (mv_i hz P 0) ≤ x7 then (bif xvi (mv_i hz P 10) 512 then xk (mv_sb hz (P + 5) ((mv_i hz P 10)).toNatClampNeg x3) fun g2 => bif xvi (mv_i g2 P 10) 512 then xk (mv_sb g2 (P + 6) ((mv_i g2 P 10)).toNatClampNeg x5) fun g4 => bif xvi (mv_i g4 P 10) 512 then xk (mv_sa g4 (P + 7) ((mv_i g4 P 10)).toNatClampNeg (mv_i g4 P 17)) fun g6 => xk (mv_si g6 P 10 ((mv_i g6 P 10) + (1 : Int32))) fun g7 => some g7 else none else none else none) else (bif xvi (x2 + x7) 32768 then bif xvi (((mv_i hz P 10) * (64 : Int32)) + x7) 32768 then xk (mv_sa hz (P + 8) ((((mv_i hz P 10) * (64 : Int32)) + x7)).toNatClampNeg (vp_nar .byte (mv_a hz 1 ((x2 + x7)).toNatClampNeg))) fun g10 => if (mv_a hz 1 ((x2 + x7)).toNatClampNeg) = (48 : Int32) then (f_Program_addOp_59 P k8 x2 x5 x7 (mv_a hz 1 ((x2 + x7)).toNatClampNeg) (x3 <<< (((1 : Int32)).toInt64 &&& 63)) g10) else (if (mv_a hz 1 ((x2 + x7)).toNatClampNeg) = (49 : Int32) then (f_Program_addOp_59 P k8 x2 x5 x7 (mv_a hz 1 ((x2 + x7)).toNatClampNeg) (x3 <<< (((1 : Int32)).toInt64 &&& 63)) g10) else (f_Program_addOp_64 P k8 x2 x5 x7 (mv_a hz 1 ((x2 + x7)).toNatClampNeg) (0 : Int32) (x3 <<< (((1 : Int32)).toInt64 &&& 63)) g10)) else none else none)
def f_Program_addOp_8 (P : Nat) : Nat → Int32 → Int64 → Int64 → Int32 → mv_H → Option mv_H
  | 0 => fun _ _ _ _ _ => none
  | nn + 1 => fF_Program_addOp_8 P (f_Program_addOp_8 P nn)
def f_Program_addOp (P : Nat) (h : mv_H) (a1 : Int32) : Option mv_H := f_Program_addOp_8 P 200000 a1 (0 : Int64) (0 : Int64) (0 : Int32) h
set_option maxHeartbeats 4000000 in
set_option maxRecDepth 100000 in
theorem ch_Program_addOp_a (l : Launch) {dA : FieldType → ClassId} {D : va_G} {al : Nat → Nat} {ext : mv_Sh} {sk sv : Nat → Nat} (hi : mv_inj (mg dA D al ext)) (h : mv_H) (hb : xRP 32 (mv_r h))  (a1 : Int32) {rg : mv_H} (hf : f_Program_addOp 32 h a1 = some rg) : mv_C l y_Program_addOp (Cond.code y_Program_addOp b_Program_addOp 9 (Option.none : Option Jvm.ClassFile.FieldType) :: ma) ({ frames := 0, cells := 0, slots := 0, locals := 0 }) (mg dA D al ext) (mK sk sv) [.ref (al 32), .ref (al 1), .int a1] h (mv_Rv (fun σ1 => rg = σ1 ∧ mv_r σ1 = mv_r h)) := by
  refine mv_C.ofV (cc := b_Program_addOp) (nL := 9) (ret := (Option.none : Option Jvm.ClassFile.FieldType)) (by decide +kernel) rfl hi (Nat.le_of_ble_eq_true rfl) ?_
  intro p e s m below meth c B hNs hr hnm hno
  have lp8 : ∀ (nn8 : Nat) (x2 : Int32) (x3 : Int64) (x5 : Int64) (x7 : Int32) (hz : mv_H), mv_r hz = mv_r h → f_Program_addOp_8 32 nn8 x2 x3 x5 x7 hz = some rg → mv_V p l e ({ frames := 0, cells := 0, slots := 0, locals := 0 }) s m ([.ref (al 32), .ref (al 1), .int a1] : List Value).toArray below meth c (mg dA D al ext) 9 0 0 (mv_Q (mg dA D al ext) below s 0 0 (mv_Rv (fun σ1 => rg = σ1 ∧ mv_r σ1 = mv_r h))) hz 8 [(0, .ref (al 32)), (1, .ref (al 1)), (2, .int x2), (3, .long x3), (5, .long x5), (7, .int x7)] [] := by
    intro nn8
    induction nn8 with
    | zero => intro x2 x3 x5 x7 hz r_hz hf; cases hf
    | succ nn8 ih8 =>
      intro x2 x3 x5 x7 hz r_hz hf
      have jn83 : ∀ (x2 : Int32) (x3 : Int64) (x7 : Int32) (y0 : Int32) (y1 : Int64) (hz : mv_H), mv_r hz = mv_r h → f_Program_addOp_83 32 (f_Program_addOp_8 32 nn8) x2 x3 x7 y0 y1 hz = some rg → mv_V p l e ({ frames := 0, cells := 0, slots := 0, locals := 0 }) s m ([.ref (al 32), .ref (al 1), .int a1] : List Value).toArray below meth c (mg dA D al ext) 9 0 0 (mv_Q (mg dA D al ext) below s 0 0 (mv_Rv (fun σ1 => rg = σ1 ∧ mv_r σ1 = mv_r h))) hz 83 [(0, .ref (al 32)), (1, .ref (al 1)), (2, .int x2), (3, .long x3), (7, .int x7)] [.int y0, .long y1] := by
        intro x2 x3 x7 y0 y1 hz r_hz hf
        unfold f_Program_addOp_83 at hf
        refine mv_i2l (pc := 83) B d_Program_addOp_83 ?_
        refine mv_lor (pc := 84) B d_Program_addOp_84 ?_
        refine mv_lstore (pc := 85) B d_Program_addOp_85 (by decide) rfl ?_
        refine mv_iinc (pc := 87) (j := 5) (v := 1) B d_Program_addOp_87 rfl (by decide) (by decide) rfl ?_
        refine mv_goto (pc := 90) (tgt := 8) B d_Program_addOp_90 rfl ?_
        refine mv_lpick [2, 3, 4, 5, 1, 0] rfl ?_
        exact ih8 _ _ _ _ _ r_hz hf
      have jn64 : ∀ (x2 : Int32) (x5 : Int64) (x7 : Int32) (x8 : Int32) (y0 : Int32) (y1 : Int64) (hz : mv_H), mv_r hz = mv_r h → f_Program_addOp_64 32 (f_Program_addOp_8 32 nn8) x2 x5 x7 x8 y0 y1 hz = some rg → mv_V p l e ({ frames := 0, cells := 0, slots := 0, locals := 0 }) s m ([.ref (al 32), .ref (al 1), .int a1] : List Value).toArray below meth c (mg dA D al ext) 9 0 0 (mv_Q (mg dA D al ext) below s 0 0 (mv_Rv (fun σ1 => rg = σ1 ∧ mv_r σ1 = mv_r h))) hz 64 [(0, .ref (al 32)), (1, .ref (al 1)), (2, .int x2), (5, .long x5), (7, .int x7), (8, .int x8)] [.int y0, .long y1] := by
        intro x2 x5 x7 x8 y0 y1 hz r_hz hf
        unfold f_Program_addOp_64 at hf
        refine mv_i2l (pc := 64) B d_Program_addOp_64 ?_
        refine mv_lor (pc := 65) B d_Program_addOp_65 ?_
        refine mv_lstore_n (pc := 66) B d_Program_addOp_66 rfl (by decide) rfl ?_
        refine mv_lload (pc := 67) B d_Program_addOp_67 4 rfl ?_
        refine mv_iconst (pc := 69) (v := 1) B d_Program_addOp_69 (by decide) ?_
        refine mv_lshl (pc := 70) B d_Program_addOp_70 ?_
        refine mv_iload (pc := 71) B d_Program_addOp_71 6 rfl ?_
        refine mv_bipush (pc := 73) (v := 49) B d_Program_addOp_73 (by decide) ?_
        refine mv_icmp_ne (pc := 75) (tgt := 82) B d_Program_addOp_75 rfl (fun h75 => ?_) (fun h75 => ?_)
        · skip
          have hf := xif_f h75 hf
          refine mv_iconst (pc := 82) (v := 0) B d_Program_addOp_82 (by decide) ?_
          refine mv_lpick [1, 2, 3, 0, 5] rfl ?_
          exact jn83 _ _ _ _ _ _ r_hz hf
        · skip
          have hf := xif_t h75 hf
          refine mv_iconst (pc := 78) (v := 1) B d_Program_addOp_78 (by decide) ?_
          refine mv_goto (pc := 79) (tgt := 83) B d_Program_addOp_79 rfl ?_
          refine mv_lpick [1, 2, 3, 0, 5] rfl ?_
          exact jn83 _ _ _ _ _ _ r_hz hf
      have jn59 : ∀ (x2 : Int32) (x5 : Int64) (x7 : Int32) (x8 : Int32) (y0 : Int64) (hz : mv_H), mv_r hz = mv_r h → f_Program_addOp_59 32 (f_Program_addOp_8 32 nn8) x2 x5 x7 x8 y0 hz = some rg → mv_V p l e ({ frames := 0, cells := 0, slots := 0, locals := 0 }) s m ([.ref (al 32), .ref (al 1), .int a1] : List Value).toArray below meth c (mg dA D al ext) 9 0 0 (mv_Q (mg dA D al ext) below s 0 0 (mv_Rv (fun σ1 => rg = σ1 ∧ mv_r σ1 = mv_r h))) hz 59 [(0, .ref (al 32)), (1, .ref (al 1)), (2, .int x2), (5, .long x5), (7, .int x7), (8, .int x8)] [.long y0] := by
        intro x2 x5 x7 x8 y0 hz r_hz hf
        unfold f_Program_addOp_59 at hf
        refine mv_iconst (pc := 59) (v := 1) B d_Program_addOp_59 (by decide) ?_
        refine mv_goto (pc := 60) (tgt := 64) B d_Program_addOp_60 rfl ?_
        refine mv_lpick [0, 1, 2, 3, 4, 5] rfl ?_
        exact jn64 _ _ _ _ _ _ _ r_hz hf
      have hf : fF_Program_addOp_8 32 (f_Program_addOp_8 32 nn8) x2 x3 x5 x7 hz = some rg := hf
      unfold fF_Program_addOp_8 at hf
      refine mv_iload (pc := 8) B d_Program_addOp_8 5 rfl ?_
      refine mv_aload_n (pc := 10) B d_Program_addOp_10 rfl 0 rfl ?_
      refine mv_getI (pc := 11) (ci := 7) (C := R_Program) (T := F_Program) (N := 19) B 0 rfl rfl (by decide) i_Program (B.2.2.2.1 _ k_311) rfl d_Program_addOp_11 ?_
      refine mv_icmp_ge (pc := 14) (tgt := 93) B d_Program_addOp_14 rfl (fun h14 => ?_) (fun h14 => ?_)
      · skip
        have hf := xif_t h14 hf
        refine mv_aload_n (pc := 93) B d_Program_addOp_93 rfl 0 rfl ?_
        refine mv_getR (pc := 94) (ci := 7) (C := R_Program) (T := F_Program) (N := 19) B 11 rfl rfl (by decide) i_Program (B.2.2.2.1 _ k_348) rfl ((congrFun (congrFun r_hz 32) 11).trans (hb.1.2.1 32 11 37 rfl)) d_Program_addOp_94 ?_
        refine mv_aload_n (pc := 97) B d_Program_addOp_97 rfl 0 rfl ?_
        refine mv_getI (pc := 98) (ci := 7) (C := R_Program) (T := F_Program) (N := 19) B 10 rfl rfl (by decide) i_Program (B.2.2.2.1 _ k_345) rfl d_Program_addOp_98 ?_
        refine mv_lload_n (pc := 101) B d_Program_addOp_101 rfl 3 rfl ?_
        obtain ⟨q1, hf⟩ := xvi_e hf
        refine mv_last (pc := 102) B rfl q1 d_Program_addOp_102 ?_
        refine mvh_hp (R9 := mv_r h) hf r_hz (fun g2 hf r_g2 => ?_)
        refine mv_aload_n (pc := 103) B d_Program_addOp_103 rfl 0 rfl ?_
        refine mv_getR (pc := 104) (ci := 7) (C := R_Program) (T := F_Program) (N := 19) B 12 rfl rfl (by decide) i_Program (B.2.2.2.1 _ k_351) rfl ((congrFun (congrFun r_g2 32) 12).trans (hb.1.2.1 32 12 38 rfl)) d_Program_addOp_104 ?_
        refine mv_aload_n (pc := 107) B d_Program_addOp_107 rfl 0 rfl ?_
        refine mv_getI (pc := 108) (ci := 7) (C := R_Program) (T := F_Program) (N := 19) B 10 rfl rfl (by decide) i_Program (B.2.2.2.1 _ k_345) rfl d_Program_addOp_108 ?_
        refine mv_lload (pc := 111) B d_Program_addOp_111 4 rfl ?_
        obtain ⟨q3, hf⟩ := xvi_e hf
        refine mv_last (pc := 113) B rfl q3 d_Program_addOp_113 ?_
        refine mvh_hp (R9 := mv_r h) hf r_g2 (fun g4 hf r_g4 => ?_)
        refine mv_aload_n (pc := 114) B d_Program_addOp_114 rfl 0 rfl ?_
        refine mv_getR (pc := 115) (ci := 7) (C := R_Program) (T := F_Program) (N := 19) B 13 rfl rfl (by decide) i_Program (B.2.2.2.1 _ k_354) rfl ((congrFun (congrFun r_g4 32) 13).trans (hb.1.2.1 32 13 39 rfl)) d_Program_addOp_115 ?_
        refine mv_aload_n (pc := 118) B d_Program_addOp_118 rfl 0 rfl ?_
        refine mv_getI (pc := 119) (ci := 7) (C := R_Program) (T := F_Program) (N := 19) B 10 rfl rfl (by decide) i_Program (B.2.2.2.1 _ k_345) rfl d_Program_addOp_119 ?_
        refine mv_aload_n (pc := 122) B d_Program_addOp_122 rfl 0 rfl ?_
        refine mv_getI (pc := 123) (ci := 7) (C := R_Program) (T := F_Program) (N := 19) B 17 rfl rfl (by decide) i_Program (B.2.2.2.1 _ k_361) rfl d_Program_addOp_123 ?_
        obtain ⟨q5, hf⟩ := xvi_e hf
        refine mv_iast (pc := 126) B rfl q5 d_Program_addOp_126 ?_
        refine mvh_hp (R9 := mv_r h) hf r_g4 (fun g6 hf r_g6 => ?_)
        refine mv_aload_n (pc := 127) B d_Program_addOp_127 rfl 0 rfl ?_
        refine mv_dup (pc := 128) B d_Program_addOp_128 rfl ?_
        refine mv_getI (pc := 129) (ci := 7) (C := R_Program) (T := F_Program) (N := 19) B 10 rfl rfl (by decide) i_Program (B.2.2.2.1 _ k_345) rfl d_Program_addOp_129 ?_
        refine mv_iconst (pc := 132) (v := 1) B d_Program_addOp_132 (by decide) ?_
        refine mv_iadd (pc := 133) B d_Program_addOp_133 ?_
        refine mv_putI (pc := 134) (ci := 7) (C := R_Program) (T := F_Program) (N := 19) B 10 rfl rfl (by decide) i_Program t_Program_ok n_Program (B.2.2.2.1 _ k_345) rfl rfl rfl rfl d_Program_addOp_134 ?_
        refine mvh_hp (R9 := mv_r h) hf r_g6 (fun g7 hf r_g7 => ?_)
        exact mv_vret (pc := 137) B hr d_Program_addOp_137 (Nat.le_refl _) (Nat.le_refl _) ⟨rfl, xrh_v hf r_g7⟩
      · skip
        have hf := xif_f h14 hf
        refine mv_aload_n (pc := 17) B d_Program_addOp_17 rfl 1 rfl ?_
        refine mv_iload_n (pc := 18) B d_Program_addOp_18 rfl 2 rfl ?_
        refine mv_iload (pc := 19) B d_Program_addOp_19 5 rfl ?_
        refine mv_iadd (pc := 21) B d_Program_addOp_21 ?_
        obtain ⟨q8, hf⟩ := xvi_e hf
        refine mv_bald (pc := 22) B rfl q8 d_Program_addOp_22 ?_
        refine mv_istore (pc := 23) B d_Program_addOp_23 (by decide) rfl ?_
        refine mv_aload_n (pc := 25) B d_Program_addOp_25 rfl 1 rfl ?_
        refine mv_getR (pc := 26) (ci := 7) (C := R_Program) (T := F_Program) (N := 19) B 14 rfl rfl (by decide) i_Program (B.2.2.2.1 _ k_356) rfl ((congrFun (congrFun r_hz 32) 14).trans (hb.1.2.1 32 14 40 rfl)) d_Program_addOp_26 ?_
        refine mv_aload_n (pc := 29) B d_Program_addOp_29 rfl 1 rfl ?_
        refine mv_getI (pc := 30) (ci := 7) (C := R_Program) (T := F_Program) (N := 19) B 10 rfl rfl (by decide) i_Program (B.2.2.2.1 _ k_345) rfl d_Program_addOp_30 ?_
        refine mv_bipush (pc := 33) (v := 64) B d_Program_addOp_33 (by decide) ?_
        refine mv_imul (pc := 35) B d_Program_addOp_35 ?_
        refine mv_iload (pc := 36) B d_Program_addOp_36 6 rfl ?_
        refine mv_iadd (pc := 38) B d_Program_addOp_38 ?_
        refine mv_iload (pc := 39) B d_Program_addOp_39 0 rfl ?_
        obtain ⟨q9, hf⟩ := xvi_e hf
        refine mv_bast (pc := 41) B rfl q9 d_Program_addOp_41 ?_
        refine mvh_hp (R9 := mv_r h) hf r_hz (fun g10 hf r_g10 => ?_)
        refine mv_lload_n (pc := 42) B d_Program_addOp_42 rfl 4 rfl ?_
        refine mv_iconst (pc := 43) (v := 1) B d_Program_addOp_43 (by decide) ?_
        refine mv_lshl (pc := 44) B d_Program_addOp_44 ?_
        refine mv_iload (pc := 45) B d_Program_addOp_45 0 rfl ?_
        refine mv_bipush (pc := 47) (v := 48) B d_Program_addOp_47 (by decide) ?_
        refine mv_icmp_eq (pc := 49) (tgt := 59) B d_Program_addOp_49 rfl (fun h49 => ?_) (fun h49 => ?_)
        · skip
          have hf := xif_t h49 hf
          refine mv_lpick [1, 2, 3, 5, 6, 0] rfl ?_
          exact jn59 _ _ _ _ _ _ r_g10 hf
        · skip
          have hf := xif_f h49 hf
          refine mv_iload (pc := 52) B d_Program_addOp_52 0 rfl ?_
          refine mv_bipush (pc := 54) (v := 49) B d_Program_addOp_54 (by decide) ?_
          refine mv_icmp_ne (pc := 56) (tgt := 63) B d_Program_addOp_56 rfl (fun h56 => ?_) (fun h56 => ?_)
          · skip
            have hf := xif_f h56 hf
            refine mv_iconst (pc := 63) (v := 0) B d_Program_addOp_63 (by decide) ?_
            refine mv_lpick [1, 2, 3, 5, 6, 0] rfl ?_
            exact jn64 _ _ _ _ _ _ _ r_g10 hf
          · skip
            have hf := xif_t h56 hf
            refine mv_lpick [1, 2, 3, 5, 6, 0] rfl ?_
            exact jn59 _ _ _ _ _ _ r_g10 hf
  unfold f_Program_addOp at hf
  refine mv_lconst (pc := 0) (v := 0) B d_Program_addOp_0 (by decide) ?_
  refine mv_lstore_n (pc := 1) B d_Program_addOp_1 rfl (by decide) rfl ?_
  refine mv_lconst (pc := 2) (v := 0) B d_Program_addOp_2 (by decide) ?_
  refine mv_lstore (pc := 3) B d_Program_addOp_3 (by decide) rfl ?_
  refine mv_iconst (pc := 5) (v := 0) B d_Program_addOp_5 (by decide) ?_
  refine mv_istore (pc := 6) B d_Program_addOp_6 (by decide) rfl ?_
  refine mv_lpick [3, 4, 5, 2, 1, 0] rfl ?_
  exact lp8 _ _ _ _ _ _ rfl hf
set_option maxHeartbeats 4000000 in
set_option maxRecDepth 100000 in
theorem ch_Program_addOp_b (l : Launch) {dA : FieldType → ClassId} {D : va_G} {al : Nat → Nat} {ext : mv_Sh} {sk sv : Nat → Nat} (hi : mv_inj (mg dA D al ext)) (h : mv_H) (hb : xRP 48 (mv_r h))  (a1 : Int32) {rg : mv_H} (hf : f_Program_addOp 48 h a1 = some rg) : mv_C l y_Program_addOp (Cond.code y_Program_addOp b_Program_addOp 9 (Option.none : Option Jvm.ClassFile.FieldType) :: ma) ({ frames := 0, cells := 0, slots := 0, locals := 0 }) (mg dA D al ext) (mK sk sv) [.ref (al 48), .ref (al 1), .int a1] h (mv_Rv (fun σ1 => rg = σ1 ∧ mv_r σ1 = mv_r h)) := by
  refine mv_C.ofV (cc := b_Program_addOp) (nL := 9) (ret := (Option.none : Option Jvm.ClassFile.FieldType)) (by decide +kernel) rfl hi (Nat.le_of_ble_eq_true rfl) ?_
  intro p e s m below meth c B hNs hr hnm hno
  have lp8 : ∀ (nn8 : Nat) (x2 : Int32) (x3 : Int64) (x5 : Int64) (x7 : Int32) (hz : mv_H), mv_r hz = mv_r h → f_Program_addOp_8 48 nn8 x2 x3 x5 x7 hz = some rg → mv_V p l e ({ frames := 0, cells := 0, slots := 0, locals := 0 }) s m ([.ref (al 48), .ref (al 1), .int a1] : List Value).toArray below meth c (mg dA D al ext) 9 0 0 (mv_Q (mg dA D al ext) below s 0 0 (mv_Rv (fun σ1 => rg = σ1 ∧ mv_r σ1 = mv_r h))) hz 8 [(0, .ref (al 48)), (1, .ref (al 1)), (2, .int x2), (3, .long x3), (5, .long x5), (7, .int x7)] [] := by
    intro nn8
    induction nn8 with
    | zero => intro x2 x3 x5 x7 hz r_hz hf; cases hf
    | succ nn8 ih8 =>
      intro x2 x3 x5 x7 hz r_hz hf
      have jn83 : ∀ (x2 : Int32) (x3 : Int64) (x7 : Int32) (y0 : Int32) (y1 : Int64) (hz : mv_H), mv_r hz = mv_r h → f_Program_addOp_83 48 (f_Program_addOp_8 48 nn8) x2 x3 x7 y0 y1 hz = some rg → mv_V p l e ({ frames := 0, cells := 0, slots := 0, locals := 0 }) s m ([.ref (al 48), .ref (al 1), .int a1] : List Value).toArray below meth c (mg dA D al ext) 9 0 0 (mv_Q (mg dA D al ext) below s 0 0 (mv_Rv (fun σ1 => rg = σ1 ∧ mv_r σ1 = mv_r h))) hz 83 [(0, .ref (al 48)), (1, .ref (al 1)), (2, .int x2), (3, .long x3), (7, .int x7)] [.int y0, .long y1] := by
        intro x2 x3 x7 y0 y1 hz r_hz hf
        unfold f_Program_addOp_83 at hf
        refine mv_i2l (pc := 83) B d_Program_addOp_83 ?_
        refine mv_lor (pc := 84) B d_Program_addOp_84 ?_
        refine mv_lstore (pc := 85) B d_Program_addOp_85 (by decide) rfl ?_
        refine mv_iinc (pc := 87) (j := 5) (v := 1) B d_Program_addOp_87 rfl (by decide) (by decide) rfl ?_
        refine mv_goto (pc := 90) (tgt := 8) B d_Program_addOp_90 rfl ?_
        refine mv_lpick [2, 3, 4, 5, 1, 0] rfl ?_
        exact ih8 _ _ _ _ _ r_hz hf
      have jn64 : ∀ (x2 : Int32) (x5 : Int64) (x7 : Int32) (x8 : Int32) (y0 : Int32) (y1 : Int64) (hz : mv_H), mv_r hz = mv_r h → f_Program_addOp_64 48 (f_Program_addOp_8 48 nn8) x2 x5 x7 x8 y0 y1 hz = some rg → mv_V p l e ({ frames := 0, cells := 0, slots := 0, locals := 0 }) s m ([.ref (al 48), .ref (al 1), .int a1] : List Value).toArray below meth c (mg dA D al ext) 9 0 0 (mv_Q (mg dA D al ext) below s 0 0 (mv_Rv (fun σ1 => rg = σ1 ∧ mv_r σ1 = mv_r h))) hz 64 [(0, .ref (al 48)), (1, .ref (al 1)), (2, .int x2), (5, .long x5), (7, .int x7), (8, .int x8)] [.int y0, .long y1] := by
        intro x2 x5 x7 x8 y0 y1 hz r_hz hf
        unfold f_Program_addOp_64 at hf
        refine mv_i2l (pc := 64) B d_Program_addOp_64 ?_
        refine mv_lor (pc := 65) B d_Program_addOp_65 ?_
        refine mv_lstore_n (pc := 66) B d_Program_addOp_66 rfl (by decide) rfl ?_
        refine mv_lload (pc := 67) B d_Program_addOp_67 4 rfl ?_
        refine mv_iconst (pc := 69) (v := 1) B d_Program_addOp_69 (by decide) ?_
        refine mv_lshl (pc := 70) B d_Program_addOp_70 ?_
        refine mv_iload (pc := 71) B d_Program_addOp_71 6 rfl ?_
        refine mv_bipush (pc := 73) (v := 49) B d_Program_addOp_73 (by decide) ?_
        refine mv_icmp_ne (pc := 75) (tgt := 82) B d_Program_addOp_75 rfl (fun h75 => ?_) (fun h75 => ?_)
        · skip
          have hf := xif_f h75 hf
          refine mv_iconst (pc := 82) (v := 0) B d_Program_addOp_82 (by decide) ?_
          refine mv_lpick [1, 2, 3, 0, 5] rfl ?_
          exact jn83 _ _ _ _ _ _ r_hz hf
        · skip
          have hf := xif_t h75 hf
          refine mv_iconst (pc := 78) (v := 1) B d_Program_addOp_78 (by decide) ?_
          refine mv_goto (pc := 79) (tgt := 83) B d_Program_addOp_79 rfl ?_
          refine mv_lpick [1, 2, 3, 0, 5] rfl ?_
          exact jn83 _ _ _ _ _ _ r_hz hf
      have jn59 : ∀ (x2 : Int32) (x5 : Int64) (x7 : Int32) (x8 : Int32) (y0 : Int64) (hz : mv_H), mv_r hz = mv_r h → f_Program_addOp_59 48 (f_Program_addOp_8 48 nn8) x2 x5 x7 x8 y0 hz = some rg → mv_V p l e ({ frames := 0, cells := 0, slots := 0, locals := 0 }) s m ([.ref (al 48), .ref (al 1), .int a1] : List Value).toArray below meth c (mg dA D al ext) 9 0 0 (mv_Q (mg dA D al ext) below s 0 0 (mv_Rv (fun σ1 => rg = σ1 ∧ mv_r σ1 = mv_r h))) hz 59 [(0, .ref (al 48)), (1, .ref (al 1)), (2, .int x2), (5, .long x5), (7, .int x7), (8, .int x8)] [.long y0] := by
        intro x2 x5 x7 x8 y0 hz r_hz hf
        unfold f_Program_addOp_59 at hf
        refine mv_iconst (pc := 59) (v := 1) B d_Program_addOp_59 (by decide) ?_
        refine mv_goto (pc := 60) (tgt := 64) B d_Program_addOp_60 rfl ?_
        refine mv_lpick [0, 1, 2, 3, 4, 5] rfl ?_
        exact jn64 _ _ _ _ _ _ _ r_hz hf
      have hf : fF_Program_addOp_8 48 (f_Program_addOp_8 48 nn8) x2 x3 x5 x7 hz = some rg := hf
      unfold fF_Program_addOp_8 at hf
      refine mv_iload (pc := 8) B d_Program_addOp_8 5 rfl ?_
      refine mv_aload_n (pc := 10) B d_Program_addOp_10 rfl 0 rfl ?_
      refine mv_getI (pc := 11) (ci := 7) (C := R_Program) (T := F_Program) (N := 19) B 0 rfl rfl (by decide) i_Program (B.2.2.2.1 _ k_311) rfl d_Program_addOp_11 ?_
      refine mv_icmp_ge (pc := 14) (tgt := 93) B d_Program_addOp_14 rfl (fun h14 => ?_) (fun h14 => ?_)
      · skip
        have hf := xif_t h14 hf
        refine mv_aload_n (pc := 93) B d_Program_addOp_93 rfl 0 rfl ?_
        refine mv_getR (pc := 94) (ci := 7) (C := R_Program) (T := F_Program) (N := 19) B 11 rfl rfl (by decide) i_Program (B.2.2.2.1 _ k_348) rfl ((congrFun (congrFun r_hz 48) 11).trans (hb.1.2.1 48 11 53 rfl)) d_Program_addOp_94 ?_
        refine mv_aload_n (pc := 97) B d_Program_addOp_97 rfl 0 rfl ?_
        refine mv_getI (pc := 98) (ci := 7) (C := R_Program) (T := F_Program) (N := 19) B 10 rfl rfl (by decide) i_Program (B.2.2.2.1 _ k_345) rfl d_Program_addOp_98 ?_
        refine mv_lload_n (pc := 101) B d_Program_addOp_101 rfl 3 rfl ?_
        obtain ⟨q1, hf⟩ := xvi_e hf
        refine mv_last (pc := 102) B rfl q1 d_Program_addOp_102 ?_
        refine mvh_hp (R9 := mv_r h) hf r_hz (fun g2 hf r_g2 => ?_)
        refine mv_aload_n (pc := 103) B d_Program_addOp_103 rfl 0 rfl ?_
        refine mv_getR (pc := 104) (ci := 7) (C := R_Program) (T := F_Program) (N := 19) B 12 rfl rfl (by decide) i_Program (B.2.2.2.1 _ k_351) rfl ((congrFun (congrFun r_g2 48) 12).trans (hb.1.2.1 48 12 54 rfl)) d_Program_addOp_104 ?_
        refine mv_aload_n (pc := 107) B d_Program_addOp_107 rfl 0 rfl ?_
        refine mv_getI (pc := 108) (ci := 7) (C := R_Program) (T := F_Program) (N := 19) B 10 rfl rfl (by decide) i_Program (B.2.2.2.1 _ k_345) rfl d_Program_addOp_108 ?_
        refine mv_lload (pc := 111) B d_Program_addOp_111 4 rfl ?_
        obtain ⟨q3, hf⟩ := xvi_e hf
        refine mv_last (pc := 113) B rfl q3 d_Program_addOp_113 ?_
        refine mvh_hp (R9 := mv_r h) hf r_g2 (fun g4 hf r_g4 => ?_)
        refine mv_aload_n (pc := 114) B d_Program_addOp_114 rfl 0 rfl ?_
        refine mv_getR (pc := 115) (ci := 7) (C := R_Program) (T := F_Program) (N := 19) B 13 rfl rfl (by decide) i_Program (B.2.2.2.1 _ k_354) rfl ((congrFun (congrFun r_g4 48) 13).trans (hb.1.2.1 48 13 55 rfl)) d_Program_addOp_115 ?_
        refine mv_aload_n (pc := 118) B d_Program_addOp_118 rfl 0 rfl ?_
        refine mv_getI (pc := 119) (ci := 7) (C := R_Program) (T := F_Program) (N := 19) B 10 rfl rfl (by decide) i_Program (B.2.2.2.1 _ k_345) rfl d_Program_addOp_119 ?_
        refine mv_aload_n (pc := 122) B d_Program_addOp_122 rfl 0 rfl ?_
        refine mv_getI (pc := 123) (ci := 7) (C := R_Program) (T := F_Program) (N := 19) B 17 rfl rfl (by decide) i_Program (B.2.2.2.1 _ k_361) rfl d_Program_addOp_123 ?_
        obtain ⟨q5, hf⟩ := xvi_e hf
        refine mv_iast (pc := 126) B rfl q5 d_Program_addOp_126 ?_
        refine mvh_hp (R9 := mv_r h) hf r_g4 (fun g6 hf r_g6 => ?_)
        refine mv_aload_n (pc := 127) B d_Program_addOp_127 rfl 0 rfl ?_
        refine mv_dup (pc := 128) B d_Program_addOp_128 rfl ?_
        refine mv_getI (pc := 129) (ci := 7) (C := R_Program) (T := F_Program) (N := 19) B 10 rfl rfl (by decide) i_Program (B.2.2.2.1 _ k_345) rfl d_Program_addOp_129 ?_
        refine mv_iconst (pc := 132) (v := 1) B d_Program_addOp_132 (by decide) ?_
        refine mv_iadd (pc := 133) B d_Program_addOp_133 ?_
        refine mv_putI (pc := 134) (ci := 7) (C := R_Program) (T := F_Program) (N := 19) B 10 rfl rfl (by decide) i_Program t_Program_ok n_Program (B.2.2.2.1 _ k_345) rfl rfl rfl rfl d_Program_addOp_134 ?_
        refine mvh_hp (R9 := mv_r h) hf r_g6 (fun g7 hf r_g7 => ?_)
        exact mv_vret (pc := 137) B hr d_Program_addOp_137 (Nat.le_refl _) (Nat.le_refl _) ⟨rfl, xrh_v hf r_g7⟩
      · skip
        have hf := xif_f h14 hf
        refine mv_aload_n (pc := 17) B d_Program_addOp_17 rfl 1 rfl ?_
        refine mv_iload_n (pc := 18) B d_Program_addOp_18 rfl 2 rfl ?_
        refine mv_iload (pc := 19) B d_Program_addOp_19 5 rfl ?_
        refine mv_iadd (pc := 21) B d_Program_addOp_21 ?_
        obtain ⟨q8, hf⟩ := xvi_e hf
        refine mv_bald (pc := 22) B rfl q8 d_Program_addOp_22 ?_
        refine mv_istore (pc := 23) B d_Program_addOp_23 (by decide) rfl ?_
        refine mv_aload_n (pc := 25) B d_Program_addOp_25 rfl 1 rfl ?_
        refine mv_getR (pc := 26) (ci := 7) (C := R_Program) (T := F_Program) (N := 19) B 14 rfl rfl (by decide) i_Program (B.2.2.2.1 _ k_356) rfl ((congrFun (congrFun r_hz 48) 14).trans (hb.1.2.1 48 14 56 rfl)) d_Program_addOp_26 ?_
        refine mv_aload_n (pc := 29) B d_Program_addOp_29 rfl 1 rfl ?_
        refine mv_getI (pc := 30) (ci := 7) (C := R_Program) (T := F_Program) (N := 19) B 10 rfl rfl (by decide) i_Program (B.2.2.2.1 _ k_345) rfl d_Program_addOp_30 ?_
        refine mv_bipush (pc := 33) (v := 64) B d_Program_addOp_33 (by decide) ?_
        refine mv_imul (pc := 35) B d_Program_addOp_35 ?_
        refine mv_iload (pc := 36) B d_Program_addOp_36 6 rfl ?_
        refine mv_iadd (pc := 38) B d_Program_addOp_38 ?_
        refine mv_iload (pc := 39) B d_Program_addOp_39 0 rfl ?_
        obtain ⟨q9, hf⟩ := xvi_e hf
        refine mv_bast (pc := 41) B rfl q9 d_Program_addOp_41 ?_
        refine mvh_hp (R9 := mv_r h) hf r_hz (fun g10 hf r_g10 => ?_)
        refine mv_lload_n (pc := 42) B d_Program_addOp_42 rfl 4 rfl ?_
        refine mv_iconst (pc := 43) (v := 1) B d_Program_addOp_43 (by decide) ?_
        refine mv_lshl (pc := 44) B d_Program_addOp_44 ?_
        refine mv_iload (pc := 45) B d_Program_addOp_45 0 rfl ?_
        refine mv_bipush (pc := 47) (v := 48) B d_Program_addOp_47 (by decide) ?_
        refine mv_icmp_eq (pc := 49) (tgt := 59) B d_Program_addOp_49 rfl (fun h49 => ?_) (fun h49 => ?_)
        · skip
          have hf := xif_t h49 hf
          refine mv_lpick [1, 2, 3, 5, 6, 0] rfl ?_
          exact jn59 _ _ _ _ _ _ r_g10 hf
        · skip
          have hf := xif_f h49 hf
          refine mv_iload (pc := 52) B d_Program_addOp_52 0 rfl ?_
          refine mv_bipush (pc := 54) (v := 49) B d_Program_addOp_54 (by decide) ?_
          refine mv_icmp_ne (pc := 56) (tgt := 63) B d_Program_addOp_56 rfl (fun h56 => ?_) (fun h56 => ?_)
          · skip
            have hf := xif_f h56 hf
            refine mv_iconst (pc := 63) (v := 0) B d_Program_addOp_63 (by decide) ?_
            refine mv_lpick [1, 2, 3, 5, 6, 0] rfl ?_
            exact jn64 _ _ _ _ _ _ _ r_g10 hf
          · skip
            have hf := xif_t h56 hf
            refine mv_lpick [1, 2, 3, 5, 6, 0] rfl ?_
            exact jn59 _ _ _ _ _ _ r_g10 hf
  unfold f_Program_addOp at hf
  refine mv_lconst (pc := 0) (v := 0) B d_Program_addOp_0 (by decide) ?_
  refine mv_lstore_n (pc := 1) B d_Program_addOp_1 rfl (by decide) rfl ?_
  refine mv_lconst (pc := 2) (v := 0) B d_Program_addOp_2 (by decide) ?_
  refine mv_lstore (pc := 3) B d_Program_addOp_3 (by decide) rfl ?_
  refine mv_iconst (pc := 5) (v := 0) B d_Program_addOp_5 (by decide) ?_
  refine mv_istore (pc := 6) B d_Program_addOp_6 (by decide) rfl ?_
  refine mv_lpick [3, 4, 5, 2, 1, 0] rfl ?_
  exact lp8 _ _ _ _ _ _ rfl hf
