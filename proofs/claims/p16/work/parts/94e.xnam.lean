/-! exact runs: Bits, Faults, Names, Program, Tree -/
def g_Bits_mask (h : xE) (a0 : Nat) : Option (Nat × xE) := bif xlt a0 64 then (some ((ysub (yshl 1 a0) 1), h)) else (some (18446744073709551615, h))
set_option maxHeartbeats 4000000 in
set_option maxRecDepth 100000 in
theorem cx_Bits_mask (l : Launch) {dA : FieldType → ClassId} {D : va_G} {al : Nat → Nat} {sk sv : Nat → Nat} (hi : mv_inj (mg dA D al me)) (b : mv_H) (h : xE) (a0 : Nat) {rv : Nat} {rg : xE} (hf : g_Bits_mask h a0 = some (rv, rg)) : mv_C l y_Bits_mask (Cond.code y_Bits_mask b_Bits_mask 1 (Option.some Jvm.ClassFile.FieldType.long) :: ma) ({ frames := 0, cells := 0, slots := 0, locals := 0 }) (mg dA D al me) (mK sk sv) [.int (nI a0)] (ab b h) (mv_Rl (fun v σ1 => v = nJ rv ∧ σ1 = ab b rg)) := by
  refine mv_C.ofV (cc := b_Bits_mask) (nL := 1) (ret := (Option.some Jvm.ClassFile.FieldType.long)) (by decide +kernel) rfl hi (Nat.le_of_ble_eq_true rfl) ?_
  intro p e s m below meth c B hNs hr hnm hno
  unfold g_Bits_mask at hf
  refine mv_iload_n (pc := 0) B d_Bits_mask_0 rfl 0 rfl ?_
  refine mv_bipush (pc := 1) (v := nI 64) B d_Bits_mask_1 (by decide) ?_
  refine mv_icmp_lt (pc := 3) (tgt := 12) B d_Bits_mask_3 rfl (fun h3 => ?_) (fun h3 => ?_)
  · skip
    have hf := x_lt_t h3 hf
    refine mv_lconst (pc := 12) (v := nJ 1) B d_Bits_mask_12 (by decide) ?_
    refine mv_iload_n (pc := 13) B d_Bits_mask_13 rfl 0 rfl ?_
    refine mvn_lshl (pc := 14) B d_Bits_mask_14 ?_
    refine mv_lconst (pc := 15) (v := nJ 1) B d_Bits_mask_15 (by decide) ?_
    refine mvn_lsub (pc := 16) B d_Bits_mask_16 ?_
    exact mv_lret (pc := 17) B hr d_Bits_mask_17 (Nat.le_refl _) (Nat.le_refl _) ⟨_, rfl, xret_l hf⟩
  · skip
    have hf := x_lt_f h3 hf
    refine mv_ldc2 (pc := 6) (v := -1) B (B.2.2.2.1 _ k_1439) d_Bits_mask_6 ?_
    refine mvn_topl (n := 18446744073709551615) (by decide) ?_
    refine mv_goto (pc := 9) (tgt := 17) B d_Bits_mask_9 rfl ?_
    exact mv_lret (pc := 17) B hr d_Bits_mask_17 (Nat.le_refl _) (Nat.le_refl _) ⟨_, rfl, xret_l hf⟩
def g_Bits_below (h : xE) (a0 : Nat) (a1 : Nat) : Option (Nat × xE) := bif xlt (ycmp (Nat.xor a0 9223372036854775808) (Nat.xor a1 9223372036854775808)) 0 then (bif Nat.blt 1 2 then some (1, h) else none) else (bif Nat.blt 0 2 then some (0, h) else none)
set_option maxHeartbeats 4000000 in
set_option maxRecDepth 100000 in
theorem cx_Bits_below (l : Launch) {dA : FieldType → ClassId} {D : va_G} {al : Nat → Nat} {sk sv : Nat → Nat} (hi : mv_inj (mg dA D al me)) (b : mv_H) (h : xE) (a0 : Nat) (a1 : Nat) {rv : Nat} {rg : xE} (hf : g_Bits_below h a0 a1 = some (rv, rg)) : mv_C l y_Bits_below (Cond.code y_Bits_below b_Bits_below 4 (Option.some Jvm.ClassFile.FieldType.boolean) :: ma) ({ frames := 0, cells := 0, slots := 0, locals := 0 }) (mg dA D al me) (mK sk sv) [.long (nJ a0), .long (nJ a1)] (ab b h) (mv_Ri (fun v σ1 => v = nI rv ∧ σ1 = ab b rg)) := by
  refine mv_C.ofV (cc := b_Bits_below) (nL := 4) (ret := (Option.some Jvm.ClassFile.FieldType.boolean)) (by decide +kernel) rfl hi (Nat.le_of_ble_eq_true rfl) ?_
  intro p e s m below meth c B hNs hr hnm hno
  unfold g_Bits_below at hf
  refine mv_lload_n (pc := 0) B d_Bits_below_0 rfl 0 rfl ?_
  refine mv_ldc2 (pc := 1) (v := -9223372036854775808) B (B.2.2.2.1 _ k_1476) d_Bits_below_1 ?_
  refine mvn_topl (n := 9223372036854775808) (by decide) ?_
  refine mvn_lxor (pc := 4) B d_Bits_below_4 ?_
  refine mv_lload_n (pc := 5) B d_Bits_below_5 rfl 1 rfl ?_
  refine mv_ldc2 (pc := 6) (v := -9223372036854775808) B (B.2.2.2.1 _ k_1476) d_Bits_below_6 ?_
  refine mvn_topl (n := 9223372036854775808) (by decide) ?_
  refine mvn_lxor (pc := 9) B d_Bits_below_9 ?_
  refine mvn_lcmp (pc := 10) B d_Bits_below_10 ?_
  refine mv_if_ge (pc := 11) (tgt := 18) B d_Bits_below_11 rfl (fun h11 => ?_) (fun h11 => ?_)
  · skip
    have hf := x_le_t (x := 0) h11 hf
    refine mv_iconst (pc := 18) (v := nI 0) B d_Bits_below_18 (by decide) ?_
    obtain ⟨q1, hf⟩ := xix_e hf
    exact mv_iret (pc := 19) B hr (xz1 q1) d_Bits_below_19 (Nat.le_refl _) (Nat.le_refl _) ⟨_, rfl, xret_i hf⟩
  · skip
    have hf := x_le_f (x := 0) h11 hf
    refine mv_iconst (pc := 14) (v := nI 1) B d_Bits_below_14 (by decide) ?_
    refine mv_goto (pc := 15) (tgt := 19) B d_Bits_below_15 rfl ?_
    obtain ⟨q2, hf⟩ := xix_e hf
    exact mv_iret (pc := 19) B hr (xz1 q2) d_Bits_below_19 (Nat.le_refl _) (Nat.le_refl _) ⟨_, rfl, xret_i hf⟩
def g_Long_bitCount (h : xE) (a0 : Nat) : Option (Nat × xE) := some ((Nat.land ((yadd (yadd (yadd (Nat.land (yadd (yadd (Nat.land (ysub a0 (Nat.land (yshr a0 1) 6148914691236517205)) 3689348814741910323) (Nat.land (yshr (ysub a0 (Nat.land (yshr a0 1) 6148914691236517205)) 2) 3689348814741910323)) (yshr (yadd (Nat.land (ysub a0 (Nat.land (yshr a0 1) 6148914691236517205)) 3689348814741910323) (Nat.land (yshr (ysub a0 (Nat.land (yshr a0 1) 6148914691236517205)) 2) 3689348814741910323)) 4)) 1085102592571150095) (yshr (Nat.land (yadd (yadd (Nat.land (ysub a0 (Nat.land (yshr a0 1) 6148914691236517205)) 3689348814741910323) (Nat.land (yshr (ysub a0 (Nat.land (yshr a0 1) 6148914691236517205)) 2) 3689348814741910323)) (yshr (yadd (Nat.land (ysub a0 (Nat.land (yshr a0 1) 6148914691236517205)) 3689348814741910323) (Nat.land (yshr (ysub a0 (Nat.land (yshr a0 1) 6148914691236517205)) 2) 3689348814741910323)) 4)) 1085102592571150095) 8)) (yshr (yadd (Nat.land (yadd (yadd (Nat.land (ysub a0 (Nat.land (yshr a0 1) 6148914691236517205)) 3689348814741910323) (Nat.land (yshr (ysub a0 (Nat.land (yshr a0 1) 6148914691236517205)) 2) 3689348814741910323)) (yshr (yadd (Nat.land (ysub a0 (Nat.land (yshr a0 1) 6148914691236517205)) 3689348814741910323) (Nat.land (yshr (ysub a0 (Nat.land (yshr a0 1) 6148914691236517205)) 2) 3689348814741910323)) 4)) 1085102592571150095) (yshr (Nat.land (yadd (yadd (Nat.land (ysub a0 (Nat.land (yshr a0 1) 6148914691236517205)) 3689348814741910323) (Nat.land (yshr (ysub a0 (Nat.land (yshr a0 1) 6148914691236517205)) 2) 3689348814741910323)) (yshr (yadd (Nat.land (ysub a0 (Nat.land (yshr a0 1) 6148914691236517205)) 3689348814741910323) (Nat.land (yshr (ysub a0 (Nat.land (yshr a0 1) 6148914691236517205)) 2) 3689348814741910323)) 4)) 1085102592571150095) 8)) 16)) (yshr (yadd (yadd (Nat.land (yadd (yadd (Nat.land (ysub a0 (Nat.land (yshr a0 1) 6148914691236517205)) 3689348814741910323) (Nat.land (yshr (ysub a0 (Nat.land (yshr a0 1) 6148914691236517205)) 2) 3689348814741910323)) (yshr (yadd (Nat.land (ysub a0 (Nat.land (yshr a0 1) 6148914691236517205)) 3689348814741910323) (Nat.land (yshr (ysub a0 (Nat.land (yshr a0 1) 6148914691236517205)) 2) 3689348814741910323)) 4)) 1085102592571150095) (yshr (Nat.land (yadd (yadd (Nat.land (ysub a0 (Nat.land (yshr a0 1) 6148914691236517205)) 3689348814741910323) (Nat.land (yshr (ysub a0 (Nat.land (yshr a0 1) 6148914691236517205)) 2) 3689348814741910323)) (yshr (yadd (Nat.land (ysub a0 (Nat.land (yshr a0 1) 6148914691236517205)) 3689348814741910323) (Nat.land (yshr (ysub a0 (Nat.land (yshr a0 1) 6148914691236517205)) 2) 3689348814741910323)) 4)) 1085102592571150095) 8)) (yshr (yadd (Nat.land (yadd (yadd (Nat.land (ysub a0 (Nat.land (yshr a0 1) 6148914691236517205)) 3689348814741910323) (Nat.land (yshr (ysub a0 (Nat.land (yshr a0 1) 6148914691236517205)) 2) 3689348814741910323)) (yshr (yadd (Nat.land (ysub a0 (Nat.land (yshr a0 1) 6148914691236517205)) 3689348814741910323) (Nat.land (yshr (ysub a0 (Nat.land (yshr a0 1) 6148914691236517205)) 2) 3689348814741910323)) 4)) 1085102592571150095) (yshr (Nat.land (yadd (yadd (Nat.land (ysub a0 (Nat.land (yshr a0 1) 6148914691236517205)) 3689348814741910323) (Nat.land (yshr (ysub a0 (Nat.land (yshr a0 1) 6148914691236517205)) 2) 3689348814741910323)) (yshr (yadd (Nat.land (ysub a0 (Nat.land (yshr a0 1) 6148914691236517205)) 3689348814741910323) (Nat.land (yshr (ysub a0 (Nat.land (yshr a0 1) 6148914691236517205)) 2) 3689348814741910323)) 4)) 1085102592571150095) 8)) 16)) 32)) % 4294967296) 127), h)
set_option maxHeartbeats 4000000 in
set_option maxRecDepth 100000 in
theorem cx_Long_bitCount (l : Launch) {dA : FieldType → ClassId} {D : va_G} {al : Nat → Nat} {sk sv : Nat → Nat} (hi : mv_inj (mg dA D al me)) (b : mv_H) (h : xE) (a0 : Nat) {rv : Nat} {rg : xE} (hf : g_Long_bitCount h a0 = some (rv, rg)) : mv_C l y_Long_bitCount (Cond.code y_Long_bitCount b_Long_bitCount 2 (Option.some Jvm.ClassFile.FieldType.int) :: ma) ({ frames := 0, cells := 0, slots := 0, locals := 0 }) (mg dA D al me) (mK sk sv) [.long (nJ a0)] (ab b h) (mv_Ri (fun v σ1 => v = nI rv ∧ σ1 = ab b rg)) := by
  refine mv_C.ofV (cc := b_Long_bitCount) (nL := 2) (ret := (Option.some Jvm.ClassFile.FieldType.int)) (by decide +kernel) rfl hi (Nat.le_of_ble_eq_true rfl) ?_
  intro p e s m below meth c B hNs hr hnm hno
  unfold g_Long_bitCount at hf
  refine mv_lload_n (pc := 0) B d_Long_bitCount_0 rfl 0 rfl ?_
  refine mv_lload_n (pc := 1) B d_Long_bitCount_1 rfl 0 rfl ?_
  refine mv_iconst (pc := 2) (v := nI 1) B d_Long_bitCount_2 (by decide) ?_
  refine mvn_lushr (pc := 3) B d_Long_bitCount_3 ?_
  refine mv_ldc2 (pc := 4) (v := 6148914691236517205) B (B.2.2.2.1 _ k_426) d_Long_bitCount_4 ?_
  refine mvn_topl (n := 6148914691236517205) (by decide) ?_
  refine mvn_land (pc := 7) B d_Long_bitCount_7 ?_
  refine mvn_lsub (pc := 8) B d_Long_bitCount_8 ?_
  refine mv_lstore_n (pc := 9) B d_Long_bitCount_9 rfl (by decide) rfl ?_
  refine mv_lload_n (pc := 10) B d_Long_bitCount_10 rfl 0 rfl ?_
  refine mv_ldc2 (pc := 11) (v := 3689348814741910323) B (B.2.2.2.1 _ k_427) d_Long_bitCount_11 ?_
  refine mvn_topl (n := 3689348814741910323) (by decide) ?_
  refine mvn_land (pc := 14) B d_Long_bitCount_14 ?_
  refine mv_lload_n (pc := 15) B d_Long_bitCount_15 rfl 0 rfl ?_
  refine mv_iconst (pc := 16) (v := nI 2) B d_Long_bitCount_16 (by decide) ?_
  refine mvn_lushr (pc := 17) B d_Long_bitCount_17 ?_
  refine mv_ldc2 (pc := 18) (v := 3689348814741910323) B (B.2.2.2.1 _ k_427) d_Long_bitCount_18 ?_
  refine mvn_topl (n := 3689348814741910323) (by decide) ?_
  refine mvn_land (pc := 21) B d_Long_bitCount_21 ?_
  refine mvn_ladd (pc := 22) B d_Long_bitCount_22 ?_
  refine mv_lstore_n (pc := 23) B d_Long_bitCount_23 rfl (by decide) rfl ?_
  refine mv_lload_n (pc := 24) B d_Long_bitCount_24 rfl 0 rfl ?_
  refine mv_lload_n (pc := 25) B d_Long_bitCount_25 rfl 0 rfl ?_
  refine mv_iconst (pc := 26) (v := nI 4) B d_Long_bitCount_26 (by decide) ?_
  refine mvn_lushr (pc := 27) B d_Long_bitCount_27 ?_
  refine mvn_ladd (pc := 28) B d_Long_bitCount_28 ?_
  refine mv_ldc2 (pc := 29) (v := 1085102592571150095) B (B.2.2.2.1 _ k_428) d_Long_bitCount_29 ?_
  refine mvn_topl (n := 1085102592571150095) (by decide) ?_
  refine mvn_land (pc := 32) B d_Long_bitCount_32 ?_
  refine mv_lstore_n (pc := 33) B d_Long_bitCount_33 rfl (by decide) rfl ?_
  refine mv_lload_n (pc := 34) B d_Long_bitCount_34 rfl 0 rfl ?_
  refine mv_lload_n (pc := 35) B d_Long_bitCount_35 rfl 0 rfl ?_
  refine mv_bipush (pc := 36) (v := nI 8) B d_Long_bitCount_36 (by decide) ?_
  refine mvn_lushr (pc := 38) B d_Long_bitCount_38 ?_
  refine mvn_ladd (pc := 39) B d_Long_bitCount_39 ?_
  refine mv_lstore_n (pc := 40) B d_Long_bitCount_40 rfl (by decide) rfl ?_
  refine mv_lload_n (pc := 41) B d_Long_bitCount_41 rfl 0 rfl ?_
  refine mv_lload_n (pc := 42) B d_Long_bitCount_42 rfl 0 rfl ?_
  refine mv_bipush (pc := 43) (v := nI 16) B d_Long_bitCount_43 (by decide) ?_
  refine mvn_lushr (pc := 45) B d_Long_bitCount_45 ?_
  refine mvn_ladd (pc := 46) B d_Long_bitCount_46 ?_
  refine mv_lstore_n (pc := 47) B d_Long_bitCount_47 rfl (by decide) rfl ?_
  refine mv_lload_n (pc := 48) B d_Long_bitCount_48 rfl 0 rfl ?_
  refine mv_lload_n (pc := 49) B d_Long_bitCount_49 rfl 0 rfl ?_
  refine mv_bipush (pc := 50) (v := nI 32) B d_Long_bitCount_50 (by decide) ?_
  refine mvn_lushr (pc := 52) B d_Long_bitCount_52 ?_
  refine mvn_ladd (pc := 53) B d_Long_bitCount_53 ?_
  refine mv_lstore_n (pc := 54) B d_Long_bitCount_54 rfl (by decide) rfl ?_
  refine mv_lload_n (pc := 55) B d_Long_bitCount_55 rfl 0 rfl ?_
  refine mvn_l2i (pc := 56) B d_Long_bitCount_56 ?_
  refine mv_bipush (pc := 57) (v := nI 127) B d_Long_bitCount_57 (by decide) ?_
  refine mvn_iand (pc := 59) B d_Long_bitCount_59 ?_
  exact mv_iret (pc := 60) B hr rfl d_Long_bitCount_60 (Nat.le_refl _) (Nat.le_refl _) ⟨_, rfl, xret_i hf⟩
def g_Faults_clear (h : xE) : Option xE := xwi h 15 0 fun h1 => xwi h1 16 4294967295 fun h2 => some h2
set_option maxHeartbeats 4000000 in
set_option maxRecDepth 100000 in
theorem cx_Faults_clear (l : Launch) {dA : FieldType → ClassId} {D : va_G} {al : Nat → Nat} {sk sv : Nat → Nat} (hi : mv_inj (mg dA D al me)) (b : mv_H) (h : xE) {rg : xE} (hf : g_Faults_clear h = some rg) : mv_C l y_Faults_clear (Cond.code y_Faults_clear b_Faults_clear 1 (Option.none : Option Jvm.ClassFile.FieldType) :: ma) ({ frames := 0, cells := 0, slots := 0, locals := 0 }) (mg dA D al me) (mK sk sv) [.ref (al 21)] (ab b h) (mv_Rv (fun σ1 => σ1 = ab b rg)) := by
  refine mv_C.ofV (cc := b_Faults_clear) (nL := 1) (ret := (Option.none : Option Jvm.ClassFile.FieldType)) (by decide +kernel) rfl hi (Nat.le_of_ble_eq_true rfl) ?_
  intro p e s m below meth c B hNs hr hnm hno
  unfold g_Faults_clear at hf
  refine mv_aload_n (pc := 0) B d_Faults_clear_0 rfl 0 rfl ?_
  refine mv_iconst (pc := 1) (v := nI 0) B d_Faults_clear_1 (by decide) ?_
  refine mv_putI (pc := 2) (ci := 5) (C := R_Faults) (T := F_Faults) (N := 2) B 0 rfl rfl (by decide) i_Faults t_Faults_ok n_Faults (B.2.2.2.1 _ k_177) rfl rfl rfl rfl d_Faults_clear_2 ?_
  refine mvn_hp (xwi_21_0 _ _ _) (xwi_f hf) (fun h1 hf => ?_)
  refine mv_aload_n (pc := 5) B d_Faults_clear_5 rfl 0 rfl ?_
  refine mv_iconst (pc := 6) (v := nI 4294967295) B d_Faults_clear_6 (by decide) ?_
  refine mv_putI (pc := 7) (ci := 5) (C := R_Faults) (T := F_Faults) (N := 2) B 1 rfl rfl (by decide) i_Faults t_Faults_ok n_Faults (B.2.2.2.1 _ k_180) rfl rfl rfl rfl d_Faults_clear_7 ?_
  refine mvn_hp (xwi_21_1 _ _ _) (xwi_f hf) (fun h2 hf => ?_)
  exact mv_vret (pc := 10) B hr d_Faults_clear_10 (Nat.le_refl _) (Nat.le_refl _) ⟨rfl, xret_v hf⟩
def g_Faults_tell_31 (x1 : Nat) (x2 : Nat) (h : xE) : Option xE := xwi h 15 x2 fun h1 => xwi h1 16 x1 fun h2 => some h2
def g_Faults_tell (h : xE) (a0 : Nat) (a1 : Nat) : Option xE := xer (ep_g h.1 15) fun v3 => bif xeq v3 0 then (g_Faults_tell_31 a0 a1 h) else (xer (ep_g h.1 16) fun v4 => bif xlt a0 v4 then (g_Faults_tell_31 a0 a1 h) else (xer (ep_g h.1 16) fun v5 => bif xeq a0 v5 then (xer (ep_g h.1 15) fun v6 => bif xlt a1 v6 then (g_Faults_tell_31 a0 a1 h) else (some h)) else (some h)))
set_option maxHeartbeats 4000000 in
set_option maxRecDepth 100000 in
theorem cx_Faults_tell (l : Launch) {dA : FieldType → ClassId} {D : va_G} {al : Nat → Nat} {sk sv : Nat → Nat} (hi : mv_inj (mg dA D al me)) (b : mv_H) (h : xE) (a0 : Nat) (a1 : Nat) {rg : xE} (hf : g_Faults_tell h a0 a1 = some rg) : mv_C l y_Faults_tell (Cond.code y_Faults_tell b_Faults_tell 3 (Option.none : Option Jvm.ClassFile.FieldType) :: ma) ({ frames := 0, cells := 0, slots := 0, locals := 0 }) (mg dA D al me) (mK sk sv) [.ref (al 21), .int (nI a0), .int (nI a1)] (ab b h) (mv_Rv (fun σ1 => σ1 = ab b rg)) := by
  refine mv_C.ofV (cc := b_Faults_tell) (nL := 3) (ret := (Option.none : Option Jvm.ClassFile.FieldType)) (by decide +kernel) rfl hi (Nat.le_of_ble_eq_true rfl) ?_
  intro p e s m below meth c B hNs hr hnm hno
  have jn31 : ∀ (x1 : Nat) (x2 : Nat) (h : xE), g_Faults_tell_31 x1 x2 h = some rg → mv_V p l e ({ frames := 0, cells := 0, slots := 0, locals := 0 }) s m ([.ref (al 21), .int (nI a0), .int (nI a1)] : List Value).toArray below meth c (mg dA D al me) 3 0 0 (mv_Q (mg dA D al me) below s 0 0 (mv_Rv (fun σ1 => σ1 = ab b rg))) (ab b h) 31 [(0, .ref (al 21)), (1, .int (nI x1)), (2, .int (nI x2))] [] := by
    intro x1 x2 h hf
    unfold g_Faults_tell_31 at hf
    refine mv_aload_n (pc := 31) B d_Faults_tell_31 rfl 0 rfl ?_
    refine mv_iload_n (pc := 32) B d_Faults_tell_32 rfl 2 rfl ?_
    refine mv_putI (pc := 33) (ci := 5) (C := R_Faults) (T := F_Faults) (N := 2) B 0 rfl rfl (by decide) i_Faults t_Faults_ok n_Faults (B.2.2.2.1 _ k_177) rfl rfl rfl rfl d_Faults_tell_33 ?_
    refine mvn_hp (xwi_21_0 _ _ _) (xwi_f hf) (fun h1 hf => ?_)
    refine mv_aload_n (pc := 36) B d_Faults_tell_36 rfl 0 rfl ?_
    refine mv_iload_n (pc := 37) B d_Faults_tell_37 rfl 1 rfl ?_
    refine mv_putI (pc := 38) (ci := 5) (C := R_Faults) (T := F_Faults) (N := 2) B 1 rfl rfl (by decide) i_Faults t_Faults_ok n_Faults (B.2.2.2.1 _ k_180) rfl rfl rfl rfl d_Faults_tell_38 ?_
    refine mvn_hp (xwi_21_1 _ _ _) (xwi_f hf) (fun h2 hf => ?_)
    exact mv_vret (pc := 41) B hr d_Faults_tell_41 (Nat.le_refl _) (Nat.le_refl _) ⟨rfl, xret_v hf⟩
  unfold g_Faults_tell at hf
  refine mv_aload_n (pc := 0) B d_Faults_tell_0 rfl 0 rfl ?_
  refine mv_getI (pc := 1) (ci := 5) (C := R_Faults) (T := F_Faults) (N := 2) B 0 rfl rfl (by decide) i_Faults (B.2.2.2.1 _ k_177) rfl d_Faults_tell_1 ?_
  obtain ⟨v3, ev3, hf⟩ := xer_e hf
  refine mvn_top (xfi_21_0 ev3) ?_
  refine mv_if_eq (pc := 4) (tgt := 31) B d_Faults_tell_4 rfl (fun h4 => ?_) (fun h4 => ?_)
  · skip
    have hf := x_eq_t (y := 0) h4 hf
    refine mv_lpick [0, 1, 2] rfl ?_
    exact jn31 _ _ _ hf
  · skip
    have hf := x_eq_f (y := 0) h4 hf
    refine mv_iload_n (pc := 7) B d_Faults_tell_7 rfl 1 rfl ?_
    refine mv_aload_n (pc := 8) B d_Faults_tell_8 rfl 0 rfl ?_
    refine mv_getI (pc := 9) (ci := 5) (C := R_Faults) (T := F_Faults) (N := 2) B 1 rfl rfl (by decide) i_Faults (B.2.2.2.1 _ k_180) rfl d_Faults_tell_9 ?_
    obtain ⟨v4, ev4, hf⟩ := xer_e hf
    refine mvn_top (xfi_21_1 ev4) ?_
    refine mv_icmp_lt (pc := 12) (tgt := 31) B d_Faults_tell_12 rfl (fun h12 => ?_) (fun h12 => ?_)
    · skip
      have hf := x_lt_t h12 hf
      refine mv_lpick [0, 1, 2] rfl ?_
      exact jn31 _ _ _ hf
    · skip
      have hf := x_lt_f h12 hf
      refine mv_iload_n (pc := 15) B d_Faults_tell_15 rfl 1 rfl ?_
      refine mv_aload_n (pc := 16) B d_Faults_tell_16 rfl 0 rfl ?_
      refine mv_getI (pc := 17) (ci := 5) (C := R_Faults) (T := F_Faults) (N := 2) B 1 rfl rfl (by decide) i_Faults (B.2.2.2.1 _ k_180) rfl d_Faults_tell_17 ?_
      obtain ⟨v5, ev5, hf⟩ := xer_e hf
      refine mvn_top (xfi_21_1 ev5) ?_
      refine mv_icmp_ne (pc := 20) (tgt := 41) B d_Faults_tell_20 rfl (fun h20 => ?_) (fun h20 => ?_)
      · skip
        have hf := x_eq_f h20 hf
        exact mv_vret (pc := 41) B hr d_Faults_tell_41 (Nat.le_refl _) (Nat.le_refl _) ⟨rfl, xret_v hf⟩
      · skip
        have hf := x_eq_t h20 hf
        refine mv_iload_n (pc := 23) B d_Faults_tell_23 rfl 2 rfl ?_
        refine mv_aload_n (pc := 24) B d_Faults_tell_24 rfl 0 rfl ?_
        refine mv_getI (pc := 25) (ci := 5) (C := R_Faults) (T := F_Faults) (N := 2) B 0 rfl rfl (by decide) i_Faults (B.2.2.2.1 _ k_177) rfl d_Faults_tell_25 ?_
        obtain ⟨v6, ev6, hf⟩ := xer_e hf
        refine mvn_top (xfi_21_0 ev6) ?_
        refine mv_icmp_ge (pc := 28) (tgt := 41) B d_Faults_tell_28 rfl (fun h28 => ?_) (fun h28 => ?_)
        · skip
          have hf := x_le_t h28 hf
          exact mv_vret (pc := 41) B hr d_Faults_tell_41 (Nat.le_refl _) (Nat.le_refl _) ⟨rfl, xret_v hf⟩
        · skip
          have hf := x_le_f h28 hf
          refine mv_lpick [0, 1, 2] rfl ?_
          exact jn31 _ _ _ hf
def g_Names_know (h : xE) (a0 : Nat) (a1 : Nat) (a2 : Nat) : Option xE := bif Nat.blt a0 16448 then xw xL_14 xS_14 h a0 a1 fun h2 => bif Nat.blt a0 16448 then xw xL_15 xS_15 h2 a0 a2 fun h4 => some h4 else none else none
set_option maxHeartbeats 4000000 in
set_option maxRecDepth 100000 in
theorem cx_Names_know (l : Launch) {dA : FieldType → ClassId} {D : va_G} {al : Nat → Nat} {sk sv : Nat → Nat} (hi : mv_inj (mg dA D al me)) (b : mv_H) (hb : xR (mv_r b)) (h : xE) (a0 : Nat) (a1 : Nat) (a2 : Nat) {rg : xE} (hf : g_Names_know h a0 a1 a2 = some rg) : mv_C l y_Names_know (Cond.code y_Names_know b_Names_know 4 (Option.none : Option Jvm.ClassFile.FieldType) :: ma) ({ frames := 0, cells := 0, slots := 0, locals := 0 }) (mg dA D al me) (mK sk sv) [.ref (al 13), .int (nI a0), .int (nI a1), .int (nI a2)] (ab b h) (mv_Rv (fun σ1 => σ1 = ab b rg)) := by
  refine mv_C.ofV (cc := b_Names_know) (nL := 4) (ret := (Option.none : Option Jvm.ClassFile.FieldType)) (by decide +kernel) rfl hi (Nat.le_of_ble_eq_true rfl) ?_
  intro p e s m below meth c B hNs hr hnm hno
  unfold g_Names_know at hf
  refine mv_aload_n (pc := 0) B d_Names_know_0 rfl 0 rfl ?_
  refine mv_getR (pc := 1) (ci := 4) (C := R_Names) (T := F_Names) (N := 10) B 1 rfl rfl (by decide) i_Names (B.2.2.2.1 _ k_135) rfl (hb.1.1 13 1 _ rfl) d_Names_know_1 ?_
  refine mv_iload_n (pc := 4) B d_Names_know_4 rfl 1 rfl ?_
  refine mv_iload_n (pc := 5) B d_Names_know_5 rfl 2 rfl ?_
  obtain ⟨q1, hf⟩ := xix_e hf
  refine mv_iast (pc := 6) B rfl (xin q1 (by decide)) d_Names_know_6 ?_
  refine mvn_hp (xwa_14 _ _ _ q1) (xw_f xLe_14 xSe_14 hf) (fun h2 hf => ?_)
  refine mv_aload_n (pc := 7) B d_Names_know_7 rfl 0 rfl ?_
  refine mv_getR (pc := 8) (ci := 4) (C := R_Names) (T := F_Names) (N := 10) B 2 rfl rfl (by decide) i_Names (B.2.2.2.1 _ k_136) rfl (hb.1.1 13 2 _ rfl) d_Names_know_8 ?_
  refine mv_iload_n (pc := 11) B d_Names_know_11 rfl 1 rfl ?_
  refine mv_iload_n (pc := 12) B d_Names_know_12 rfl 3 rfl ?_
  obtain ⟨q3, hf⟩ := xix_e hf
  refine mv_iast (pc := 13) B rfl (xin q3 (by decide)) d_Names_know_13 ?_
  refine mvn_hp (xwa_15 _ _ _ q3) (xw_f xLe_15 xSe_15 hf) (fun h4 hf => ?_)
  exact mv_vret (pc := 14) B hr d_Names_know_14 (Nat.le_refl _) (Nat.le_refl _) ⟨rfl, xret_v hf⟩
def g_Names_kindOf (h : xE) (a0 : Nat) : Option (Nat × xE) := xeb (g_Symbols_letter h a0) fun v2 h1 => bif Nat.blt v2 128 then xer (ep_g (xL_17 h1.2) v2) fun v4 => bif xlt 0 v4 then (some (4, h1)) else (bif Nat.blt a0 16448 then xer (ep_g (xL_14 h1.2) a0) fun v6 => some (v6, h1) else none) else none
set_option maxHeartbeats 4000000 in
set_option maxRecDepth 100000 in
theorem cx_Names_kindOf (l : Launch) {dA : FieldType → ClassId} {D : va_G} {al : Nat → Nat} {sk sv : Nat → Nat} (hi : mv_inj (mg dA D al me)) (b : mv_H) (hb : xR (mv_r b)) (h : xE) (a0 : Nat) {rv : Nat} {rg : xE} (hf : g_Names_kindOf h a0 = some (rv, rg)) : mv_C l y_Names_kindOf (Cond.code y_Names_kindOf b_Names_kindOf 2 (Option.some Jvm.ClassFile.FieldType.int) :: ma) ({ frames := 1, cells := 0, slots := 0, locals := 22 }) (mg dA D al me) (mK sk sv) [.ref (al 13), .int (nI a0)] (ab b h) (mv_Ri (fun v σ1 => v = nI rv ∧ σ1 = ab b rg)) := by
  refine mv_C.ofV (cc := b_Names_kindOf) (nL := 2) (ret := (Option.some Jvm.ClassFile.FieldType.int)) (by decide +kernel) rfl hi (Nat.le_of_ble_eq_true rfl) ?_
  intro p e s m below meth c B hNs hr hnm hno
  unfold g_Names_kindOf at hf
  refine mv_aload_n (pc := 0) B d_Names_kindOf_0 rfl 0 rfl ?_
  refine mv_getR (pc := 1) (ci := 4) (C := R_Names) (T := F_Names) (N := 10) B 4 rfl rfl (by decide) i_Names (B.2.2.2.1 _ k_141) rfl (hb.1.1 13 4 _ rfl) d_Names_kindOf_1 ?_
  refine mv_aload_n (pc := 4) B d_Names_kindOf_4 rfl 0 rfl ?_
  refine mv_getR (pc := 5) (ci := 4) (C := R_Names) (T := F_Names) (N := 10) B 0 rfl rfl (by decide) i_Names (B.2.2.2.1 _ k_134) rfl (hb.1.1 13 0 _ rfl) d_Names_kindOf_5 ?_
  refine mv_iload_n (pc := 8) B d_Names_kindOf_8 rfl 1 rfl ?_
  obtain ⟨v2, h1, eh1, hf⟩ := xeb_e hf
  refine mv_callVi (pc := 9) (n := 1) (ci := 3) (C := R_Symbols) B (mK_ok sk sv) hNs rfl rfl (cx_Symbols_letter l hi _ hb _ _ eh1) rfl (ma_goodc kc_Symbols_letter) (B.2.2.2.1 _ k_1320) (B.2.2.2.1 _ k_1321) (B.2.2.2.1 _ k_1322) (B.2.2.2.1 _ k_4) ⟨by decide +kernel, by decide +kernel, by decide +kernel⟩ rfl d_Names_kindOf_9 rfl (Nat.le_of_ble_eq_true rfl) ⟨by decide, by decide⟩ ⟨by decide, by decide⟩ ⟨by decide, by decide⟩ (mv_noH hno _) (fun w9 σ9 h9 => ?_)
  obtain ⟨rfl, rfl⟩ := h9
  obtain ⟨q3, hf⟩ := xix_e hf
  refine mv_iald (pc := 12) B rfl (xin q3 (by decide)) d_Names_kindOf_12 ?_
  obtain ⟨v4, ev4, hf⟩ := xer_e hf
  refine mvn_top (xfa_17 q3 ev4) ?_
  refine mv_if_le (pc := 13) (tgt := 20) B d_Names_kindOf_13 rfl (fun h13 => ?_) (fun h13 => ?_)
  · skip
    have hf := x_le_t (y := 0) h13 hf
    refine mv_aload_n (pc := 20) B d_Names_kindOf_20 rfl 0 rfl ?_
    refine mv_getR (pc := 21) (ci := 4) (C := R_Names) (T := F_Names) (N := 10) B 1 rfl rfl (by decide) i_Names (B.2.2.2.1 _ k_135) rfl (hb.1.1 13 1 _ rfl) d_Names_kindOf_21 ?_
    refine mv_iload_n (pc := 24) B d_Names_kindOf_24 rfl 1 rfl ?_
    obtain ⟨q5, hf⟩ := xix_e hf
    refine mv_iald (pc := 25) B rfl (xin q5 (by decide)) d_Names_kindOf_25 ?_
    obtain ⟨v6, ev6, hf⟩ := xer_e hf
    refine mvn_top (xfa_14 q5 ev6) ?_
    exact mv_iret (pc := 26) B hr rfl d_Names_kindOf_26 (Nat.le_refl _) (Nat.le_refl _) ⟨_, rfl, xret_i hf⟩
  · skip
    have hf := x_le_f (y := 0) h13 hf
    refine mv_iconst (pc := 16) (v := nI 4) B d_Names_kindOf_16 (by decide) ?_
    refine mv_goto (pc := 17) (tgt := 26) B d_Names_kindOf_17 rfl ?_
    exact mv_iret (pc := 26) B hr rfl d_Names_kindOf_26 (Nat.le_refl _) (Nat.le_refl _) ⟨_, rfl, xret_i hf⟩
def g_Names_maskOf (h : xE) (a0 : Nat) : Option (Nat × xE) := xeb (g_Symbols_letter h a0) fun v2 h1 => bif Nat.blt v2 128 then xer (ep_g (xL_18 h1.2) v2) fun v4 => some (v4, h1) else none
set_option maxHeartbeats 4000000 in
set_option maxRecDepth 100000 in
theorem cx_Names_maskOf (l : Launch) {dA : FieldType → ClassId} {D : va_G} {al : Nat → Nat} {sk sv : Nat → Nat} (hi : mv_inj (mg dA D al me)) (b : mv_H) (hb : xR (mv_r b)) (h : xE) (a0 : Nat) {rv : Nat} {rg : xE} (hf : g_Names_maskOf h a0 = some (rv, rg)) : mv_C l y_Names_maskOf (Cond.code y_Names_maskOf b_Names_maskOf 2 (Option.some Jvm.ClassFile.FieldType.long) :: ma) ({ frames := 1, cells := 0, slots := 0, locals := 22 }) (mg dA D al me) (mK sk sv) [.ref (al 13), .int (nI a0)] (ab b h) (mv_Rl (fun v σ1 => v = nJ rv ∧ σ1 = ab b rg)) := by
  refine mv_C.ofV (cc := b_Names_maskOf) (nL := 2) (ret := (Option.some Jvm.ClassFile.FieldType.long)) (by decide +kernel) rfl hi (Nat.le_of_ble_eq_true rfl) ?_
  intro p e s m below meth c B hNs hr hnm hno
  unfold g_Names_maskOf at hf
  refine mv_aload_n (pc := 0) B d_Names_maskOf_0 rfl 0 rfl ?_
  refine mv_getR (pc := 1) (ci := 4) (C := R_Names) (T := F_Names) (N := 10) B 5 rfl rfl (by decide) i_Names (B.2.2.2.1 _ k_142) rfl (hb.1.1 13 5 _ rfl) d_Names_maskOf_1 ?_
  refine mv_aload_n (pc := 4) B d_Names_maskOf_4 rfl 0 rfl ?_
  refine mv_getR (pc := 5) (ci := 4) (C := R_Names) (T := F_Names) (N := 10) B 0 rfl rfl (by decide) i_Names (B.2.2.2.1 _ k_134) rfl (hb.1.1 13 0 _ rfl) d_Names_maskOf_5 ?_
  refine mv_iload_n (pc := 8) B d_Names_maskOf_8 rfl 1 rfl ?_
  obtain ⟨v2, h1, eh1, hf⟩ := xeb_e hf
  refine mv_callVi (pc := 9) (n := 1) (ci := 3) (C := R_Symbols) B (mK_ok sk sv) hNs rfl rfl (cx_Symbols_letter l hi _ hb _ _ eh1) rfl (ma_goodc kc_Symbols_letter) (B.2.2.2.1 _ k_1320) (B.2.2.2.1 _ k_1321) (B.2.2.2.1 _ k_1322) (B.2.2.2.1 _ k_4) ⟨by decide +kernel, by decide +kernel, by decide +kernel⟩ rfl d_Names_maskOf_9 rfl (Nat.le_of_ble_eq_true rfl) ⟨by decide, by decide⟩ ⟨by decide, by decide⟩ ⟨by decide, by decide⟩ (mv_noH hno _) (fun w9 σ9 h9 => ?_)
  obtain ⟨rfl, rfl⟩ := h9
  obtain ⟨q3, hf⟩ := xix_e hf
  refine mv_lald (pc := 12) B rfl (xin q3 (by decide)) d_Names_maskOf_12 ?_
  obtain ⟨v4, ev4, hf⟩ := xer_e hf
  refine mvn_topl (xfb_18 q3 ev4) ?_
  exact mv_lret (pc := 13) B hr d_Names_maskOf_13 (Nat.le_refl _) (Nat.le_refl _) ⟨_, rfl, xret_l hf⟩
def gF_Names_forget_2 (k2 : Nat → Nat → xE → Option xE) (x1 : Nat) (x2 : Nat) (h : xE) : Option xE := xfz x1 fun x1 => xfz x2 fun x2 => xer (ep_g h.1 13) fun v1 => bif xlt x2 v1 then (bif Nat.blt x2 64 then xer (ep_g (xL_19 h.2) x2) fun v4 => bif Nat.blt v4 16448 then xw xL_14 xS_14 h v4 0 fun h6 => k2 x1 (xadd x2 1) h6 else none else none) else (xwi h 13 x1 fun h2 => some h2)
def g_Names_forget_2 : Nat → Nat → Nat → xE → Option xE
  | 0 => fun _ _ _ => none
  | nn + 1 => gF_Names_forget_2 (g_Names_forget_2 nn)
def g_Names_forget (h : xE) (a0 : Nat) : Option xE := g_Names_forget_2 200000 a0 a0 h
set_option maxHeartbeats 4000000 in
set_option maxRecDepth 100000 in
theorem cx_Names_forget (l : Launch) {dA : FieldType → ClassId} {D : va_G} {al : Nat → Nat} {sk sv : Nat → Nat} (hi : mv_inj (mg dA D al me)) (b : mv_H) (hb : xR (mv_r b)) (h : xE) (a0 : Nat) {rg : xE} (hf : g_Names_forget h a0 = some rg) : mv_C l y_Names_forget (Cond.code y_Names_forget b_Names_forget 3 (Option.none : Option Jvm.ClassFile.FieldType) :: ma) ({ frames := 0, cells := 0, slots := 0, locals := 0 }) (mg dA D al me) (mK sk sv) [.ref (al 13), .int (nI a0)] (ab b h) (mv_Rv (fun σ1 => σ1 = ab b rg)) := by
  refine mv_C.ofV (cc := b_Names_forget) (nL := 3) (ret := (Option.none : Option Jvm.ClassFile.FieldType)) (by decide +kernel) rfl hi (Nat.le_of_ble_eq_true rfl) ?_
  intro p e s m below meth c B hNs hr hnm hno
  have lp2 : ∀ (nn2 : Nat) (x1 : Nat) (x2 : Nat) (h : xE), g_Names_forget_2 nn2 x1 x2 h = some rg → mv_V p l e ({ frames := 0, cells := 0, slots := 0, locals := 0 }) s m ([.ref (al 13), .int (nI a0)] : List Value).toArray below meth c (mg dA D al me) 3 0 0 (mv_Q (mg dA D al me) below s 0 0 (mv_Rv (fun σ1 => σ1 = ab b rg))) (ab b h) 2 [(0, .ref (al 13)), (1, .int (nI x1)), (2, .int (nI x2))] [] := by
    intro nn2
    induction nn2 with
    | zero => intro x1 x2 h hf; cases hf
    | succ nn2 ih2 =>
      intro x1 x2 h hf
      have hf : gF_Names_forget_2 (g_Names_forget_2 nn2) x1 x2 h = some rg := hf
      unfold gF_Names_forget_2 at hf
      have hf := (xfz_e _ _).symm.trans hf
      have hf := (xfz_e _ _).symm.trans hf
      refine mv_iload_n (pc := 2) B d_Names_forget_2 rfl 2 rfl ?_
      refine mv_aload_n (pc := 3) B d_Names_forget_3 rfl 0 rfl ?_
      refine mv_getI (pc := 4) (ci := 4) (C := R_Names) (T := F_Names) (N := 10) B 7 rfl rfl (by decide) i_Names (B.2.2.2.1 _ k_144) rfl d_Names_forget_4 ?_
      obtain ⟨v1, ev1, hf⟩ := xer_e hf
      refine mvn_top (xfi_13_7 ev1) ?_
      refine mv_icmp_ge (pc := 7) (tgt := 28) B d_Names_forget_7 rfl (fun h7 => ?_) (fun h7 => ?_)
      · skip
        have hf := x_le_t h7 hf
        refine mv_aload_n (pc := 28) B d_Names_forget_28 rfl 0 rfl ?_
        refine mv_iload_n (pc := 29) B d_Names_forget_29 rfl 1 rfl ?_
        refine mv_putI (pc := 30) (ci := 4) (C := R_Names) (T := F_Names) (N := 10) B 7 rfl rfl (by decide) i_Names t_Names_ok n_Names (B.2.2.2.1 _ k_144) rfl rfl rfl rfl d_Names_forget_30 ?_
        refine mvn_hp (xwi_13_7 _ _ _) (xwi_f hf) (fun h2 hf => ?_)
        exact mv_vret (pc := 33) B hr d_Names_forget_33 (Nat.le_refl _) (Nat.le_refl _) ⟨rfl, xret_v hf⟩
      · skip
        have hf := x_le_f h7 hf
        refine mv_aload_n (pc := 10) B d_Names_forget_10 rfl 0 rfl ?_
        refine mv_getR (pc := 11) (ci := 4) (C := R_Names) (T := F_Names) (N := 10) B 1 rfl rfl (by decide) i_Names (B.2.2.2.1 _ k_135) rfl (hb.1.1 13 1 _ rfl) d_Names_forget_11 ?_
        refine mv_aload_n (pc := 14) B d_Names_forget_14 rfl 0 rfl ?_
        refine mv_getR (pc := 15) (ci := 4) (C := R_Names) (T := F_Names) (N := 10) B 6 rfl rfl (by decide) i_Names (B.2.2.2.1 _ k_143) rfl (hb.1.1 13 6 _ rfl) d_Names_forget_15 ?_
        refine mv_iload_n (pc := 18) B d_Names_forget_18 rfl 2 rfl ?_
        obtain ⟨q3, hf⟩ := xix_e hf
        refine mv_iald (pc := 19) B rfl (xin q3 (by decide)) d_Names_forget_19 ?_
        obtain ⟨v4, ev4, hf⟩ := xer_e hf
        refine mvn_top (xfa_19 q3 ev4) ?_
        refine mv_iconst (pc := 20) (v := nI 0) B d_Names_forget_20 (by decide) ?_
        obtain ⟨q5, hf⟩ := xix_e hf
        refine mv_iast (pc := 21) B rfl (xin q5 (by decide)) d_Names_forget_21 ?_
        refine mvn_hp (xwa_14 _ _ _ q5) (xw_f xLe_14 xSe_14 hf) (fun h6 hf => ?_)
        refine mvn_iinc (pc := 22) (j := 2) (v := 1) B d_Names_forget_22 rfl (by decide) (by decide) rfl ?_
        refine mv_goto (pc := 25) (tgt := 2) B d_Names_forget_25 rfl ?_
        refine mv_lpick [1, 2, 0] rfl ?_
        exact ih2 _ _ _ hf
  unfold g_Names_forget at hf
  refine mv_iload_n (pc := 0) B d_Names_forget_0 rfl 1 rfl ?_
  refine mv_istore_n (pc := 1) B d_Names_forget_1 rfl (by decide) rfl ?_
  refine mv_lpick [1, 2, 0] rfl ?_
  exact lp2 _ _ _ _ hf
def g_Names_leaveOp (h : xE) : Option xE := xwN xS_17 h (xfill 128 (xL_17 h.2) 0 0) fun h1 => xwN xS_18 h1 (xfill 128 (xL_18 h1.2) 0 0) fun h2 => xev (g_Names_forget h2 0) fun h3 => xwi h3 14 0 fun h4 => some h4
set_option maxHeartbeats 4000000 in
set_option maxRecDepth 100000 in
theorem cx_Names_leaveOp (l : Launch) {dA : FieldType → ClassId} {D : va_G} {al : Nat → Nat} {sk sv : Nat → Nat} (hi : mv_inj (mg dA D al me)) (b : mv_H) (hb : xR (mv_r b)) (h : xE) {rg : xE} (hf : g_Names_leaveOp h = some rg) : mv_C l y_Names_leaveOp (Cond.code y_Names_leaveOp b_Names_leaveOp 1 (Option.none : Option Jvm.ClassFile.FieldType) :: ma) ({ frames := 1, cells := 0, slots := 0, locals := 24 }) (mg dA D al me) (mK sk sv) [.ref (al 13)] (ab b h) (mv_Rv (fun σ1 => σ1 = ab b rg)) := by
  refine mv_C.ofV (cc := b_Names_leaveOp) (nL := 1) (ret := (Option.none : Option Jvm.ClassFile.FieldType)) (by decide +kernel) rfl hi (Nat.le_of_ble_eq_true rfl) ?_
  intro p e s m below meth c B hNs hr hnm hno
  unfold g_Names_leaveOp at hf
  refine mv_aload_n (pc := 0) B d_Names_leaveOp_0 rfl 0 rfl ?_
  refine mv_getR (pc := 1) (ci := 4) (C := R_Names) (T := F_Names) (N := 10) B 4 rfl rfl (by decide) i_Names (B.2.2.2.1 _ k_141) rfl (hb.1.1 13 4 _ rfl) d_Names_leaveOp_1 ?_
  refine mv_iconst (pc := 4) (v := nI 0) B d_Names_leaveOp_4 (by decide) ?_
  refine mv_callSv (pc := 5) (n := 2) B (mK_ok sk sv) hNs (c_Arrays_fill_0 l hi _ 17 128 rfl (by decide) _) rfl (ma_goodc kc_Arrays_fill_0) (B.2.2.2.1 _ k_1254) (B.2.2.2.1 _ k_798) (B.2.2.2.1 _ k_20) ⟨by decide +kernel, by decide +kernel, by decide +kernel⟩ rfl d_Names_leaveOp_5 rfl (Nat.le_of_ble_eq_true rfl) ⟨by decide, by decide⟩ ⟨by decide, by decide⟩ ⟨by decide, by decide⟩ (mv_noH hno _) (fun σ5 h5 => ?_)
  subst h5
  refine mvn_hp (xff_17 _ _ _) (xwN_f xSe_17 hf) (fun h1 hf => ?_)
  refine mv_aload_n (pc := 8) B d_Names_leaveOp_8 rfl 0 rfl ?_
  refine mv_getR (pc := 9) (ci := 4) (C := R_Names) (T := F_Names) (N := 10) B 5 rfl rfl (by decide) i_Names (B.2.2.2.1 _ k_142) rfl (hb.1.1 13 5 _ rfl) d_Names_leaveOp_9 ?_
  refine mv_lconst (pc := 12) (v := nJ 0) B d_Names_leaveOp_12 (by decide) ?_
  refine mv_callSv (pc := 13) (n := 2) B (mK_ok sk sv) hNs (c_Arrays_fill_3 l hi _ 18 128 rfl (by decide) _) rfl (ma_goodc kc_Arrays_fill_3) (B.2.2.2.1 _ k_1255) (B.2.2.2.1 _ k_1256) (B.2.2.2.1 _ k_20) ⟨by decide +kernel, by decide +kernel, by decide +kernel⟩ rfl d_Names_leaveOp_13 rfl (Nat.le_of_ble_eq_true rfl) ⟨by decide, by decide⟩ ⟨by decide, by decide⟩ ⟨by decide, by decide⟩ (mv_noH hno _) (fun σ13 h13 => ?_)
  subst h13
  refine mvn_hp (xff_18 _ _ _) (xwN_f xSe_18 hf) (fun h2 hf => ?_)
  refine mv_aload_n (pc := 16) B d_Names_leaveOp_16 rfl 0 rfl ?_
  refine mv_iconst (pc := 17) (v := nI 0) B d_Names_leaveOp_17 (by decide) ?_
  obtain ⟨h3, eh3, hf⟩ := xev_e hf
  refine mv_callVv (pc := 18) (n := 1) (ci := 4) (C := R_Names) B (mK_ok sk sv) hNs rfl rfl (cx_Names_forget l hi _ hb _ _ eh3) rfl (ma_goodc kc_Names_forget) (B.2.2.2.1 _ k_1258) (B.2.2.2.1 _ k_1259) (B.2.2.2.1 _ k_1260) (B.2.2.2.1 _ k_5) ⟨by decide +kernel, by decide +kernel, by decide +kernel⟩ rfl d_Names_leaveOp_18 rfl (Nat.le_of_ble_eq_true rfl) ⟨by decide, by decide⟩ ⟨by decide, by decide⟩ ⟨by decide, by decide⟩ (mv_noH hno _) (fun σ18 h18 => ?_)
  subst h18
  refine mv_aload_n (pc := 21) B d_Names_leaveOp_21 rfl 0 rfl ?_
  refine mv_iconst (pc := 22) (v := nI 0) B d_Names_leaveOp_22 (by decide) ?_
  refine mv_putI (pc := 23) (ci := 4) (C := R_Names) (T := F_Names) (N := 10) B 9 rfl rfl (by decide) i_Names t_Names_ok n_Names (B.2.2.2.1 _ k_148) rfl rfl rfl rfl d_Names_leaveOp_23 ?_
  refine mvn_hp (xwi_13_9 _ _ _) (xwi_f hf) (fun h4 hf => ?_)
  exact mv_vret (pc := 26) B hr d_Names_leaveOp_26 (Nat.le_refl _) (Nat.le_refl _) ⟨rfl, xret_v hf⟩
def g_Names_addLet (h : xE) (a0 : Nat) (a1 : Nat) : Option xE := xer (ep_g h.1 14) fun v1 => xev (g_Names_know h a0 3 v1) fun h2 => xer (ep_g h2.1 13) fun v3 => bif Nat.blt v3 64 then xw xL_19 xS_19 h2 v3 a0 fun h5 => xer (ep_g h5.1 13) fun v6 => xwi h5 13 (xadd v6 1) fun h7 => xer (ep_g h7.1 14) fun v8 => bif Nat.blt v8 64 then xw xL_20 xS_20 h7 v8 a1 fun h10 => xer (ep_g h10.1 14) fun v11 => xwi h10 14 (xadd v11 1) fun h12 => some h12 else none else none
set_option maxHeartbeats 4000000 in
set_option maxRecDepth 100000 in
theorem cx_Names_addLet (l : Launch) {dA : FieldType → ClassId} {D : va_G} {al : Nat → Nat} {sk sv : Nat → Nat} (hi : mv_inj (mg dA D al me)) (b : mv_H) (hb : xR (mv_r b)) (h : xE) (a0 : Nat) (a1 : Nat) {rg : xE} (hf : g_Names_addLet h a0 a1 = some rg) : mv_C l y_Names_addLet (Cond.code y_Names_addLet b_Names_addLet 3 (Option.none : Option Jvm.ClassFile.FieldType) :: ma) ({ frames := 1, cells := 0, slots := 0, locals := 23 }) (mg dA D al me) (mK sk sv) [.ref (al 13), .int (nI a0), .int (nI a1)] (ab b h) (mv_Rv (fun σ1 => σ1 = ab b rg)) := by
  refine mv_C.ofV (cc := b_Names_addLet) (nL := 3) (ret := (Option.none : Option Jvm.ClassFile.FieldType)) (by decide +kernel) rfl hi (Nat.le_of_ble_eq_true rfl) ?_
  intro p e s m below meth c B hNs hr hnm hno
  unfold g_Names_addLet at hf
  refine mv_aload_n (pc := 0) B d_Names_addLet_0 rfl 0 rfl ?_
  refine mv_iload_n (pc := 1) B d_Names_addLet_1 rfl 1 rfl ?_
  refine mv_iconst (pc := 2) (v := nI 3) B d_Names_addLet_2 (by decide) ?_
  refine mv_aload_n (pc := 3) B d_Names_addLet_3 rfl 0 rfl ?_
  refine mv_getI (pc := 4) (ci := 4) (C := R_Names) (T := F_Names) (N := 10) B 9 rfl rfl (by decide) i_Names (B.2.2.2.1 _ k_148) rfl d_Names_addLet_4 ?_
  obtain ⟨v1, ev1, hf⟩ := xer_e hf
  refine mvn_top (xfi_13_9 ev1) ?_
  obtain ⟨h2, eh2, hf⟩ := xev_e hf
  refine mv_callVv (pc := 7) (n := 3) (ci := 4) (C := R_Names) B (mK_ok sk sv) hNs rfl rfl (cx_Names_know l hi _ hb _ _ _ _ eh2) rfl (ma_goodc kc_Names_know) (B.2.2.2.1 _ k_1535) (B.2.2.2.1 _ k_1326) (B.2.2.2.1 _ k_1327) (B.2.2.2.1 _ k_5) ⟨by decide +kernel, by decide +kernel, by decide +kernel⟩ rfl d_Names_addLet_7 rfl (Nat.le_of_ble_eq_true rfl) ⟨by decide, by decide⟩ ⟨by decide, by decide⟩ ⟨by decide, by decide⟩ (mv_noH hno _) (fun σ7 h7 => ?_)
  subst h7
  refine mv_aload_n (pc := 10) B d_Names_addLet_10 rfl 0 rfl ?_
  refine mv_getR (pc := 11) (ci := 4) (C := R_Names) (T := F_Names) (N := 10) B 6 rfl rfl (by decide) i_Names (B.2.2.2.1 _ k_143) rfl (hb.1.1 13 6 _ rfl) d_Names_addLet_11 ?_
  refine mv_aload_n (pc := 14) B d_Names_addLet_14 rfl 0 rfl ?_
  refine mv_getI (pc := 15) (ci := 4) (C := R_Names) (T := F_Names) (N := 10) B 7 rfl rfl (by decide) i_Names (B.2.2.2.1 _ k_144) rfl d_Names_addLet_15 ?_
  obtain ⟨v3, ev3, hf⟩ := xer_e hf
  refine mvn_top (xfi_13_7 ev3) ?_
  refine mv_iload_n (pc := 18) B d_Names_addLet_18 rfl 1 rfl ?_
  obtain ⟨q4, hf⟩ := xix_e hf
  refine mv_iast (pc := 19) B rfl (xin q4 (by decide)) d_Names_addLet_19 ?_
  refine mvn_hp (xwa_19 _ _ _ q4) (xw_f xLe_19 xSe_19 hf) (fun h5 hf => ?_)
  refine mv_aload_n (pc := 20) B d_Names_addLet_20 rfl 0 rfl ?_
  refine mv_dup (pc := 21) B d_Names_addLet_21 rfl ?_
  refine mv_getI (pc := 22) (ci := 4) (C := R_Names) (T := F_Names) (N := 10) B 7 rfl rfl (by decide) i_Names (B.2.2.2.1 _ k_144) rfl d_Names_addLet_22 ?_
  obtain ⟨v6, ev6, hf⟩ := xer_e hf
  refine mvn_top (xfi_13_7 ev6) ?_
  refine mv_iconst (pc := 25) (v := nI 1) B d_Names_addLet_25 (by decide) ?_
  refine mvn_iadd (pc := 26) B d_Names_addLet_26 ?_
  refine mv_putI (pc := 27) (ci := 4) (C := R_Names) (T := F_Names) (N := 10) B 7 rfl rfl (by decide) i_Names t_Names_ok n_Names (B.2.2.2.1 _ k_144) rfl rfl rfl rfl d_Names_addLet_27 ?_
  refine mvn_hp (xwi_13_7 _ _ _) (xwi_f hf) (fun h7 hf => ?_)
  refine mv_aload_n (pc := 30) B d_Names_addLet_30 rfl 0 rfl ?_
  refine mv_getR (pc := 31) (ci := 4) (C := R_Names) (T := F_Names) (N := 10) B 8 rfl rfl (by decide) i_Names (B.2.2.2.1 _ k_146) rfl (hb.1.1 13 8 _ rfl) d_Names_addLet_31 ?_
  refine mv_aload_n (pc := 34) B d_Names_addLet_34 rfl 0 rfl ?_
  refine mv_getI (pc := 35) (ci := 4) (C := R_Names) (T := F_Names) (N := 10) B 9 rfl rfl (by decide) i_Names (B.2.2.2.1 _ k_148) rfl d_Names_addLet_35 ?_
  obtain ⟨v8, ev8, hf⟩ := xer_e hf
  refine mvn_top (xfi_13_9 ev8) ?_
  refine mv_iload_n (pc := 38) B d_Names_addLet_38 rfl 2 rfl ?_
  obtain ⟨q9, hf⟩ := xix_e hf
  refine mv_iast (pc := 39) B rfl (xin q9 (by decide)) d_Names_addLet_39 ?_
  refine mvn_hp (xwa_20 _ _ _ q9) (xw_f xLe_20 xSe_20 hf) (fun h10 hf => ?_)
  refine mv_aload_n (pc := 40) B d_Names_addLet_40 rfl 0 rfl ?_
  refine mv_dup (pc := 41) B d_Names_addLet_41 rfl ?_
  refine mv_getI (pc := 42) (ci := 4) (C := R_Names) (T := F_Names) (N := 10) B 9 rfl rfl (by decide) i_Names (B.2.2.2.1 _ k_148) rfl d_Names_addLet_42 ?_
  obtain ⟨v11, ev11, hf⟩ := xer_e hf
  refine mvn_top (xfi_13_9 ev11) ?_
  refine mv_iconst (pc := 45) (v := nI 1) B d_Names_addLet_45 (by decide) ?_
  refine mvn_iadd (pc := 46) B d_Names_addLet_46 ?_
  refine mv_putI (pc := 47) (ci := 4) (C := R_Names) (T := F_Names) (N := 10) B 9 rfl rfl (by decide) i_Names t_Names_ok n_Names (B.2.2.2.1 _ k_148) rfl rfl rfl rfl d_Names_addLet_47 ?_
  refine mvn_hp (xwi_13_9 _ _ _) (xwi_f hf) (fun h12 hf => ?_)
  exact mv_vret (pc := 50) B hr d_Names_addLet_50 (Nat.le_refl _) (Nat.le_refl _) ⟨rfl, xret_v hf⟩
def g_Names_clear (h : xE) : Option xE := xer (ep_g h.1 12) fun v1 => bif Nat.blt v1 16449 then xwN xS_14 h (xfill v1 (xL_14 h.2) 0 0) fun h2 => xer (ep_g h2.1 12) fun v4 => bif Nat.blt v4 16449 then xwN xS_16 h2 (xfill v4 (xL_16 h2.2) 0 (xi2b 0)) fun h5 => xev (g_Names_leaveOp h5) fun h7 => some h7 else none else none
set_option maxHeartbeats 4000000 in
set_option maxRecDepth 100000 in
theorem cx_Names_clear (l : Launch) {dA : FieldType → ClassId} {D : va_G} {al : Nat → Nat} {sk sv : Nat → Nat} (hi : mv_inj (mg dA D al me)) (b : mv_H) (hb : xR (mv_r b)) (h : xE) {rg : xE} (hf : g_Names_clear h = some rg) : mv_C l y_Names_clear (Cond.code y_Names_clear b_Names_clear 1 (Option.none : Option Jvm.ClassFile.FieldType) :: ma) ({ frames := 2, cells := 0, slots := 0, locals := 46 }) (mg dA D al me) (mK sk sv) [.ref (al 13)] (ab b h) (mv_Rv (fun σ1 => σ1 = ab b rg)) := by
  refine mv_C.ofV (cc := b_Names_clear) (nL := 1) (ret := (Option.none : Option Jvm.ClassFile.FieldType)) (by decide +kernel) rfl hi (Nat.le_of_ble_eq_true rfl) ?_
  intro p e s m below meth c B hNs hr hnm hno
  unfold g_Names_clear at hf
  refine mv_aload_n (pc := 0) B d_Names_clear_0 rfl 0 rfl ?_
  refine mv_getR (pc := 1) (ci := 4) (C := R_Names) (T := F_Names) (N := 10) B 1 rfl rfl (by decide) i_Names (B.2.2.2.1 _ k_135) rfl (hb.1.1 13 1 _ rfl) d_Names_clear_1 ?_
  refine mv_iconst (pc := 4) (v := nI 0) B d_Names_clear_4 (by decide) ?_
  refine mv_aload_n (pc := 5) B d_Names_clear_5 rfl 0 rfl ?_
  refine mv_getR (pc := 6) (ci := 4) (C := R_Names) (T := F_Names) (N := 10) B 0 rfl rfl (by decide) i_Names (B.2.2.2.1 _ k_134) rfl (hb.1.1 13 0 _ rfl) d_Names_clear_6 ?_
  refine mv_getI (pc := 9) (ci := 3) (C := R_Symbols) (T := F_Symbols) (N := 6) B 5 rfl rfl (by decide) i_Symbols (B.2.2.2.1 _ k_71) rfl d_Names_clear_9 ?_
  obtain ⟨v1, ev1, hf⟩ := xer_e hf
  refine mvn_top (xfi_7_5 ev1) ?_
  refine mv_iconst (pc := 12) (v := nI 0) B d_Names_clear_12 (by decide) ?_
  obtain ⟨q3, hf⟩ := xix_e hf
  refine mv_callSv (pc := 13) (n := 4) B (mK_ok sk sv) hNs (c_Arrays_fill_1 l hi _ 14 16448 rfl (by decide) _ _ _ (by decide) (xf1 q3 (by decide)) (xf2 q3 (by decide))) rfl (ma_goodc kc_Arrays_fill_1) (B.2.2.2.1 _ k_948) (B.2.2.2.1 _ k_949) (B.2.2.2.1 _ k_20) ⟨by decide +kernel, by decide +kernel, by decide +kernel⟩ rfl d_Names_clear_13 rfl (Nat.le_of_ble_eq_true rfl) ⟨by decide, by decide⟩ ⟨by decide, by decide⟩ ⟨by decide, by decide⟩ (mv_noH hno _) (fun σ13 h13 => ?_)
  subst h13
  refine mvn_hp (xfg_14 _ _ _ _ q3) (xwN_f xSe_14 hf) (fun h2 hf => ?_)
  refine mv_aload_n (pc := 16) B d_Names_clear_16 rfl 0 rfl ?_
  refine mv_getR (pc := 17) (ci := 4) (C := R_Names) (T := F_Names) (N := 10) B 3 rfl rfl (by decide) i_Names (B.2.2.2.1 _ k_139) rfl (hb.1.1 13 3 _ rfl) d_Names_clear_17 ?_
  refine mv_iconst (pc := 20) (v := nI 0) B d_Names_clear_20 (by decide) ?_
  refine mv_aload_n (pc := 21) B d_Names_clear_21 rfl 0 rfl ?_
  refine mv_getR (pc := 22) (ci := 4) (C := R_Names) (T := F_Names) (N := 10) B 0 rfl rfl (by decide) i_Names (B.2.2.2.1 _ k_134) rfl (hb.1.1 13 0 _ rfl) d_Names_clear_22 ?_
  refine mv_getI (pc := 25) (ci := 3) (C := R_Symbols) (T := F_Symbols) (N := 6) B 5 rfl rfl (by decide) i_Symbols (B.2.2.2.1 _ k_71) rfl d_Names_clear_25 ?_
  obtain ⟨v4, ev4, hf⟩ := xer_e hf
  refine mvn_top (xfi_7_5 ev4) ?_
  refine mv_iconst (pc := 28) (v := nI 0) B d_Names_clear_28 (by decide) ?_
  obtain ⟨q6, hf⟩ := xix_e hf
  refine mv_callSv (pc := 29) (n := 4) B (mK_ok sk sv) hNs (c_Arrays_fill_2 l hi _ 16 16448 rfl (by decide) _ _ _ (by decide) (xf1 q6 (by decide)) (xf2 q6 (by decide))) rfl (ma_goodc kc_Arrays_fill_2) (B.2.2.2.1 _ k_1247) (B.2.2.2.1 _ k_1248) (B.2.2.2.1 _ k_20) ⟨by decide +kernel, by decide +kernel, by decide +kernel⟩ rfl d_Names_clear_29 rfl (Nat.le_of_ble_eq_true rfl) ⟨by decide, by decide⟩ ⟨by decide, by decide⟩ ⟨by decide, by decide⟩ (mv_noH hno _) (fun σ29 h29 => ?_)
  subst h29
  rw [xnb]
  refine mvn_hp (xfg_16 _ _ _ _ q6) (xwN_f xSe_16 hf) (fun h5 hf => ?_)
  refine mv_aload_n (pc := 32) B d_Names_clear_32 rfl 0 rfl ?_
  obtain ⟨h7, eh7, hf⟩ := xev_e hf
  refine mv_callVv (pc := 33) (n := 0) (ci := 4) (C := R_Names) B (mK_ok sk sv) hNs rfl rfl (cx_Names_leaveOp l hi _ hb _ eh7) rfl (ma_goodc kc_Names_leaveOp) (B.2.2.2.1 _ k_1250) (B.2.2.2.1 _ k_1251) (B.2.2.2.1 _ k_1252) (B.2.2.2.1 _ k_5) ⟨by decide +kernel, by decide +kernel, by decide +kernel⟩ rfl d_Names_clear_33 rfl (Nat.le_of_ble_eq_true rfl) ⟨by decide, by decide⟩ ⟨by decide, by decide⟩ ⟨by decide, by decide⟩ (mv_noH hno _) (fun σ33 h33 => ?_)
  subst h33
  exact mv_vret (pc := 36) B hr d_Names_clear_36 (Nat.le_refl _) (Nat.le_refl _) ⟨rfl, xret_v hf⟩
def g_Names_enterOp_64 (k3 : Nat → Nat → Nat → Nat → xE → Option xE) (x2 : Nat) (x3 : Nat) (x4 : Nat) (x5 : Nat) (h : xE) : Option xE := k3 x2 x3 x4 (xadd x5 1) h
def g_Names_enterOp_62 (k3 : Nat → Nat → Nat → Nat → xE → Option xE) (x2 : Nat) (x3 : Nat) (x4 : Nat) (x5 : Nat) (y0 : Nat) (y1 : Nat) (y2 : Nat) (h : xE) : Option xE := bif Nat.blt y2 128 then xw xL_18 xS_18 h y2 (Nat.lor y1 y0) fun h2 => g_Names_enterOp_64 k3 x2 x3 x4 x5 h2 else none
def gF_Names_enterOp_3 (k3 : Nat → Nat → Nat → Nat → xE → Option xE) (x2 : Nat) (x3 : Nat) (x4 : Nat) (x5 : Nat) (h : xE) : Option xE := xfz x2 fun x2 => xfz x3 fun x3 => xfz x4 fun x4 => xfz x5 fun x5 => bif xlt x5 x3 then (bif Nat.blt (xadd x2 x5) 8192 then xer (ep_g (xL_144 h.2) (xadd x2 x5)) fun v4 => bif xlt v4 65 then (g_Names_enterOp_64 k3 x2 x3 x4 x5 h) else (bif Nat.blt v4 128 then xer (ep_g (xL_17 h.2) v4) fun v6 => bif Nat.blt v4 128 then xw xL_17 xS_17 h v4 (xadd v6 1) fun h8 => bif Nat.blt v4 128 then xer (ep_g (xL_18 h8.2) v4) fun v10 => bif xeq x3 x4 then (g_Names_enterOp_62 k3 x2 x3 x4 x5 (yshl 1 (xsub (xsub x4 1) x5)) v10 v4 h8) else (g_Names_enterOp_62 k3 x2 x3 x4 x5 0 v10 v4 h8) else none else none else none) else none) else (some h)
def g_Names_enterOp_3 : Nat → Nat → Nat → Nat → Nat → xE → Option xE
  | 0 => fun _ _ _ _ _ => none
  | nn + 1 => gF_Names_enterOp_3 (g_Names_enterOp_3 nn)
def g_Names_enterOp (h : xE) (a1 : Nat) (a2 : Nat) (a3 : Nat) : Option xE := g_Names_enterOp_3 200000 a1 a2 a3 0 h
set_option maxHeartbeats 4000000 in
set_option maxRecDepth 100000 in
theorem cx_Names_enterOp (l : Launch) {dA : FieldType → ClassId} {D : va_G} {al : Nat → Nat} {sk sv : Nat → Nat} (hi : mv_inj (mg dA D al me)) (b : mv_H) (hb : xR (mv_r b)) (h : xE) (a1 : Nat) (a2 : Nat) (a3 : Nat) {rg : xE} (hf : g_Names_enterOp h a1 a2 a3 = some rg) : mv_C l y_Names_enterOp (Cond.code y_Names_enterOp b_Names_enterOp 7 (Option.none : Option Jvm.ClassFile.FieldType) :: ma) ({ frames := 0, cells := 0, slots := 0, locals := 0 }) (mg dA D al me) (mK sk sv) [.ref (al 13), .ref (al 144), .int (nI a1), .int (nI a2), .int (nI a3)] (ab b h) (mv_Rv (fun σ1 => σ1 = ab b rg)) := by
  refine mv_C.ofV (cc := b_Names_enterOp) (nL := 7) (ret := (Option.none : Option Jvm.ClassFile.FieldType)) (by decide +kernel) rfl hi (Nat.le_of_ble_eq_true rfl) ?_
  intro p e s m below meth c B hNs hr hnm hno
  have lp3 : ∀ (nn3 : Nat) (x2 : Nat) (x3 : Nat) (x4 : Nat) (x5 : Nat) (h : xE), g_Names_enterOp_3 nn3 x2 x3 x4 x5 h = some rg → mv_V p l e ({ frames := 0, cells := 0, slots := 0, locals := 0 }) s m ([.ref (al 13), .ref (al 144), .int (nI a1), .int (nI a2), .int (nI a3)] : List Value).toArray below meth c (mg dA D al me) 7 0 0 (mv_Q (mg dA D al me) below s 0 0 (mv_Rv (fun σ1 => σ1 = ab b rg))) (ab b h) 3 [(0, .ref (al 13)), (1, .ref (al 144)), (2, .int (nI x2)), (3, .int (nI x3)), (4, .int (nI x4)), (5, .int (nI x5))] [] := by
    intro nn3
    induction nn3 with
    | zero => intro x2 x3 x4 x5 h hf; cases hf
    | succ nn3 ih3 =>
      intro x2 x3 x4 x5 h hf
      have jn64 : ∀ (x2 : Nat) (x3 : Nat) (x4 : Nat) (x5 : Nat) (h : xE), g_Names_enterOp_64 (g_Names_enterOp_3 nn3) x2 x3 x4 x5 h = some rg → mv_V p l e ({ frames := 0, cells := 0, slots := 0, locals := 0 }) s m ([.ref (al 13), .ref (al 144), .int (nI a1), .int (nI a2), .int (nI a3)] : List Value).toArray below meth c (mg dA D al me) 7 0 0 (mv_Q (mg dA D al me) below s 0 0 (mv_Rv (fun σ1 => σ1 = ab b rg))) (ab b h) 64 [(0, .ref (al 13)), (1, .ref (al 144)), (2, .int (nI x2)), (3, .int (nI x3)), (4, .int (nI x4)), (5, .int (nI x5))] [] := by
        intro x2 x3 x4 x5 h hf
        unfold g_Names_enterOp_64 at hf
        refine mvn_iinc (pc := 64) (j := 5) (v := 1) B d_Names_enterOp_64 rfl (by decide) (by decide) rfl ?_
        refine mv_goto (pc := 67) (tgt := 3) B d_Names_enterOp_67 rfl ?_
        refine mv_lpick [1, 2, 3, 4, 5, 0] rfl ?_
        exact ih3 _ _ _ _ _ hf
      have jn62 : ∀ (x2 : Nat) (x3 : Nat) (x4 : Nat) (x5 : Nat) (y0 : Nat) (y1 : Nat) (y2 : Nat) (h : xE), g_Names_enterOp_62 (g_Names_enterOp_3 nn3) x2 x3 x4 x5 y0 y1 y2 h = some rg → mv_V p l e ({ frames := 0, cells := 0, slots := 0, locals := 0 }) s m ([.ref (al 13), .ref (al 144), .int (nI a1), .int (nI a2), .int (nI a3)] : List Value).toArray below meth c (mg dA D al me) 7 0 0 (mv_Q (mg dA D al me) below s 0 0 (mv_Rv (fun σ1 => σ1 = ab b rg))) (ab b h) 62 [(0, .ref (al 13)), (1, .ref (al 144)), (2, .int (nI x2)), (3, .int (nI x3)), (4, .int (nI x4)), (5, .int (nI x5))] [.long (nJ y0), .long (nJ y1), .int (nI y2), .ref (al 18)] := by
        intro x2 x3 x4 x5 y0 y1 y2 h hf
        unfold g_Names_enterOp_62 at hf
        refine mvn_lor (pc := 62) B d_Names_enterOp_62 ?_
        obtain ⟨q1, hf⟩ := xix_e hf
        refine mv_last (pc := 63) B rfl (xin q1 (by decide)) d_Names_enterOp_63 ?_
        refine mvn_hp (xwb_18 _ _ _ q1) (xw_f xLe_18 xSe_18 hf) (fun h2 hf => ?_)
        refine mv_lpick [0, 1, 2, 3, 4, 5] rfl ?_
        exact jn64 _ _ _ _ _ hf
      have hf : gF_Names_enterOp_3 (g_Names_enterOp_3 nn3) x2 x3 x4 x5 h = some rg := hf
      unfold gF_Names_enterOp_3 at hf
      have hf := (xfz_e _ _).symm.trans hf
      have hf := (xfz_e _ _).symm.trans hf
      have hf := (xfz_e _ _).symm.trans hf
      have hf := (xfz_e _ _).symm.trans hf
      refine mv_iload (pc := 3) B d_Names_enterOp_3 5 rfl ?_
      refine mv_iload_n (pc := 5) B d_Names_enterOp_5 rfl 3 rfl ?_
      refine mv_icmp_ge (pc := 6) (tgt := 70) B d_Names_enterOp_6 rfl (fun h6 => ?_) (fun h6 => ?_)
      · skip
        have hf := x_le_t h6 hf
        exact mv_vret (pc := 70) B hr d_Names_enterOp_70 (Nat.le_refl _) (Nat.le_refl _) ⟨rfl, xret_v hf⟩
      · skip
        have hf := x_le_f h6 hf
        refine mv_aload_n (pc := 9) B d_Names_enterOp_9 rfl 1 rfl ?_
        refine mv_iload_n (pc := 10) B d_Names_enterOp_10 rfl 2 rfl ?_
        refine mv_iload (pc := 11) B d_Names_enterOp_11 5 rfl ?_
        refine mvn_iadd (pc := 13) B d_Names_enterOp_13 ?_
        obtain ⟨q3, hf⟩ := xix_e hf
        refine mv_bald (pc := 14) B rfl (xin q3 (by decide)) d_Names_enterOp_14 ?_
        obtain ⟨v4, ev4, hf⟩ := xer_e hf
        refine mvn_top (xfa_144 q3 ev4) ?_
        refine mv_istore (pc := 15) B d_Names_enterOp_15 (by decide) rfl ?_
        refine mv_iload (pc := 17) B d_Names_enterOp_17 0 rfl ?_
        refine mv_bipush (pc := 19) (v := nI 65) B d_Names_enterOp_19 (by decide) ?_
        refine mv_icmp_lt (pc := 21) (tgt := 64) B d_Names_enterOp_21 rfl (fun h21 => ?_) (fun h21 => ?_)
        · skip
          have hf := x_lt_t h21 hf
          refine mv_lpick [1, 2, 3, 4, 5, 6] rfl ?_
          exact jn64 _ _ _ _ _ hf
        · skip
          have hf := x_lt_f h21 hf
          refine mv_aload_n (pc := 24) B d_Names_enterOp_24 rfl 1 rfl ?_
          refine mv_getR (pc := 25) (ci := 4) (C := R_Names) (T := F_Names) (N := 10) B 4 rfl rfl (by decide) i_Names (B.2.2.2.1 _ k_141) rfl (hb.1.1 13 4 _ rfl) d_Names_enterOp_25 ?_
          refine mv_iload (pc := 28) B d_Names_enterOp_28 0 rfl ?_
          refine mv_dup2_11 (pc := 30) B d_Names_enterOp_30 rfl rfl ?_
          obtain ⟨q5, hf⟩ := xix_e hf
          refine mv_iald (pc := 31) B rfl (xin q5 (by decide)) d_Names_enterOp_31 ?_
          obtain ⟨v6, ev6, hf⟩ := xer_e hf
          refine mvn_top (xfa_17 q5 ev6) ?_
          refine mv_iconst (pc := 32) (v := nI 1) B d_Names_enterOp_32 (by decide) ?_
          refine mvn_iadd (pc := 33) B d_Names_enterOp_33 ?_
          obtain ⟨q7, hf⟩ := xix_e hf
          refine mv_iast (pc := 34) B rfl (xin q7 (by decide)) d_Names_enterOp_34 ?_
          refine mvn_hp (xwa_17 _ _ _ q7) (xw_f xLe_17 xSe_17 hf) (fun h8 hf => ?_)
          refine mv_aload_n (pc := 35) B d_Names_enterOp_35 rfl 1 rfl ?_
          refine mv_getR (pc := 36) (ci := 4) (C := R_Names) (T := F_Names) (N := 10) B 5 rfl rfl (by decide) i_Names (B.2.2.2.1 _ k_142) rfl (hb.1.1 13 5 _ rfl) d_Names_enterOp_36 ?_
          refine mv_iload (pc := 39) B d_Names_enterOp_39 0 rfl ?_
          refine mv_dup2_11 (pc := 41) B d_Names_enterOp_41 rfl rfl ?_
          obtain ⟨q9, hf⟩ := xix_e hf
          refine mv_lald (pc := 42) B rfl (xin q9 (by decide)) d_Names_enterOp_42 ?_
          obtain ⟨v10, ev10, hf⟩ := xer_e hf
          refine mvn_topl (xfb_18 q9 ev10) ?_
          refine mv_iload_n (pc := 43) B d_Names_enterOp_43 rfl 4 rfl ?_
          refine mv_iload (pc := 44) B d_Names_enterOp_44 5 rfl ?_
          refine mv_icmp_ne (pc := 46) (tgt := 61) B d_Names_enterOp_46 rfl (fun h46 => ?_) (fun h46 => ?_)
          · skip
            have hf := x_eq_f h46 hf
            refine mv_lconst (pc := 61) (v := nJ 0) B d_Names_enterOp_61 (by decide) ?_
            refine mv_lpick [1, 2, 3, 4, 5, 6] rfl ?_
            exact jn62 _ _ _ _ _ _ _ _ hf
          · skip
            have hf := x_eq_t h46 hf
            refine mv_lconst (pc := 49) (v := nJ 1) B d_Names_enterOp_49 (by decide) ?_
            refine mv_iload (pc := 50) B d_Names_enterOp_50 5 rfl ?_
            refine mv_iconst (pc := 52) (v := nI 1) B d_Names_enterOp_52 (by decide) ?_
            refine mvn_isub (pc := 53) B d_Names_enterOp_53 ?_
            refine mv_iload (pc := 54) B d_Names_enterOp_54 6 rfl ?_
            refine mvn_isub (pc := 56) B d_Names_enterOp_56 ?_
            refine mvn_lshl (pc := 57) B d_Names_enterOp_57 ?_
            refine mv_goto (pc := 58) (tgt := 62) B d_Names_enterOp_58 rfl ?_
            refine mv_lpick [1, 2, 3, 4, 5, 6] rfl ?_
            exact jn62 _ _ _ _ _ _ _ _ hf
  unfold g_Names_enterOp at hf
  refine mv_iconst (pc := 0) (v := nI 0) B d_Names_enterOp_0 (by decide) ?_
  refine mv_istore (pc := 1) B d_Names_enterOp_1 (by decide) rfl ?_
  refine mv_lpick [1, 2, 3, 4, 5, 0] rfl ?_
  exact lp3 _ _ _ _ _ _ hf
def g_Program_clear (h : xE) : Option xE := xwi h 20 8 fun h1 => xwi h1 21 0 fun h2 => xwi h2 22 0 fun h3 => xwi h3 23 0 fun h4 => xwi h4 24 4294967295 fun h5 => xwi h5 25 4294967295 fun h6 => xwi h6 26 0 fun h7 => xwi h7 27 0 fun h8 => some h8
set_option maxHeartbeats 4000000 in
set_option maxRecDepth 100000 in
theorem cx_Program_clear (l : Launch) {dA : FieldType → ClassId} {D : va_G} {al : Nat → Nat} {sk sv : Nat → Nat} (hi : mv_inj (mg dA D al me)) (b : mv_H) (h : xE) {rg : xE} (hf : g_Program_clear h = some rg) : mv_C l y_Program_clear (Cond.code y_Program_clear b_Program_clear 1 (Option.none : Option Jvm.ClassFile.FieldType) :: ma) ({ frames := 0, cells := 0, slots := 0, locals := 0 }) (mg dA D al me) (mK sk sv) [.ref (al 145)] (ab b h) (mv_Rv (fun σ1 => σ1 = ab b rg)) := by
  refine mv_C.ofV (cc := b_Program_clear) (nL := 1) (ret := (Option.none : Option Jvm.ClassFile.FieldType)) (by decide +kernel) rfl hi (Nat.le_of_ble_eq_true rfl) ?_
  intro p e s m below meth c B hNs hr hnm hno
  unfold g_Program_clear at hf
  refine mv_aload_n (pc := 0) B d_Program_clear_0 rfl 0 rfl ?_
  refine mv_bipush (pc := 1) (v := nI 8) B d_Program_clear_1 (by decide) ?_
  refine mv_putI (pc := 3) (ci := 7) (C := R_Program) (T := F_Program) (N := 19) B 0 rfl rfl (by decide) i_Program t_Program_ok n_Program (B.2.2.2.1 _ k_311) rfl rfl rfl rfl d_Program_clear_3 ?_
  refine mvn_hp (xwi_145_0 _ _ _) (xwi_f hf) (fun h1 hf => ?_)
  refine mv_aload_n (pc := 6) B d_Program_clear_6 rfl 0 rfl ?_
  refine mv_iconst (pc := 7) (v := nI 0) B d_Program_clear_7 (by decide) ?_
  refine mv_putI (pc := 8) (ci := 7) (C := R_Program) (T := F_Program) (N := 19) B 1 rfl rfl (by decide) i_Program t_Program_ok n_Program (B.2.2.2.1 _ k_315) rfl rfl rfl rfl d_Program_clear_8 ?_
  refine mvn_hp (xwi_145_1 _ _ _) (xwi_f hf) (fun h2 hf => ?_)
  refine mv_aload_n (pc := 11) B d_Program_clear_11 rfl 0 rfl ?_
  refine mv_iconst (pc := 12) (v := nI 0) B d_Program_clear_12 (by decide) ?_
  refine mv_putI (pc := 13) (ci := 7) (C := R_Program) (T := F_Program) (N := 19) B 6 rfl rfl (by decide) i_Program t_Program_ok n_Program (B.2.2.2.1 _ k_332) rfl rfl rfl rfl d_Program_clear_13 ?_
  refine mvn_hp (xwi_145_6 _ _ _) (xwi_f hf) (fun h3 hf => ?_)
  refine mv_aload_n (pc := 16) B d_Program_clear_16 rfl 0 rfl ?_
  refine mv_iconst (pc := 17) (v := nI 0) B d_Program_clear_17 (by decide) ?_
  refine mv_putI (pc := 18) (ci := 7) (C := R_Program) (T := F_Program) (N := 19) B 7 rfl rfl (by decide) i_Program t_Program_ok n_Program (B.2.2.2.1 _ k_334) rfl rfl rfl rfl d_Program_clear_18 ?_
  refine mvn_hp (xwi_145_7 _ _ _) (xwi_f hf) (fun h4 hf => ?_)
  refine mv_aload_n (pc := 21) B d_Program_clear_21 rfl 0 rfl ?_
  refine mv_iconst (pc := 22) (v := nI 4294967295) B d_Program_clear_22 (by decide) ?_
  refine mv_putI (pc := 23) (ci := 7) (C := R_Program) (T := F_Program) (N := 19) B 8 rfl rfl (by decide) i_Program t_Program_ok n_Program (B.2.2.2.1 _ k_337) rfl rfl rfl rfl d_Program_clear_23 ?_
  refine mvn_hp (xwi_145_8 _ _ _) (xwi_f hf) (fun h5 hf => ?_)
  refine mv_aload_n (pc := 26) B d_Program_clear_26 rfl 0 rfl ?_
  refine mv_iconst (pc := 27) (v := nI 4294967295) B d_Program_clear_27 (by decide) ?_
  refine mv_putI (pc := 28) (ci := 7) (C := R_Program) (T := F_Program) (N := 19) B 9 rfl rfl (by decide) i_Program t_Program_ok n_Program (B.2.2.2.1 _ k_340) rfl rfl rfl rfl d_Program_clear_28 ?_
  refine mvn_hp (xwi_145_9 _ _ _) (xwi_f hf) (fun h6 hf => ?_)
  refine mv_aload_n (pc := 31) B d_Program_clear_31 rfl 0 rfl ?_
  refine mv_iconst (pc := 32) (v := nI 0) B d_Program_clear_32 (by decide) ?_
  refine mv_putI (pc := 33) (ci := 7) (C := R_Program) (T := F_Program) (N := 19) B 10 rfl rfl (by decide) i_Program t_Program_ok n_Program (B.2.2.2.1 _ k_345) rfl rfl rfl rfl d_Program_clear_33 ?_
  refine mvn_hp (xwi_145_10 _ _ _) (xwi_f hf) (fun h7 hf => ?_)
  refine mv_aload_n (pc := 36) B d_Program_clear_36 rfl 0 rfl ?_
  refine mv_iconst (pc := 37) (v := nI 0) B d_Program_clear_37 (by decide) ?_
  refine mv_putI (pc := 38) (ci := 7) (C := R_Program) (T := F_Program) (N := 19) B 17 rfl rfl (by decide) i_Program t_Program_ok n_Program (B.2.2.2.1 _ k_361) rfl rfl rfl rfl d_Program_clear_38 ?_
  refine mvn_hp (xwi_145_17 _ _ _) (xwi_f hf) (fun h8 hf => ?_)
  exact mv_vret (pc := 41) B hr d_Program_clear_41 (Nat.le_refl _) (Nat.le_refl _) ⟨rfl, xret_v hf⟩
def g_Program_addThing_57 (x2 : Nat) (y0 : Nat) (y1 : Nat) (h : xE) : Option xE := xwi h 22 (xadd y1 y0) fun h1 => xer (ep_g h1.1 23) fun v2 => xwi h1 23 (xadd v2 x2) fun h3 => xer (ep_g h3.1 21) fun v4 => xwi h3 21 (xadd v4 1) fun h5 => some h5
def g_Program_addThing (h : xE) (a0 : Nat) (a1 : Nat) (a2 : Nat) : Option xE := xer (ep_g h.1 21) fun v6 => bif Nat.blt v6 64 then xw xL_146 xS_146 h v6 a0 fun h8 => xer (ep_g h8.1 21) fun v9 => bif Nat.blt v9 64 then xw xL_147 xS_147 h8 v9 a1 fun h11 => xer (ep_g h11.1 21) fun v12 => xer (ep_g h11.1 22) fun v13 => bif Nat.blt v12 64 then xw xL_148 xS_148 h11 v12 v13 fun h15 => xer (ep_g h15.1 21) fun v16 => bif Nat.blt v16 64 then xw xL_149 xS_149 h15 v16 (Nat.land a2 1) fun h18 => xer (ep_g h18.1 22) fun v19 => bif xeq a1 0 then (g_Program_addThing_57 a1 1 v19 h18) else (g_Program_addThing_57 a1 a1 v19 h18) else none else none else none else none
set_option maxHeartbeats 4000000 in
set_option maxRecDepth 100000 in
theorem cx_Program_addThing (l : Launch) {dA : FieldType → ClassId} {D : va_G} {al : Nat → Nat} {sk sv : Nat → Nat} (hi : mv_inj (mg dA D al me)) (b : mv_H) (hb : xR (mv_r b)) (h : xE) (a0 : Nat) (a1 : Nat) (a2 : Nat) {rg : xE} (hf : g_Program_addThing h a0 a1 a2 = some rg) : mv_C l y_Program_addThing (Cond.code y_Program_addThing b_Program_addThing 4 (Option.none : Option Jvm.ClassFile.FieldType) :: ma) ({ frames := 0, cells := 0, slots := 0, locals := 0 }) (mg dA D al me) (mK sk sv) [.ref (al 145), .int (nI a0), .int (nI a1), .int (nI a2)] (ab b h) (mv_Rv (fun σ1 => σ1 = ab b rg)) := by
  refine mv_C.ofV (cc := b_Program_addThing) (nL := 4) (ret := (Option.none : Option Jvm.ClassFile.FieldType)) (by decide +kernel) rfl hi (Nat.le_of_ble_eq_true rfl) ?_
  intro p e s m below meth c B hNs hr hnm hno
  have jn57 : ∀ (x2 : Nat) (y0 : Nat) (y1 : Nat) (h : xE), g_Program_addThing_57 x2 y0 y1 h = some rg → mv_V p l e ({ frames := 0, cells := 0, slots := 0, locals := 0 }) s m ([.ref (al 145), .int (nI a0), .int (nI a1), .int (nI a2)] : List Value).toArray below meth c (mg dA D al me) 4 0 0 (mv_Q (mg dA D al me) below s 0 0 (mv_Rv (fun σ1 => σ1 = ab b rg))) (ab b h) 57 [(0, .ref (al 145)), (2, .int (nI x2))] [.int (nI y0), .int (nI y1), .ref (al 145)] := by
    intro x2 y0 y1 h hf
    unfold g_Program_addThing_57 at hf
    refine mvn_iadd (pc := 57) B d_Program_addThing_57 ?_
    refine mv_putI (pc := 58) (ci := 7) (C := R_Program) (T := F_Program) (N := 19) B 6 rfl rfl (by decide) i_Program t_Program_ok n_Program (B.2.2.2.1 _ k_332) rfl rfl rfl rfl d_Program_addThing_58 ?_
    refine mvn_hp (xwi_145_6 _ _ _) (xwi_f hf) (fun h1 hf => ?_)
    refine mv_aload_n (pc := 61) B d_Program_addThing_61 rfl 0 rfl ?_
    refine mv_dup (pc := 62) B d_Program_addThing_62 rfl ?_
    refine mv_getI (pc := 63) (ci := 7) (C := R_Program) (T := F_Program) (N := 19) B 7 rfl rfl (by decide) i_Program (B.2.2.2.1 _ k_334) rfl d_Program_addThing_63 ?_
    obtain ⟨v2, ev2, hf⟩ := xer_e hf
    refine mvn_top (xfi_145_7 ev2) ?_
    refine mv_iload_n (pc := 66) B d_Program_addThing_66 rfl 1 rfl ?_
    refine mvn_iadd (pc := 67) B d_Program_addThing_67 ?_
    refine mv_putI (pc := 68) (ci := 7) (C := R_Program) (T := F_Program) (N := 19) B 7 rfl rfl (by decide) i_Program t_Program_ok n_Program (B.2.2.2.1 _ k_334) rfl rfl rfl rfl d_Program_addThing_68 ?_
    refine mvn_hp (xwi_145_7 _ _ _) (xwi_f hf) (fun h3 hf => ?_)
    refine mv_aload_n (pc := 71) B d_Program_addThing_71 rfl 0 rfl ?_
    refine mv_dup (pc := 72) B d_Program_addThing_72 rfl ?_
    refine mv_getI (pc := 73) (ci := 7) (C := R_Program) (T := F_Program) (N := 19) B 1 rfl rfl (by decide) i_Program (B.2.2.2.1 _ k_315) rfl d_Program_addThing_73 ?_
    obtain ⟨v4, ev4, hf⟩ := xer_e hf
    refine mvn_top (xfi_145_1 ev4) ?_
    refine mv_iconst (pc := 76) (v := nI 1) B d_Program_addThing_76 (by decide) ?_
    refine mvn_iadd (pc := 77) B d_Program_addThing_77 ?_
    refine mv_putI (pc := 78) (ci := 7) (C := R_Program) (T := F_Program) (N := 19) B 1 rfl rfl (by decide) i_Program t_Program_ok n_Program (B.2.2.2.1 _ k_315) rfl rfl rfl rfl d_Program_addThing_78 ?_
    refine mvn_hp (xwi_145_1 _ _ _) (xwi_f hf) (fun h5 hf => ?_)
    exact mv_vret (pc := 81) B hr d_Program_addThing_81 (Nat.le_refl _) (Nat.le_refl _) ⟨rfl, xret_v hf⟩
  unfold g_Program_addThing at hf
  refine mv_aload_n (pc := 0) B d_Program_addThing_0 rfl 0 rfl ?_
  refine mv_getR (pc := 1) (ci := 7) (C := R_Program) (T := F_Program) (N := 19) B 2 rfl rfl (by decide) i_Program (B.2.2.2.1 _ k_318) rfl (hb.1.2.1 145 2 146 rfl) d_Program_addThing_1 ?_
  refine mv_aload_n (pc := 4) B d_Program_addThing_4 rfl 0 rfl ?_
  refine mv_getI (pc := 5) (ci := 7) (C := R_Program) (T := F_Program) (N := 19) B 1 rfl rfl (by decide) i_Program (B.2.2.2.1 _ k_315) rfl d_Program_addThing_5 ?_
  obtain ⟨v6, ev6, hf⟩ := xer_e hf
  refine mvn_top (xfi_145_1 ev6) ?_
  refine mv_iload_n (pc := 8) B d_Program_addThing_8 rfl 1 rfl ?_
  obtain ⟨q7, hf⟩ := xix_e hf
  refine mv_iast (pc := 9) B rfl (xin q7 (by decide)) d_Program_addThing_9 ?_
  refine mvn_hp (xwa_146 _ _ _ q7) (xw_f xLe_146 xSe_146 hf) (fun h8 hf => ?_)
  refine mv_aload_n (pc := 10) B d_Program_addThing_10 rfl 0 rfl ?_
  refine mv_getR (pc := 11) (ci := 7) (C := R_Program) (T := F_Program) (N := 19) B 3 rfl rfl (by decide) i_Program (B.2.2.2.1 _ k_323) rfl (hb.1.2.1 145 3 147 rfl) d_Program_addThing_11 ?_
  refine mv_aload_n (pc := 14) B d_Program_addThing_14 rfl 0 rfl ?_
  refine mv_getI (pc := 15) (ci := 7) (C := R_Program) (T := F_Program) (N := 19) B 1 rfl rfl (by decide) i_Program (B.2.2.2.1 _ k_315) rfl d_Program_addThing_15 ?_
  obtain ⟨v9, ev9, hf⟩ := xer_e hf
  refine mvn_top (xfi_145_1 ev9) ?_
  refine mv_iload_n (pc := 18) B d_Program_addThing_18 rfl 2 rfl ?_
  obtain ⟨q10, hf⟩ := xix_e hf
  refine mv_iast (pc := 19) B rfl (xin q10 (by decide)) d_Program_addThing_19 ?_
  refine mvn_hp (xwa_147 _ _ _ q10) (xw_f xLe_147 xSe_147 hf) (fun h11 hf => ?_)
  refine mv_aload_n (pc := 20) B d_Program_addThing_20 rfl 0 rfl ?_
  refine mv_getR (pc := 21) (ci := 7) (C := R_Program) (T := F_Program) (N := 19) B 4 rfl rfl (by decide) i_Program (B.2.2.2.1 _ k_326) rfl (hb.1.2.1 145 4 148 rfl) d_Program_addThing_21 ?_
  refine mv_aload_n (pc := 24) B d_Program_addThing_24 rfl 0 rfl ?_
  refine mv_getI (pc := 25) (ci := 7) (C := R_Program) (T := F_Program) (N := 19) B 1 rfl rfl (by decide) i_Program (B.2.2.2.1 _ k_315) rfl d_Program_addThing_25 ?_
  obtain ⟨v12, ev12, hf⟩ := xer_e hf
  refine mvn_top (xfi_145_1 ev12) ?_
  refine mv_aload_n (pc := 28) B d_Program_addThing_28 rfl 0 rfl ?_
  refine mv_getI (pc := 29) (ci := 7) (C := R_Program) (T := F_Program) (N := 19) B 6 rfl rfl (by decide) i_Program (B.2.2.2.1 _ k_332) rfl d_Program_addThing_29 ?_
  obtain ⟨v13, ev13, hf⟩ := xer_e hf
  refine mvn_top (xfi_145_6 ev13) ?_
  obtain ⟨q14, hf⟩ := xix_e hf
  refine mv_iast (pc := 32) B rfl (xin q14 (by decide)) d_Program_addThing_32 ?_
  refine mvn_hp (xwa_148 _ _ _ q14) (xw_f xLe_148 xSe_148 hf) (fun h15 hf => ?_)
  refine mv_aload_n (pc := 33) B d_Program_addThing_33 rfl 0 rfl ?_
  refine mv_getR (pc := 34) (ci := 7) (C := R_Program) (T := F_Program) (N := 19) B 5 rfl rfl (by decide) i_Program (B.2.2.2.1 _ k_330) rfl (hb.1.2.1 145 5 149 rfl) d_Program_addThing_34 ?_
  refine mv_aload_n (pc := 37) B d_Program_addThing_37 rfl 0 rfl ?_
  refine mv_getI (pc := 38) (ci := 7) (C := R_Program) (T := F_Program) (N := 19) B 1 rfl rfl (by decide) i_Program (B.2.2.2.1 _ k_315) rfl d_Program_addThing_38 ?_
  obtain ⟨v16, ev16, hf⟩ := xer_e hf
  refine mvn_top (xfi_145_1 ev16) ?_
  refine mv_iload_n (pc := 41) B d_Program_addThing_41 rfl 3 rfl ?_
  obtain ⟨q17, hf⟩ := xix_e hf
  refine mv_zast (pc := 42) B rfl (xin q17 (by decide)) d_Program_addThing_42 ?_
  rw [xnz]
  refine mvn_hp (xwa_149 _ _ _ q17) (xw_f xLe_149 xSe_149 hf) (fun h18 hf => ?_)
  refine mv_aload_n (pc := 43) B d_Program_addThing_43 rfl 0 rfl ?_
  refine mv_dup (pc := 44) B d_Program_addThing_44 rfl ?_
  refine mv_getI (pc := 45) (ci := 7) (C := R_Program) (T := F_Program) (N := 19) B 6 rfl rfl (by decide) i_Program (B.2.2.2.1 _ k_332) rfl d_Program_addThing_45 ?_
  obtain ⟨v19, ev19, hf⟩ := xer_e hf
  refine mvn_top (xfi_145_6 ev19) ?_
  refine mv_iload_n (pc := 48) B d_Program_addThing_48 rfl 2 rfl ?_
  refine mv_if_ne (pc := 49) (tgt := 56) B d_Program_addThing_49 rfl (fun h49 => ?_) (fun h49 => ?_)
  · skip
    have hf := x_eq_f (y := 0) h49 hf
    refine mv_iload_n (pc := 56) B d_Program_addThing_56 rfl 2 rfl ?_
    refine mv_lpick [0, 2] rfl ?_
    exact jn57 _ _ _ _ hf
  · skip
    have hf := x_eq_t (y := 0) h49 hf
    refine mv_iconst (pc := 52) (v := nI 1) B d_Program_addThing_52 (by decide) ?_
    refine mv_goto (pc := 53) (tgt := 57) B d_Program_addThing_53 rfl ?_
    refine mv_lpick [0, 2] rfl ?_
    exact jn57 _ _ _ _ hf
def g_Program_emit_42 (h : xE) : Option (Nat × xE) := xer (ep_g h.1 27) fun v1 => some ((xsub v1 1), h)
def g_Program_emit (h : xE) (a0 : Nat) (a1 : Nat) : Option (Nat × xE) := xer (ep_g h.1 27) fun v2 => bif xlt v2 8192 then (xer (ep_g h.1 27) fun v3 => bif Nat.blt v3 8192 then xw xL_154 xS_154 h v3 a0 fun h5 => xer (ep_g h5.1 27) fun v6 => bif Nat.blt v6 8192 then xw xL_155 xS_155 h5 v6 a1 fun h8 => xer (ep_g h8.1 27) fun v9 => xwi h8 27 (xadd v9 1) fun h10 => g_Program_emit_42  h10 else none else none) else (g_Program_emit_42  h)
set_option maxHeartbeats 4000000 in
set_option maxRecDepth 100000 in
theorem cx_Program_emit (l : Launch) {dA : FieldType → ClassId} {D : va_G} {al : Nat → Nat} {sk sv : Nat → Nat} (hi : mv_inj (mg dA D al me)) (b : mv_H) (hb : xR (mv_r b)) (h : xE) (a0 : Nat) (a1 : Nat) {rv : Nat} {rg : xE} (hf : g_Program_emit h a0 a1 = some (rv, rg)) : mv_C l y_Program_emit (Cond.code y_Program_emit b_Program_emit 4 (Option.some Jvm.ClassFile.FieldType.int) :: ma) ({ frames := 0, cells := 0, slots := 0, locals := 0 }) (mg dA D al me) (mK sk sv) [.ref (al 145), .int (nI a0), .long (nJ a1)] (ab b h) (mv_Ri (fun v σ1 => v = nI rv ∧ σ1 = ab b rg)) := by
  refine mv_C.ofV (cc := b_Program_emit) (nL := 4) (ret := (Option.some Jvm.ClassFile.FieldType.int)) (by decide +kernel) rfl hi (Nat.le_of_ble_eq_true rfl) ?_
  intro p e s m below meth c B hNs hr hnm hno
  have jn42 : ∀ (h : xE), g_Program_emit_42  h = some (rv, rg) → mv_V p l e ({ frames := 0, cells := 0, slots := 0, locals := 0 }) s m ([.ref (al 145), .int (nI a0), .long (nJ a1)] : List Value).toArray below meth c (mg dA D al me) 4 0 0 (mv_Q (mg dA D al me) below s 0 0 (mv_Ri (fun v σ1 => v = nI rv ∧ σ1 = ab b rg))) (ab b h) 42 [(0, .ref (al 145))] [] := by
    intro  h hf
    unfold g_Program_emit_42 at hf
    refine mv_aload_n (pc := 42) B d_Program_emit_42 rfl 0 rfl ?_
    refine mv_getI (pc := 43) (ci := 7) (C := R_Program) (T := F_Program) (N := 19) B 17 rfl rfl (by decide) i_Program (B.2.2.2.1 _ k_361) rfl d_Program_emit_43 ?_
    obtain ⟨v1, ev1, hf⟩ := xer_e hf
    refine mvn_top (xfi_145_17 ev1) ?_
    refine mv_iconst (pc := 46) (v := nI 1) B d_Program_emit_46 (by decide) ?_
    refine mvn_isub (pc := 47) B d_Program_emit_47 ?_
    exact mv_iret (pc := 48) B hr rfl d_Program_emit_48 (Nat.le_refl _) (Nat.le_refl _) ⟨_, rfl, xret_i hf⟩
  unfold g_Program_emit at hf
  refine mv_aload_n (pc := 0) B d_Program_emit_0 rfl 0 rfl ?_
  refine mv_getI (pc := 1) (ci := 7) (C := R_Program) (T := F_Program) (N := 19) B 17 rfl rfl (by decide) i_Program (B.2.2.2.1 _ k_361) rfl d_Program_emit_1 ?_
  obtain ⟨v2, ev2, hf⟩ := xer_e hf
  refine mvn_top (xfi_145_17 ev2) ?_
  refine mv_aload_n (pc := 4) B d_Program_emit_4 rfl 0 rfl ?_
  refine mv_getR (pc := 5) (ci := 7) (C := R_Program) (T := F_Program) (N := 19) B 15 rfl rfl (by decide) i_Program (B.2.2.2.1 _ k_357) rfl (hb.1.2.1 145 15 154 rfl) d_Program_emit_5 ?_
  refine mv_alenI (pc := 8) (v := nI 8192) B rfl rfl d_Program_emit_8 ?_
  refine mv_icmp_ge (pc := 9) (tgt := 42) B d_Program_emit_9 rfl (fun h9 => ?_) (fun h9 => ?_)
  · skip
    have hf := x_le_t h9 hf
    refine mv_lpick [0] rfl ?_
    exact jn42  _ hf
  · skip
    have hf := x_le_f h9 hf
    refine mv_aload_n (pc := 12) B d_Program_emit_12 rfl 0 rfl ?_
    refine mv_getR (pc := 13) (ci := 7) (C := R_Program) (T := F_Program) (N := 19) B 15 rfl rfl (by decide) i_Program (B.2.2.2.1 _ k_357) rfl (hb.1.2.1 145 15 154 rfl) d_Program_emit_13 ?_
    refine mv_aload_n (pc := 16) B d_Program_emit_16 rfl 0 rfl ?_
    refine mv_getI (pc := 17) (ci := 7) (C := R_Program) (T := F_Program) (N := 19) B 17 rfl rfl (by decide) i_Program (B.2.2.2.1 _ k_361) rfl d_Program_emit_17 ?_
    obtain ⟨v3, ev3, hf⟩ := xer_e hf
    refine mvn_top (xfi_145_17 ev3) ?_
    refine mv_iload_n (pc := 20) B d_Program_emit_20 rfl 1 rfl ?_
    obtain ⟨q4, hf⟩ := xix_e hf
    refine mv_iast (pc := 21) B rfl (xin q4 (by decide)) d_Program_emit_21 ?_
    refine mvn_hp (xwa_154 _ _ _ q4) (xw_f xLe_154 xSe_154 hf) (fun h5 hf => ?_)
    refine mv_aload_n (pc := 22) B d_Program_emit_22 rfl 0 rfl ?_
    refine mv_getR (pc := 23) (ci := 7) (C := R_Program) (T := F_Program) (N := 19) B 16 rfl rfl (by decide) i_Program (B.2.2.2.1 _ k_359) rfl (hb.1.2.1 145 16 155 rfl) d_Program_emit_23 ?_
    refine mv_aload_n (pc := 26) B d_Program_emit_26 rfl 0 rfl ?_
    refine mv_getI (pc := 27) (ci := 7) (C := R_Program) (T := F_Program) (N := 19) B 17 rfl rfl (by decide) i_Program (B.2.2.2.1 _ k_361) rfl d_Program_emit_27 ?_
    obtain ⟨v6, ev6, hf⟩ := xer_e hf
    refine mvn_top (xfi_145_17 ev6) ?_
    refine mv_lload_n (pc := 30) B d_Program_emit_30 rfl 2 rfl ?_
    obtain ⟨q7, hf⟩ := xix_e hf
    refine mv_last (pc := 31) B rfl (xin q7 (by decide)) d_Program_emit_31 ?_
    refine mvn_hp (xwb_155 _ _ _ q7) (xw_f xLe_155 xSe_155 hf) (fun h8 hf => ?_)
    refine mv_aload_n (pc := 32) B d_Program_emit_32 rfl 0 rfl ?_
    refine mv_dup (pc := 33) B d_Program_emit_33 rfl ?_
    refine mv_getI (pc := 34) (ci := 7) (C := R_Program) (T := F_Program) (N := 19) B 17 rfl rfl (by decide) i_Program (B.2.2.2.1 _ k_361) rfl d_Program_emit_34 ?_
    obtain ⟨v9, ev9, hf⟩ := xer_e hf
    refine mvn_top (xfi_145_17 ev9) ?_
    refine mv_iconst (pc := 37) (v := nI 1) B d_Program_emit_37 (by decide) ?_
    refine mvn_iadd (pc := 38) B d_Program_emit_38 ?_
    refine mv_putI (pc := 39) (ci := 7) (C := R_Program) (T := F_Program) (N := 19) B 17 rfl rfl (by decide) i_Program t_Program_ok n_Program (B.2.2.2.1 _ k_361) rfl rfl rfl rfl d_Program_emit_39 ?_
    refine mvn_hp (xwi_145_17 _ _ _) (xwi_f hf) (fun h10 hf => ?_)
    refine mv_lpick [0] rfl ?_
    exact jn42  _ hf
def g_Program_aim (h : xE) (a0 : Nat) : Option xE := bif xlt a0 0 then (some h) else (xer (ep_g h.1 27) fun v1 => bif Nat.blt a0 8192 then xw xL_155 xS_155 h a0 (xi2l v1) fun h3 => some h3 else none)
set_option maxHeartbeats 4000000 in
set_option maxRecDepth 100000 in
theorem cx_Program_aim (l : Launch) {dA : FieldType → ClassId} {D : va_G} {al : Nat → Nat} {sk sv : Nat → Nat} (hi : mv_inj (mg dA D al me)) (b : mv_H) (hb : xR (mv_r b)) (h : xE) (a0 : Nat) {rg : xE} (hf : g_Program_aim h a0 = some rg) : mv_C l y_Program_aim (Cond.code y_Program_aim b_Program_aim 2 (Option.none : Option Jvm.ClassFile.FieldType) :: ma) ({ frames := 0, cells := 0, slots := 0, locals := 0 }) (mg dA D al me) (mK sk sv) [.ref (al 145), .int (nI a0)] (ab b h) (mv_Rv (fun σ1 => σ1 = ab b rg)) := by
  refine mv_C.ofV (cc := b_Program_aim) (nL := 2) (ret := (Option.none : Option Jvm.ClassFile.FieldType)) (by decide +kernel) rfl hi (Nat.le_of_ble_eq_true rfl) ?_
  intro p e s m below meth c B hNs hr hnm hno
  unfold g_Program_aim at hf
  refine mv_iload_n (pc := 0) B d_Program_aim_0 rfl 1 rfl ?_
  refine mv_if_lt (pc := 1) (tgt := 15) B d_Program_aim_1 rfl (fun h1 => ?_) (fun h1 => ?_)
  · skip
    have hf := x_lt_t (y := 0) h1 hf
    exact mv_vret (pc := 15) B hr d_Program_aim_15 (Nat.le_refl _) (Nat.le_refl _) ⟨rfl, xret_v hf⟩
  · skip
    have hf := x_lt_f (y := 0) h1 hf
    refine mv_aload_n (pc := 4) B d_Program_aim_4 rfl 0 rfl ?_
    refine mv_getR (pc := 5) (ci := 7) (C := R_Program) (T := F_Program) (N := 19) B 16 rfl rfl (by decide) i_Program (B.2.2.2.1 _ k_359) rfl (hb.1.2.1 145 16 155 rfl) d_Program_aim_5 ?_
    refine mv_iload_n (pc := 8) B d_Program_aim_8 rfl 1 rfl ?_
    refine mv_aload_n (pc := 9) B d_Program_aim_9 rfl 0 rfl ?_
    refine mv_getI (pc := 10) (ci := 7) (C := R_Program) (T := F_Program) (N := 19) B 17 rfl rfl (by decide) i_Program (B.2.2.2.1 _ k_361) rfl d_Program_aim_10 ?_
    obtain ⟨v1, ev1, hf⟩ := xer_e hf
    refine mvn_top (xfi_145_17 ev1) ?_
    refine mvn_i2l (pc := 13) B d_Program_aim_13 ?_
    obtain ⟨q2, hf⟩ := xix_e hf
    refine mv_last (pc := 14) B rfl (xin q2 (by decide)) d_Program_aim_14 ?_
    refine mvn_hp (xwb_155 _ _ _ q2) (xw_f xLe_155 xSe_155 hf) (fun h3 hf => ?_)
    exact mv_vret (pc := 15) B hr d_Program_aim_15 (Nat.le_refl _) (Nat.le_refl _) ⟨rfl, xret_v hf⟩
def gF_Program_aimAll_4 (k4 : Nat → Nat → xE → Option xE) (x2 : Nat) (x3 : Nat) (h : xE) : Option xE := xfz x2 fun x2 => xfz x3 fun x3 => xer (ep_g h.1 27) fun v1 => bif xlt x3 v1 then (bif xlt x2 0 then (some h) else (bif Nat.blt x2 8192 then xer (ep_g (xL_155 h.2) x2) fun v3 => xer (ep_g h.1 27) fun v4 => bif Nat.blt x2 8192 then xw xL_155 xS_155 h x2 (xi2l v4) fun h6 => k4 (v3 % 4294967296) (xadd x3 1) h6 else none else none)) else (some h)
def g_Program_aimAll_4 : Nat → Nat → Nat → xE → Option xE
  | 0 => fun _ _ _ => none
  | nn + 1 => gF_Program_aimAll_4 (g_Program_aimAll_4 nn)
def g_Program_aimAll (h : xE) (a0 : Nat) : Option xE := g_Program_aimAll_4 200000 a0 0 h
set_option maxHeartbeats 4000000 in
set_option maxRecDepth 100000 in
theorem cx_Program_aimAll (l : Launch) {dA : FieldType → ClassId} {D : va_G} {al : Nat → Nat} {sk sv : Nat → Nat} (hi : mv_inj (mg dA D al me)) (b : mv_H) (hb : xR (mv_r b)) (h : xE) (a0 : Nat) {rg : xE} (hf : g_Program_aimAll h a0 = some rg) : mv_C l y_Program_aimAll (Cond.code y_Program_aimAll b_Program_aimAll 5 (Option.none : Option Jvm.ClassFile.FieldType) :: ma) ({ frames := 0, cells := 0, slots := 0, locals := 0 }) (mg dA D al me) (mK sk sv) [.ref (al 145), .int (nI a0)] (ab b h) (mv_Rv (fun σ1 => σ1 = ab b rg)) := by
  refine mv_C.ofV (cc := b_Program_aimAll) (nL := 5) (ret := (Option.none : Option Jvm.ClassFile.FieldType)) (by decide +kernel) rfl hi (Nat.le_of_ble_eq_true rfl) ?_
  intro p e s m below meth c B hNs hr hnm hno
  have lp4 : ∀ (nn4 : Nat) (x2 : Nat) (x3 : Nat) (h : xE), g_Program_aimAll_4 nn4 x2 x3 h = some rg → mv_V p l e ({ frames := 0, cells := 0, slots := 0, locals := 0 }) s m ([.ref (al 145), .int (nI a0)] : List Value).toArray below meth c (mg dA D al me) 5 0 0 (mv_Q (mg dA D al me) below s 0 0 (mv_Rv (fun σ1 => σ1 = ab b rg))) (ab b h) 4 [(0, .ref (al 145)), (2, .int (nI x2)), (3, .int (nI x3))] [] := by
    intro nn4
    induction nn4 with
    | zero => intro x2 x3 h hf; cases hf
    | succ nn4 ih4 =>
      intro x2 x3 h hf
      have hf : gF_Program_aimAll_4 (g_Program_aimAll_4 nn4) x2 x3 h = some rg := hf
      unfold gF_Program_aimAll_4 at hf
      have hf := (xfz_e _ _).symm.trans hf
      have hf := (xfz_e _ _).symm.trans hf
      refine mv_iload_n (pc := 4) B d_Program_aimAll_4 rfl 2 rfl ?_
      refine mv_aload_n (pc := 5) B d_Program_aimAll_5 rfl 0 rfl ?_
      refine mv_getI (pc := 6) (ci := 7) (C := R_Program) (T := F_Program) (N := 19) B 17 rfl rfl (by decide) i_Program (B.2.2.2.1 _ k_361) rfl d_Program_aimAll_6 ?_
      obtain ⟨v1, ev1, hf⟩ := xer_e hf
      refine mvn_top (xfi_145_17 ev1) ?_
      refine mv_icmp_ge (pc := 9) (tgt := 45) B d_Program_aimAll_9 rfl (fun h9 => ?_) (fun h9 => ?_)
      · skip
        have hf := x_le_t h9 hf
        exact mv_vret (pc := 45) B hr d_Program_aimAll_45 (Nat.le_refl _) (Nat.le_refl _) ⟨rfl, xret_v hf⟩
      · skip
        have hf := x_le_f h9 hf
        refine mv_iload_n (pc := 12) B d_Program_aimAll_12 rfl 1 rfl ?_
        refine mv_if_lt (pc := 13) (tgt := 45) B d_Program_aimAll_13 rfl (fun h13 => ?_) (fun h13 => ?_)
        · skip
          have hf := x_lt_t (y := 0) h13 hf
          exact mv_vret (pc := 45) B hr d_Program_aimAll_45 (Nat.le_refl _) (Nat.le_refl _) ⟨rfl, xret_v hf⟩
        · skip
          have hf := x_lt_f (y := 0) h13 hf
          refine mv_aload_n (pc := 16) B d_Program_aimAll_16 rfl 0 rfl ?_
          refine mv_getR (pc := 17) (ci := 7) (C := R_Program) (T := F_Program) (N := 19) B 16 rfl rfl (by decide) i_Program (B.2.2.2.1 _ k_359) rfl (hb.1.2.1 145 16 155 rfl) d_Program_aimAll_17 ?_
          refine mv_iload_n (pc := 20) B d_Program_aimAll_20 rfl 1 rfl ?_
          obtain ⟨q2, hf⟩ := xix_e hf
          refine mv_lald (pc := 21) B rfl (xin q2 (by decide)) d_Program_aimAll_21 ?_
          obtain ⟨v3, ev3, hf⟩ := xer_e hf
          refine mvn_topl (xfb_155 q2 ev3) ?_
          refine mvn_l2i (pc := 22) B d_Program_aimAll_22 ?_
          refine mv_istore (pc := 23) B d_Program_aimAll_23 (by decide) rfl ?_
          refine mv_aload_n (pc := 25) B d_Program_aimAll_25 rfl 1 rfl ?_
          refine mv_getR (pc := 26) (ci := 7) (C := R_Program) (T := F_Program) (N := 19) B 16 rfl rfl (by decide) i_Program (B.2.2.2.1 _ k_359) rfl (hb.1.2.1 145 16 155 rfl) d_Program_aimAll_26 ?_
          refine mv_iload_n (pc := 29) B d_Program_aimAll_29 rfl 2 rfl ?_
          refine mv_aload_n (pc := 30) B d_Program_aimAll_30 rfl 1 rfl ?_
          refine mv_getI (pc := 31) (ci := 7) (C := R_Program) (T := F_Program) (N := 19) B 17 rfl rfl (by decide) i_Program (B.2.2.2.1 _ k_361) rfl d_Program_aimAll_31 ?_
          obtain ⟨v4, ev4, hf⟩ := xer_e hf
          refine mvn_top (xfi_145_17 ev4) ?_
          refine mvn_i2l (pc := 34) B d_Program_aimAll_34 ?_
          obtain ⟨q5, hf⟩ := xix_e hf
          refine mv_last (pc := 35) B rfl (xin q5 (by decide)) d_Program_aimAll_35 ?_
          refine mvn_hp (xwb_155 _ _ _ q5) (xw_f xLe_155 xSe_155 hf) (fun h6 hf => ?_)
          refine mv_iload (pc := 36) B d_Program_aimAll_36 0 rfl ?_
          refine mv_istore_n (pc := 38) B d_Program_aimAll_38 rfl (by decide) rfl ?_
          refine mvn_iinc (pc := 39) (j := 3) (v := 1) B d_Program_aimAll_39 rfl (by decide) (by decide) rfl ?_
          refine mv_goto (pc := 42) (tgt := 4) B d_Program_aimAll_42 rfl ?_
          refine mv_lpick [3, 1, 0] rfl ?_
          exact ih4 _ _ _ hf
  unfold g_Program_aimAll at hf
  refine mv_iload_n (pc := 0) B d_Program_aimAll_0 rfl 1 rfl ?_
  refine mv_istore_n (pc := 1) B d_Program_aimAll_1 rfl (by decide) rfl ?_
  refine mv_iconst (pc := 2) (v := nI 0) B d_Program_aimAll_2 (by decide) ?_
  refine mv_istore_n (pc := 3) B d_Program_aimAll_3 rfl (by decide) rfl ?_
  refine mv_lpick [2, 1, 0] rfl ?_
  exact lp4 _ _ _ _ hf
def g_Program_apart (h : xE) (a0 : Nat) (a1 : Nat) : Option (Nat × xE) := bif Nat.blt a0 48 then xer (ep_g (xL_150 h.2) a0) fun v2 => bif Nat.blt a1 48 then xer (ep_g (xL_150 h.2) a1) fun v4 => bif Nat.blt a0 48 then xer (ep_g (xL_151 h.2) a0) fun v6 => bif Nat.blt a1 48 then xer (ep_g (xL_151 h.2) a1) fun v8 => bif xeq (ycmp (Nat.land (Nat.land v2 v4) (Nat.xor v6 v8)) 0) 0 then (bif Nat.blt 0 2 then some (0, h) else none) else (bif Nat.blt 1 2 then some (1, h) else none) else none else none else none else none
set_option maxHeartbeats 4000000 in
set_option maxRecDepth 100000 in
theorem cx_Program_apart (l : Launch) {dA : FieldType → ClassId} {D : va_G} {al : Nat → Nat} {sk sv : Nat → Nat} (hi : mv_inj (mg dA D al me)) (b : mv_H) (hb : xR (mv_r b)) (h : xE) (a0 : Nat) (a1 : Nat) {rv : Nat} {rg : xE} (hf : g_Program_apart h a0 a1 = some (rv, rg)) : mv_C l y_Program_apart (Cond.code y_Program_apart b_Program_apart 3 (Option.some Jvm.ClassFile.FieldType.boolean) :: ma) ({ frames := 0, cells := 0, slots := 0, locals := 0 }) (mg dA D al me) (mK sk sv) [.ref (al 145), .int (nI a0), .int (nI a1)] (ab b h) (mv_Ri (fun v σ1 => v = nI rv ∧ σ1 = ab b rg)) := by
  refine mv_C.ofV (cc := b_Program_apart) (nL := 3) (ret := (Option.some Jvm.ClassFile.FieldType.boolean)) (by decide +kernel) rfl hi (Nat.le_of_ble_eq_true rfl) ?_
  intro p e s m below meth c B hNs hr hnm hno
  unfold g_Program_apart at hf
  refine mv_aload_n (pc := 0) B d_Program_apart_0 rfl 0 rfl ?_
  refine mv_getR (pc := 1) (ci := 7) (C := R_Program) (T := F_Program) (N := 19) B 11 rfl rfl (by decide) i_Program (B.2.2.2.1 _ k_348) rfl (hb.1.2.1 145 11 150 rfl) d_Program_apart_1 ?_
  refine mv_iload_n (pc := 4) B d_Program_apart_4 rfl 1 rfl ?_
  obtain ⟨q1, hf⟩ := xix_e hf
  refine mv_lald (pc := 5) B rfl (xin q1 (by decide)) d_Program_apart_5 ?_
  obtain ⟨v2, ev2, hf⟩ := xer_e hf
  refine mvn_topl (xfb_150 q1 ev2) ?_
  refine mv_aload_n (pc := 6) B d_Program_apart_6 rfl 0 rfl ?_
  refine mv_getR (pc := 7) (ci := 7) (C := R_Program) (T := F_Program) (N := 19) B 11 rfl rfl (by decide) i_Program (B.2.2.2.1 _ k_348) rfl (hb.1.2.1 145 11 150 rfl) d_Program_apart_7 ?_
  refine mv_iload_n (pc := 10) B d_Program_apart_10 rfl 2 rfl ?_
  obtain ⟨q3, hf⟩ := xix_e hf
  refine mv_lald (pc := 11) B rfl (xin q3 (by decide)) d_Program_apart_11 ?_
  obtain ⟨v4, ev4, hf⟩ := xer_e hf
  refine mvn_topl (xfb_150 q3 ev4) ?_
  refine mvn_land (pc := 12) B d_Program_apart_12 ?_
  refine mv_aload_n (pc := 13) B d_Program_apart_13 rfl 0 rfl ?_
  refine mv_getR (pc := 14) (ci := 7) (C := R_Program) (T := F_Program) (N := 19) B 12 rfl rfl (by decide) i_Program (B.2.2.2.1 _ k_351) rfl (hb.1.2.1 145 12 151 rfl) d_Program_apart_14 ?_
  refine mv_iload_n (pc := 17) B d_Program_apart_17 rfl 1 rfl ?_
  obtain ⟨q5, hf⟩ := xix_e hf
  refine mv_lald (pc := 18) B rfl (xin q5 (by decide)) d_Program_apart_18 ?_
  obtain ⟨v6, ev6, hf⟩ := xer_e hf
  refine mvn_topl (xfb_151 q5 ev6) ?_
  refine mv_aload_n (pc := 19) B d_Program_apart_19 rfl 0 rfl ?_
  refine mv_getR (pc := 20) (ci := 7) (C := R_Program) (T := F_Program) (N := 19) B 12 rfl rfl (by decide) i_Program (B.2.2.2.1 _ k_351) rfl (hb.1.2.1 145 12 151 rfl) d_Program_apart_20 ?_
  refine mv_iload_n (pc := 23) B d_Program_apart_23 rfl 2 rfl ?_
  obtain ⟨q7, hf⟩ := xix_e hf
  refine mv_lald (pc := 24) B rfl (xin q7 (by decide)) d_Program_apart_24 ?_
  obtain ⟨v8, ev8, hf⟩ := xer_e hf
  refine mvn_topl (xfb_151 q7 ev8) ?_
  refine mvn_lxor (pc := 25) B d_Program_apart_25 ?_
  refine mvn_land (pc := 26) B d_Program_apart_26 ?_
  refine mv_lconst (pc := 27) (v := nJ 0) B d_Program_apart_27 (by decide) ?_
  refine mvn_lcmp (pc := 28) B d_Program_apart_28 ?_
  refine mv_if_eq (pc := 29) (tgt := 36) B d_Program_apart_29 rfl (fun h29 => ?_) (fun h29 => ?_)
  · skip
    have hf := x_eq_t (y := 0) h29 hf
    refine mv_iconst (pc := 36) (v := nI 0) B d_Program_apart_36 (by decide) ?_
    obtain ⟨q9, hf⟩ := xix_e hf
    exact mv_iret (pc := 37) B hr (xz1 q9) d_Program_apart_37 (Nat.le_refl _) (Nat.le_refl _) ⟨_, rfl, xret_i hf⟩
  · skip
    have hf := x_eq_f (y := 0) h29 hf
    refine mv_iconst (pc := 32) (v := nI 1) B d_Program_apart_32 (by decide) ?_
    refine mv_goto (pc := 33) (tgt := 37) B d_Program_apart_33 rfl ?_
    obtain ⟨q10, hf⟩ := xix_e hf
    exact mv_iret (pc := 37) B hr (xz1 q10) d_Program_apart_37 (Nat.le_refl _) (Nat.le_refl _) ⟨_, rfl, xret_i hf⟩
def g_Program_addOp_83 (k8 : Nat → Nat → Nat → Nat → xE → Option xE) (x2 : Nat) (x3 : Nat) (x7 : Nat) (y0 : Nat) (y1 : Nat) (h : xE) : Option xE := k8 x2 x3 (Nat.lor y1 (xi2l y0)) (xadd x7 1) h
def g_Program_addOp_64 (k8 : Nat → Nat → Nat → Nat → xE → Option xE) (x2 : Nat) (x5 : Nat) (x7 : Nat) (x8 : Nat) (y0 : Nat) (y1 : Nat) (h : xE) : Option xE := bif xeq x8 49 then (g_Program_addOp_83 k8 x2 (Nat.lor y1 (xi2l y0)) x7 1 (yshl x5 1) h) else (g_Program_addOp_83 k8 x2 (Nat.lor y1 (xi2l y0)) x7 0 (yshl x5 1) h)
def g_Program_addOp_59 (k8 : Nat → Nat → Nat → Nat → xE → Option xE) (x2 : Nat) (x5 : Nat) (x7 : Nat) (x8 : Nat) (y0 : Nat) (h : xE) : Option xE := g_Program_addOp_64 k8 x2 x5 x7 x8 1 y0 h
def gF_Program_addOp_8 (k8 : Nat → Nat → Nat → Nat → xE → Option xE) (x2 : Nat) (x3 : Nat) (x5 : Nat) (x7 : Nat) (h : xE) : Option xE := xfz x2 fun x2 => xfz x3 fun x3 => xfz x5 fun x5 => xfz x7 fun x7 => xer (ep_g h.1 20) fun v1 => bif xlt x7 v1 then (bif Nat.blt (xadd x2 x7) 8192 then xer (ep_g (xL_144 h.2) (xadd x2 x7)) fun v15 => xer (ep_g h.1 26) fun v16 => bif Nat.blt (xadd (xmul v16 64) x7) 3072 then xw xL_153 xS_153 h (xadd (xmul v16 64) x7) (xi2b v15) fun h18 => bif xeq v15 48 then (g_Program_addOp_59 k8 x2 x5 x7 v15 (yshl x3 1) h18) else (bif xeq v15 49 then (g_Program_addOp_59 k8 x2 x5 x7 v15 (yshl x3 1) h18) else (g_Program_addOp_64 k8 x2 x5 x7 v15 0 (yshl x3 1) h18)) else none else none) else (xer (ep_g h.1 26) fun v2 => bif Nat.blt v2 48 then xw xL_150 xS_150 h v2 x3 fun h4 => xer (ep_g h4.1 26) fun v5 => bif Nat.blt v5 48 then xw xL_151 xS_151 h4 v5 x5 fun h7 => xer (ep_g h7.1 26) fun v8 => xer (ep_g h7.1 27) fun v9 => bif Nat.blt v8 48 then xw xL_152 xS_152 h7 v8 v9 fun h11 => xer (ep_g h11.1 26) fun v12 => xwi h11 26 (xadd v12 1) fun h13 => some h13 else none else none else none)
def g_Program_addOp_8 : Nat → Nat → Nat → Nat → Nat → xE → Option xE
  | 0 => fun _ _ _ _ _ => none
  | nn + 1 => gF_Program_addOp_8 (g_Program_addOp_8 nn)
def g_Program_addOp (h : xE) (a1 : Nat) : Option xE := g_Program_addOp_8 200000 a1 0 0 0 h
set_option maxHeartbeats 4000000 in
set_option maxRecDepth 100000 in
theorem cx_Program_addOp (l : Launch) {dA : FieldType → ClassId} {D : va_G} {al : Nat → Nat} {sk sv : Nat → Nat} (hi : mv_inj (mg dA D al me)) (b : mv_H) (hb : xR (mv_r b)) (h : xE) (a1 : Nat) {rg : xE} (hf : g_Program_addOp h a1 = some rg) : mv_C l y_Program_addOp (Cond.code y_Program_addOp b_Program_addOp 9 (Option.none : Option Jvm.ClassFile.FieldType) :: ma) ({ frames := 0, cells := 0, slots := 0, locals := 0 }) (mg dA D al me) (mK sk sv) [.ref (al 145), .ref (al 144), .int (nI a1)] (ab b h) (mv_Rv (fun σ1 => σ1 = ab b rg)) := by
  refine mv_C.ofV (cc := b_Program_addOp) (nL := 9) (ret := (Option.none : Option Jvm.ClassFile.FieldType)) (by decide +kernel) rfl hi (Nat.le_of_ble_eq_true rfl) ?_
  intro p e s m below meth c B hNs hr hnm hno
  have lp8 : ∀ (nn8 : Nat) (x2 : Nat) (x3 : Nat) (x5 : Nat) (x7 : Nat) (h : xE), g_Program_addOp_8 nn8 x2 x3 x5 x7 h = some rg → mv_V p l e ({ frames := 0, cells := 0, slots := 0, locals := 0 }) s m ([.ref (al 145), .ref (al 144), .int (nI a1)] : List Value).toArray below meth c (mg dA D al me) 9 0 0 (mv_Q (mg dA D al me) below s 0 0 (mv_Rv (fun σ1 => σ1 = ab b rg))) (ab b h) 8 [(0, .ref (al 145)), (1, .ref (al 144)), (2, .int (nI x2)), (3, .long (nJ x3)), (5, .long (nJ x5)), (7, .int (nI x7))] [] := by
    intro nn8
    induction nn8 with
    | zero => intro x2 x3 x5 x7 h hf; cases hf
    | succ nn8 ih8 =>
      intro x2 x3 x5 x7 h hf
      have jn83 : ∀ (x2 : Nat) (x3 : Nat) (x7 : Nat) (y0 : Nat) (y1 : Nat) (h : xE), g_Program_addOp_83 (g_Program_addOp_8 nn8) x2 x3 x7 y0 y1 h = some rg → mv_V p l e ({ frames := 0, cells := 0, slots := 0, locals := 0 }) s m ([.ref (al 145), .ref (al 144), .int (nI a1)] : List Value).toArray below meth c (mg dA D al me) 9 0 0 (mv_Q (mg dA D al me) below s 0 0 (mv_Rv (fun σ1 => σ1 = ab b rg))) (ab b h) 83 [(0, .ref (al 145)), (1, .ref (al 144)), (2, .int (nI x2)), (3, .long (nJ x3)), (7, .int (nI x7))] [.int (nI y0), .long (nJ y1)] := by
        intro x2 x3 x7 y0 y1 h hf
        unfold g_Program_addOp_83 at hf
        refine mvn_i2l (pc := 83) B d_Program_addOp_83 ?_
        refine mvn_lor (pc := 84) B d_Program_addOp_84 ?_
        refine mv_lstore (pc := 85) B d_Program_addOp_85 (by decide) rfl ?_
        refine mvn_iinc (pc := 87) (j := 5) (v := 1) B d_Program_addOp_87 rfl (by decide) (by decide) rfl ?_
        refine mv_goto (pc := 90) (tgt := 8) B d_Program_addOp_90 rfl ?_
        refine mv_lpick [2, 3, 4, 5, 1, 0] rfl ?_
        exact ih8 _ _ _ _ _ hf
      have jn64 : ∀ (x2 : Nat) (x5 : Nat) (x7 : Nat) (x8 : Nat) (y0 : Nat) (y1 : Nat) (h : xE), g_Program_addOp_64 (g_Program_addOp_8 nn8) x2 x5 x7 x8 y0 y1 h = some rg → mv_V p l e ({ frames := 0, cells := 0, slots := 0, locals := 0 }) s m ([.ref (al 145), .ref (al 144), .int (nI a1)] : List Value).toArray below meth c (mg dA D al me) 9 0 0 (mv_Q (mg dA D al me) below s 0 0 (mv_Rv (fun σ1 => σ1 = ab b rg))) (ab b h) 64 [(0, .ref (al 145)), (1, .ref (al 144)), (2, .int (nI x2)), (5, .long (nJ x5)), (7, .int (nI x7)), (8, .int (nI x8))] [.int (nI y0), .long (nJ y1)] := by
        intro x2 x5 x7 x8 y0 y1 h hf
        unfold g_Program_addOp_64 at hf
        refine mvn_i2l (pc := 64) B d_Program_addOp_64 ?_
        refine mvn_lor (pc := 65) B d_Program_addOp_65 ?_
        refine mv_lstore_n (pc := 66) B d_Program_addOp_66 rfl (by decide) rfl ?_
        refine mv_lload (pc := 67) B d_Program_addOp_67 4 rfl ?_
        refine mv_iconst (pc := 69) (v := nI 1) B d_Program_addOp_69 (by decide) ?_
        refine mvn_lshl (pc := 70) B d_Program_addOp_70 ?_
        refine mv_iload (pc := 71) B d_Program_addOp_71 6 rfl ?_
        refine mv_bipush (pc := 73) (v := nI 49) B d_Program_addOp_73 (by decide) ?_
        refine mv_icmp_ne (pc := 75) (tgt := 82) B d_Program_addOp_75 rfl (fun h75 => ?_) (fun h75 => ?_)
        · skip
          have hf := x_eq_f h75 hf
          refine mv_iconst (pc := 82) (v := nI 0) B d_Program_addOp_82 (by decide) ?_
          refine mv_lpick [1, 2, 3, 0, 5] rfl ?_
          exact jn83 _ _ _ _ _ _ hf
        · skip
          have hf := x_eq_t h75 hf
          refine mv_iconst (pc := 78) (v := nI 1) B d_Program_addOp_78 (by decide) ?_
          refine mv_goto (pc := 79) (tgt := 83) B d_Program_addOp_79 rfl ?_
          refine mv_lpick [1, 2, 3, 0, 5] rfl ?_
          exact jn83 _ _ _ _ _ _ hf
      have jn59 : ∀ (x2 : Nat) (x5 : Nat) (x7 : Nat) (x8 : Nat) (y0 : Nat) (h : xE), g_Program_addOp_59 (g_Program_addOp_8 nn8) x2 x5 x7 x8 y0 h = some rg → mv_V p l e ({ frames := 0, cells := 0, slots := 0, locals := 0 }) s m ([.ref (al 145), .ref (al 144), .int (nI a1)] : List Value).toArray below meth c (mg dA D al me) 9 0 0 (mv_Q (mg dA D al me) below s 0 0 (mv_Rv (fun σ1 => σ1 = ab b rg))) (ab b h) 59 [(0, .ref (al 145)), (1, .ref (al 144)), (2, .int (nI x2)), (5, .long (nJ x5)), (7, .int (nI x7)), (8, .int (nI x8))] [.long (nJ y0)] := by
        intro x2 x5 x7 x8 y0 h hf
        unfold g_Program_addOp_59 at hf
        refine mv_iconst (pc := 59) (v := nI 1) B d_Program_addOp_59 (by decide) ?_
        refine mv_goto (pc := 60) (tgt := 64) B d_Program_addOp_60 rfl ?_
        refine mv_lpick [0, 1, 2, 3, 4, 5] rfl ?_
        exact jn64 _ _ _ _ _ _ _ hf
      have hf : gF_Program_addOp_8 (g_Program_addOp_8 nn8) x2 x3 x5 x7 h = some rg := hf
      unfold gF_Program_addOp_8 at hf
      have hf := (xfz_e _ _).symm.trans hf
      have hf := (xfz_e _ _).symm.trans hf
      have hf := (xfz_e _ _).symm.trans hf
      have hf := (xfz_e _ _).symm.trans hf
      refine mv_iload (pc := 8) B d_Program_addOp_8 5 rfl ?_
      refine mv_aload_n (pc := 10) B d_Program_addOp_10 rfl 0 rfl ?_
      refine mv_getI (pc := 11) (ci := 7) (C := R_Program) (T := F_Program) (N := 19) B 0 rfl rfl (by decide) i_Program (B.2.2.2.1 _ k_311) rfl d_Program_addOp_11 ?_
      obtain ⟨v1, ev1, hf⟩ := xer_e hf
      refine mvn_top (xfi_145_0 ev1) ?_
      refine mv_icmp_ge (pc := 14) (tgt := 93) B d_Program_addOp_14 rfl (fun h14 => ?_) (fun h14 => ?_)
      · skip
        have hf := x_le_t h14 hf
        refine mv_aload_n (pc := 93) B d_Program_addOp_93 rfl 0 rfl ?_
        refine mv_getR (pc := 94) (ci := 7) (C := R_Program) (T := F_Program) (N := 19) B 11 rfl rfl (by decide) i_Program (B.2.2.2.1 _ k_348) rfl (hb.1.2.1 145 11 150 rfl) d_Program_addOp_94 ?_
        refine mv_aload_n (pc := 97) B d_Program_addOp_97 rfl 0 rfl ?_
        refine mv_getI (pc := 98) (ci := 7) (C := R_Program) (T := F_Program) (N := 19) B 10 rfl rfl (by decide) i_Program (B.2.2.2.1 _ k_345) rfl d_Program_addOp_98 ?_
        obtain ⟨v2, ev2, hf⟩ := xer_e hf
        refine mvn_top (xfi_145_10 ev2) ?_
        refine mv_lload_n (pc := 101) B d_Program_addOp_101 rfl 3 rfl ?_
        obtain ⟨q3, hf⟩ := xix_e hf
        refine mv_last (pc := 102) B rfl (xin q3 (by decide)) d_Program_addOp_102 ?_
        refine mvn_hp (xwb_150 _ _ _ q3) (xw_f xLe_150 xSe_150 hf) (fun h4 hf => ?_)
        refine mv_aload_n (pc := 103) B d_Program_addOp_103 rfl 0 rfl ?_
        refine mv_getR (pc := 104) (ci := 7) (C := R_Program) (T := F_Program) (N := 19) B 12 rfl rfl (by decide) i_Program (B.2.2.2.1 _ k_351) rfl (hb.1.2.1 145 12 151 rfl) d_Program_addOp_104 ?_
        refine mv_aload_n (pc := 107) B d_Program_addOp_107 rfl 0 rfl ?_
        refine mv_getI (pc := 108) (ci := 7) (C := R_Program) (T := F_Program) (N := 19) B 10 rfl rfl (by decide) i_Program (B.2.2.2.1 _ k_345) rfl d_Program_addOp_108 ?_
        obtain ⟨v5, ev5, hf⟩ := xer_e hf
        refine mvn_top (xfi_145_10 ev5) ?_
        refine mv_lload (pc := 111) B d_Program_addOp_111 4 rfl ?_
        obtain ⟨q6, hf⟩ := xix_e hf
        refine mv_last (pc := 113) B rfl (xin q6 (by decide)) d_Program_addOp_113 ?_
        refine mvn_hp (xwb_151 _ _ _ q6) (xw_f xLe_151 xSe_151 hf) (fun h7 hf => ?_)
        refine mv_aload_n (pc := 114) B d_Program_addOp_114 rfl 0 rfl ?_
        refine mv_getR (pc := 115) (ci := 7) (C := R_Program) (T := F_Program) (N := 19) B 13 rfl rfl (by decide) i_Program (B.2.2.2.1 _ k_354) rfl (hb.1.2.1 145 13 152 rfl) d_Program_addOp_115 ?_
        refine mv_aload_n (pc := 118) B d_Program_addOp_118 rfl 0 rfl ?_
        refine mv_getI (pc := 119) (ci := 7) (C := R_Program) (T := F_Program) (N := 19) B 10 rfl rfl (by decide) i_Program (B.2.2.2.1 _ k_345) rfl d_Program_addOp_119 ?_
        obtain ⟨v8, ev8, hf⟩ := xer_e hf
        refine mvn_top (xfi_145_10 ev8) ?_
        refine mv_aload_n (pc := 122) B d_Program_addOp_122 rfl 0 rfl ?_
        refine mv_getI (pc := 123) (ci := 7) (C := R_Program) (T := F_Program) (N := 19) B 17 rfl rfl (by decide) i_Program (B.2.2.2.1 _ k_361) rfl d_Program_addOp_123 ?_
        obtain ⟨v9, ev9, hf⟩ := xer_e hf
        refine mvn_top (xfi_145_17 ev9) ?_
        obtain ⟨q10, hf⟩ := xix_e hf
        refine mv_iast (pc := 126) B rfl (xin q10 (by decide)) d_Program_addOp_126 ?_
        refine mvn_hp (xwa_152 _ _ _ q10) (xw_f xLe_152 xSe_152 hf) (fun h11 hf => ?_)
        refine mv_aload_n (pc := 127) B d_Program_addOp_127 rfl 0 rfl ?_
        refine mv_dup (pc := 128) B d_Program_addOp_128 rfl ?_
        refine mv_getI (pc := 129) (ci := 7) (C := R_Program) (T := F_Program) (N := 19) B 10 rfl rfl (by decide) i_Program (B.2.2.2.1 _ k_345) rfl d_Program_addOp_129 ?_
        obtain ⟨v12, ev12, hf⟩ := xer_e hf
        refine mvn_top (xfi_145_10 ev12) ?_
        refine mv_iconst (pc := 132) (v := nI 1) B d_Program_addOp_132 (by decide) ?_
        refine mvn_iadd (pc := 133) B d_Program_addOp_133 ?_
        refine mv_putI (pc := 134) (ci := 7) (C := R_Program) (T := F_Program) (N := 19) B 10 rfl rfl (by decide) i_Program t_Program_ok n_Program (B.2.2.2.1 _ k_345) rfl rfl rfl rfl d_Program_addOp_134 ?_
        refine mvn_hp (xwi_145_10 _ _ _) (xwi_f hf) (fun h13 hf => ?_)
        exact mv_vret (pc := 137) B hr d_Program_addOp_137 (Nat.le_refl _) (Nat.le_refl _) ⟨rfl, xret_v hf⟩
      · skip
        have hf := x_le_f h14 hf
        refine mv_aload_n (pc := 17) B d_Program_addOp_17 rfl 1 rfl ?_
        refine mv_iload_n (pc := 18) B d_Program_addOp_18 rfl 2 rfl ?_
        refine mv_iload (pc := 19) B d_Program_addOp_19 5 rfl ?_
        refine mvn_iadd (pc := 21) B d_Program_addOp_21 ?_
        obtain ⟨q14, hf⟩ := xix_e hf
        refine mv_bald (pc := 22) B rfl (xin q14 (by decide)) d_Program_addOp_22 ?_
        obtain ⟨v15, ev15, hf⟩ := xer_e hf
        refine mvn_top (xfa_144 q14 ev15) ?_
        refine mv_istore (pc := 23) B d_Program_addOp_23 (by decide) rfl ?_
        refine mv_aload_n (pc := 25) B d_Program_addOp_25 rfl 1 rfl ?_
        refine mv_getR (pc := 26) (ci := 7) (C := R_Program) (T := F_Program) (N := 19) B 14 rfl rfl (by decide) i_Program (B.2.2.2.1 _ k_356) rfl (hb.1.2.1 145 14 153 rfl) d_Program_addOp_26 ?_
        refine mv_aload_n (pc := 29) B d_Program_addOp_29 rfl 1 rfl ?_
        refine mv_getI (pc := 30) (ci := 7) (C := R_Program) (T := F_Program) (N := 19) B 10 rfl rfl (by decide) i_Program (B.2.2.2.1 _ k_345) rfl d_Program_addOp_30 ?_
        obtain ⟨v16, ev16, hf⟩ := xer_e hf
        refine mvn_top (xfi_145_10 ev16) ?_
        refine mv_bipush (pc := 33) (v := nI 64) B d_Program_addOp_33 (by decide) ?_
        refine mvn_imul (pc := 35) B d_Program_addOp_35 ?_
        refine mv_iload (pc := 36) B d_Program_addOp_36 6 rfl ?_
        refine mvn_iadd (pc := 38) B d_Program_addOp_38 ?_
        refine mv_iload (pc := 39) B d_Program_addOp_39 0 rfl ?_
        obtain ⟨q17, hf⟩ := xix_e hf
        refine mv_bast (pc := 41) B rfl (xin q17 (by decide)) d_Program_addOp_41 ?_
        rw [xnb]
        refine mvn_hp (xwa_153 _ _ _ q17) (xw_f xLe_153 xSe_153 hf) (fun h18 hf => ?_)
        refine mv_lload_n (pc := 42) B d_Program_addOp_42 rfl 4 rfl ?_
        refine mv_iconst (pc := 43) (v := nI 1) B d_Program_addOp_43 (by decide) ?_
        refine mvn_lshl (pc := 44) B d_Program_addOp_44 ?_
        refine mv_iload (pc := 45) B d_Program_addOp_45 0 rfl ?_
        refine mv_bipush (pc := 47) (v := nI 48) B d_Program_addOp_47 (by decide) ?_
        refine mv_icmp_eq (pc := 49) (tgt := 59) B d_Program_addOp_49 rfl (fun h49 => ?_) (fun h49 => ?_)
        · skip
          have hf := x_eq_t h49 hf
          refine mv_lpick [1, 2, 3, 5, 6, 0] rfl ?_
          exact jn59 _ _ _ _ _ _ hf
        · skip
          have hf := x_eq_f h49 hf
          refine mv_iload (pc := 52) B d_Program_addOp_52 0 rfl ?_
          refine mv_bipush (pc := 54) (v := nI 49) B d_Program_addOp_54 (by decide) ?_
          refine mv_icmp_ne (pc := 56) (tgt := 63) B d_Program_addOp_56 rfl (fun h56 => ?_) (fun h56 => ?_)
          · skip
            have hf := x_eq_f h56 hf
            refine mv_iconst (pc := 63) (v := nI 0) B d_Program_addOp_63 (by decide) ?_
            refine mv_lpick [1, 2, 3, 5, 6, 0] rfl ?_
            exact jn64 _ _ _ _ _ _ _ hf
          · skip
            have hf := x_eq_t h56 hf
            refine mv_lpick [1, 2, 3, 5, 6, 0] rfl ?_
            exact jn59 _ _ _ _ _ _ hf
  unfold g_Program_addOp at hf
  refine mv_lconst (pc := 0) (v := nJ 0) B d_Program_addOp_0 (by decide) ?_
  refine mv_lstore_n (pc := 1) B d_Program_addOp_1 rfl (by decide) rfl ?_
  refine mv_lconst (pc := 2) (v := nJ 0) B d_Program_addOp_2 (by decide) ?_
  refine mv_lstore (pc := 3) B d_Program_addOp_3 (by decide) rfl ?_
  refine mv_iconst (pc := 5) (v := nI 0) B d_Program_addOp_5 (by decide) ?_
  refine mv_istore (pc := 6) B d_Program_addOp_6 (by decide) rfl ?_
  refine mv_lpick [3, 4, 5, 2, 1, 0] rfl ?_
  exact lp8 _ _ _ _ _ _ hf
def g_Tree_addLeaf (h : xE) (a0 : Nat) (a1 : Nat) : Option xE := xer (ep_g h.1 28) fun v1 => bif Nat.blt v1 97 then xw xL_158 xS_158 h v1 4294967295 fun h3 => xer (ep_g h3.1 28) fun v4 => bif Nat.blt v4 97 then xw xL_159 xS_159 h3 v4 a0 fun h6 => xer (ep_g h6.1 28) fun v7 => bif Nat.blt v7 97 then xw xL_160 xS_160 h6 v7 a1 fun h9 => xer (ep_g h9.1 28) fun v10 => xwi h9 28 (xadd v10 1) fun h11 => some h11 else none else none else none
set_option maxHeartbeats 4000000 in
set_option maxRecDepth 100000 in
theorem cx_Tree_addLeaf (l : Launch) {dA : FieldType → ClassId} {D : va_G} {al : Nat → Nat} {sk sv : Nat → Nat} (hi : mv_inj (mg dA D al me)) (b : mv_H) (hb : xR (mv_r b)) (h : xE) (a0 : Nat) (a1 : Nat) {rg : xE} (hf : g_Tree_addLeaf h a0 a1 = some rg) : mv_C l y_Tree_addLeaf (Cond.code y_Tree_addLeaf b_Tree_addLeaf 3 (Option.none : Option Jvm.ClassFile.FieldType) :: ma) ({ frames := 0, cells := 0, slots := 0, locals := 0 }) (mg dA D al me) (mK sk sv) [.ref (al 156), .int (nI a0), .int (nI a1)] (ab b h) (mv_Rv (fun σ1 => σ1 = ab b rg)) := by
  refine mv_C.ofV (cc := b_Tree_addLeaf) (nL := 3) (ret := (Option.none : Option Jvm.ClassFile.FieldType)) (by decide +kernel) rfl hi (Nat.le_of_ble_eq_true rfl) ?_
  intro p e s m below meth c B hNs hr hnm hno
  unfold g_Tree_addLeaf at hf
  refine mv_aload_n (pc := 0) B d_Tree_addLeaf_0 rfl 0 rfl ?_
  refine mv_getR (pc := 1) (ci := 8) (C := R_Tree) (T := F_Tree) (N := 5) B 1 rfl rfl (by decide) i_Tree (B.2.2.2.1 _ k_293) rfl (hb.1.2.1 156 1 158 rfl) d_Tree_addLeaf_1 ?_
  refine mv_aload_n (pc := 4) B d_Tree_addLeaf_4 rfl 0 rfl ?_
  refine mv_getI (pc := 5) (ci := 8) (C := R_Tree) (T := F_Tree) (N := 5) B 4 rfl rfl (by decide) i_Tree (B.2.2.2.1 _ k_298) rfl d_Tree_addLeaf_5 ?_
  obtain ⟨v1, ev1, hf⟩ := xer_e hf
  refine mvn_top (xfi_156_4 ev1) ?_
  refine mv_iconst (pc := 8) (v := nI 4294967295) B d_Tree_addLeaf_8 (by decide) ?_
  obtain ⟨q2, hf⟩ := xix_e hf
  refine mv_iast (pc := 9) B rfl (xin q2 (by decide)) d_Tree_addLeaf_9 ?_
  refine mvn_hp (xwa_158 _ _ _ q2) (xw_f xLe_158 xSe_158 hf) (fun h3 hf => ?_)
  refine mv_aload_n (pc := 10) B d_Tree_addLeaf_10 rfl 0 rfl ?_
  refine mv_getR (pc := 11) (ci := 8) (C := R_Tree) (T := F_Tree) (N := 5) B 2 rfl rfl (by decide) i_Tree (B.2.2.2.1 _ k_294) rfl (hb.1.2.1 156 2 159 rfl) d_Tree_addLeaf_11 ?_
  refine mv_aload_n (pc := 14) B d_Tree_addLeaf_14 rfl 0 rfl ?_
  refine mv_getI (pc := 15) (ci := 8) (C := R_Tree) (T := F_Tree) (N := 5) B 4 rfl rfl (by decide) i_Tree (B.2.2.2.1 _ k_298) rfl d_Tree_addLeaf_15 ?_
  obtain ⟨v4, ev4, hf⟩ := xer_e hf
  refine mvn_top (xfi_156_4 ev4) ?_
  refine mv_iload_n (pc := 18) B d_Tree_addLeaf_18 rfl 1 rfl ?_
  obtain ⟨q5, hf⟩ := xix_e hf
  refine mv_iast (pc := 19) B rfl (xin q5 (by decide)) d_Tree_addLeaf_19 ?_
  refine mvn_hp (xwa_159 _ _ _ q5) (xw_f xLe_159 xSe_159 hf) (fun h6 hf => ?_)
  refine mv_aload_n (pc := 20) B d_Tree_addLeaf_20 rfl 0 rfl ?_
  refine mv_getR (pc := 21) (ci := 8) (C := R_Tree) (T := F_Tree) (N := 5) B 3 rfl rfl (by decide) i_Tree (B.2.2.2.1 _ k_296) rfl (hb.1.2.1 156 3 160 rfl) d_Tree_addLeaf_21 ?_
  refine mv_aload_n (pc := 24) B d_Tree_addLeaf_24 rfl 0 rfl ?_
  refine mv_getI (pc := 25) (ci := 8) (C := R_Tree) (T := F_Tree) (N := 5) B 4 rfl rfl (by decide) i_Tree (B.2.2.2.1 _ k_298) rfl d_Tree_addLeaf_25 ?_
  obtain ⟨v7, ev7, hf⟩ := xer_e hf
  refine mvn_top (xfi_156_4 ev7) ?_
  refine mv_iload_n (pc := 28) B d_Tree_addLeaf_28 rfl 2 rfl ?_
  obtain ⟨q8, hf⟩ := xix_e hf
  refine mv_iast (pc := 29) B rfl (xin q8 (by decide)) d_Tree_addLeaf_29 ?_
  refine mvn_hp (xwa_160 _ _ _ q8) (xw_f xLe_160 xSe_160 hf) (fun h9 hf => ?_)
  refine mv_aload_n (pc := 30) B d_Tree_addLeaf_30 rfl 0 rfl ?_
  refine mv_dup (pc := 31) B d_Tree_addLeaf_31 rfl ?_
  refine mv_getI (pc := 32) (ci := 8) (C := R_Tree) (T := F_Tree) (N := 5) B 4 rfl rfl (by decide) i_Tree (B.2.2.2.1 _ k_298) rfl d_Tree_addLeaf_32 ?_
  obtain ⟨v10, ev10, hf⟩ := xer_e hf
  refine mvn_top (xfi_156_4 ev10) ?_
  refine mv_iconst (pc := 35) (v := nI 1) B d_Tree_addLeaf_35 (by decide) ?_
  refine mvn_iadd (pc := 36) B d_Tree_addLeaf_36 ?_
  refine mv_putI (pc := 37) (ci := 8) (C := R_Tree) (T := F_Tree) (N := 5) B 4 rfl rfl (by decide) i_Tree t_Tree_ok n_Tree (B.2.2.2.1 _ k_298) rfl rfl rfl rfl d_Tree_addLeaf_37 ?_
  refine mvn_hp (xwi_156_4 _ _ _) (xwi_f hf) (fun h11 hf => ?_)
  exact mv_vret (pc := 40) B hr d_Tree_addLeaf_40 (Nat.le_refl _) (Nat.le_refl _) ⟨rfl, xret_v hf⟩
def gF_Tree_partingBit_14 (k14 : Nat → Nat → Nat → Nat → Nat → xE → Option (Nat × xE)) (x3 : Nat) (x4 : Nat) (x6 : Nat) (x8 : Nat) (x10 : Nat) (h : xE) : Option (Nat × xE) := xfz x3 fun x3 => xfz x4 fun x4 => xfz x6 fun x6 => xfz x8 fun x8 => xfz x10 fun x10 => bif xlt x10 x3 then (bif Nat.blt x10 48 then xer (ep_g (xL_157 h.2) x10) fun v4 => bif Nat.blt v4 48 then xer (ep_g (xL_150 h.2) v4) fun v6 => bif Nat.blt x10 48 then xer (ep_g (xL_157 h.2) x10) fun v8 => bif Nat.blt v8 48 then xer (ep_g (xL_151 h.2) v8) fun v10 => bif Nat.blt x10 48 then xer (ep_g (xL_157 h.2) x10) fun v12 => bif Nat.blt v12 48 then xer (ep_g (xL_151 h.2) v12) fun v14 => k14 x3 (Nat.land x4 v6) (Nat.lor x6 v10) (Nat.lor x8 (Nat.xor v14 18446744073709551615)) (xadd x10 1) h else none else none else none else none else none else none) else (bif xeq (ycmp (Nat.land (Nat.land x4 x6) x8) 0) 0 then (some (4294967295, h)) else (xeb (g_Long_bitCount h (ysub (Nat.land (Nat.land (Nat.land x4 x6) x8) (yneg (Nat.land (Nat.land x4 x6) x8))) 1)) fun v2 h1 => some (v2, h1)))
def g_Tree_partingBit_14 : Nat → Nat → Nat → Nat → Nat → Nat → xE → Option (Nat × xE)
  | 0 => fun _ _ _ _ _ _ => none
  | nn + 1 => gF_Tree_partingBit_14 (g_Tree_partingBit_14 nn)
def g_Tree_partingBit (h : xE) (a1 : Nat) (a2 : Nat) : Option (Nat × xE) := g_Tree_partingBit_14 200000 a2 18446744073709551615 0 0 a1 h
set_option maxHeartbeats 4000000 in
set_option maxRecDepth 100000 in
theorem cx_Tree_partingBit (l : Launch) {dA : FieldType → ClassId} {D : va_G} {al : Nat → Nat} {sk sv : Nat → Nat} (hi : mv_inj (mg dA D al me)) (b : mv_H) (hb : xR (mv_r b)) (h : xE) (a1 : Nat) (a2 : Nat) {rv : Nat} {rg : xE} (hf : g_Tree_partingBit h a1 a2 = some (rv, rg)) : mv_C l y_Tree_partingBit (Cond.code y_Tree_partingBit b_Tree_partingBit 12 (Option.some Jvm.ClassFile.FieldType.int) :: ma) ({ frames := 1, cells := 0, slots := 0, locals := 21 }) (mg dA D al me) (mK sk sv) [.ref (al 156), .ref (al 145), .int (nI a1), .int (nI a2)] (ab b h) (mv_Ri (fun v σ1 => v = nI rv ∧ σ1 = ab b rg)) := by
  refine mv_C.ofV (cc := b_Tree_partingBit) (nL := 12) (ret := (Option.some Jvm.ClassFile.FieldType.int)) (by decide +kernel) rfl hi (Nat.le_of_ble_eq_true rfl) ?_
  intro p e s m below meth c B hNs hr hnm hno
  have lp14 : ∀ (nn14 : Nat) (x3 : Nat) (x4 : Nat) (x6 : Nat) (x8 : Nat) (x10 : Nat) (h : xE), g_Tree_partingBit_14 nn14 x3 x4 x6 x8 x10 h = some (rv, rg) → mv_V p l e ({ frames := 1, cells := 0, slots := 0, locals := 21 }) s m ([.ref (al 156), .ref (al 145), .int (nI a1), .int (nI a2)] : List Value).toArray below meth c (mg dA D al me) 12 0 0 (mv_Q (mg dA D al me) below s 0 0 (mv_Ri (fun v σ1 => v = nI rv ∧ σ1 = ab b rg))) (ab b h) 14 [(0, .ref (al 156)), (1, .ref (al 145)), (3, .int (nI x3)), (4, .long (nJ x4)), (6, .long (nJ x6)), (8, .long (nJ x8)), (10, .int (nI x10))] [] := by
    intro nn14
    induction nn14 with
    | zero => intro x3 x4 x6 x8 x10 h hf; cases hf
    | succ nn14 ih14 =>
      intro x3 x4 x6 x8 x10 h hf
      have hf : gF_Tree_partingBit_14 (g_Tree_partingBit_14 nn14) x3 x4 x6 x8 x10 h = some (rv, rg) := hf
      unfold gF_Tree_partingBit_14 at hf
      have hf := (xfz_e _ _).symm.trans hf
      have hf := (xfz_e _ _).symm.trans hf
      have hf := (xfz_e _ _).symm.trans hf
      have hf := (xfz_e _ _).symm.trans hf
      have hf := (xfz_e _ _).symm.trans hf
      refine mv_iload (pc := 14) B d_Tree_partingBit_14 6 rfl ?_
      refine mv_iload_n (pc := 16) B d_Tree_partingBit_16 rfl 2 rfl ?_
      refine mv_icmp_ge (pc := 17) (tgt := 81) B d_Tree_partingBit_17 rfl (fun h17 => ?_) (fun h17 => ?_)
      · skip
        have hf := x_le_t h17 hf
        refine mv_lload (pc := 81) B d_Tree_partingBit_81 3 rfl ?_
        refine mv_lload (pc := 83) B d_Tree_partingBit_83 4 rfl ?_
        refine mvn_land (pc := 85) B d_Tree_partingBit_85 ?_
        refine mv_lload (pc := 86) B d_Tree_partingBit_86 5 rfl ?_
        refine mvn_land (pc := 88) B d_Tree_partingBit_88 ?_
        refine mv_lstore (pc := 89) B d_Tree_partingBit_89 (by decide) rfl ?_
        refine mv_lload (pc := 91) B d_Tree_partingBit_91 0 rfl ?_
        refine mv_lconst (pc := 93) (v := nJ 0) B d_Tree_partingBit_93 (by decide) ?_
        refine mvn_lcmp (pc := 94) B d_Tree_partingBit_94 ?_
        refine mv_if_ne (pc := 95) (tgt := 102) B d_Tree_partingBit_95 rfl (fun h95 => ?_) (fun h95 => ?_)
        · skip
          have hf := x_eq_f (y := 0) h95 hf
          refine mv_lload (pc := 102) B d_Tree_partingBit_102 0 rfl ?_
          refine mv_lload (pc := 104) B d_Tree_partingBit_104 0 rfl ?_
          refine mvn_lneg (pc := 106) B d_Tree_partingBit_106 ?_
          refine mvn_land (pc := 107) B d_Tree_partingBit_107 ?_
          refine mv_lconst (pc := 108) (v := nJ 1) B d_Tree_partingBit_108 (by decide) ?_
          refine mvn_lsub (pc := 109) B d_Tree_partingBit_109 ?_
          obtain ⟨v2, h1, eh1, hf⟩ := xeb_e hf
          refine mv_callSi (pc := 110) (n := 1) B (mK_ok sk sv) hNs (cx_Long_bitCount l hi _ _ _ eh1) rfl (ma_goodc kc_Long_bitCount) (B.2.2.2.1 _ k_423) (B.2.2.2.1 _ k_424) (B.2.2.2.1 _ k_10) ⟨by decide +kernel, by decide +kernel, by decide +kernel⟩ rfl d_Tree_partingBit_110 rfl (Nat.le_of_ble_eq_true rfl) ⟨by decide, by decide⟩ ⟨by decide, by decide⟩ ⟨by decide, by decide⟩ (mv_noH hno _) (fun w110 σ110 h110 => ?_)
          obtain ⟨rfl, rfl⟩ := h110
          exact mv_iret (pc := 113) B hr rfl d_Tree_partingBit_113 (Nat.le_refl _) (Nat.le_refl _) ⟨_, rfl, xret_i hf⟩
        · skip
          have hf := x_eq_t (y := 0) h95 hf
          refine mv_iconst (pc := 98) (v := nI 4294967295) B d_Tree_partingBit_98 (by decide) ?_
          refine mv_goto (pc := 99) (tgt := 113) B d_Tree_partingBit_99 rfl ?_
          exact mv_iret (pc := 113) B hr rfl d_Tree_partingBit_113 (Nat.le_refl _) (Nat.le_refl _) ⟨_, rfl, xret_i hf⟩
      · skip
        have hf := x_le_f h17 hf
        refine mv_lload (pc := 20) B d_Tree_partingBit_20 3 rfl ?_
        refine mv_aload_n (pc := 22) B d_Tree_partingBit_22 rfl 1 rfl ?_
        refine mv_getR (pc := 23) (ci := 7) (C := R_Program) (T := F_Program) (N := 19) B 11 rfl rfl (by decide) i_Program (B.2.2.2.1 _ k_349) rfl (hb.1.2.1 145 11 150 rfl) d_Tree_partingBit_23 ?_
        refine mv_aload_n (pc := 26) B d_Tree_partingBit_26 rfl 0 rfl ?_
        refine mv_getR (pc := 27) (ci := 8) (C := R_Tree) (T := F_Tree) (N := 5) B 0 rfl rfl (by decide) i_Tree (B.2.2.2.1 _ k_291) rfl (hb.1.2.1 156 0 157 rfl) d_Tree_partingBit_27 ?_
        refine mv_iload (pc := 30) B d_Tree_partingBit_30 6 rfl ?_
        obtain ⟨q3, hf⟩ := xix_e hf
        refine mv_iald (pc := 32) B rfl (xin q3 (by decide)) d_Tree_partingBit_32 ?_
        obtain ⟨v4, ev4, hf⟩ := xer_e hf
        refine mvn_top (xfa_157 q3 ev4) ?_
        obtain ⟨q5, hf⟩ := xix_e hf
        refine mv_lald (pc := 33) B rfl (xin q5 (by decide)) d_Tree_partingBit_33 ?_
        obtain ⟨v6, ev6, hf⟩ := xer_e hf
        refine mvn_topl (xfb_150 q5 ev6) ?_
        refine mvn_land (pc := 34) B d_Tree_partingBit_34 ?_
        refine mv_lstore (pc := 35) B d_Tree_partingBit_35 (by decide) rfl ?_
        refine mv_lload (pc := 37) B d_Tree_partingBit_37 4 rfl ?_
        refine mv_aload_n (pc := 39) B d_Tree_partingBit_39 rfl 2 rfl ?_
        refine mv_getR (pc := 40) (ci := 7) (C := R_Program) (T := F_Program) (N := 19) B 12 rfl rfl (by decide) i_Program (B.2.2.2.1 _ k_352) rfl (hb.1.2.1 145 12 151 rfl) d_Tree_partingBit_40 ?_
        refine mv_aload_n (pc := 43) B d_Tree_partingBit_43 rfl 1 rfl ?_
        refine mv_getR (pc := 44) (ci := 8) (C := R_Tree) (T := F_Tree) (N := 5) B 0 rfl rfl (by decide) i_Tree (B.2.2.2.1 _ k_291) rfl (hb.1.2.1 156 0 157 rfl) d_Tree_partingBit_44 ?_
        refine mv_iload (pc := 47) B d_Tree_partingBit_47 6 rfl ?_
        obtain ⟨q7, hf⟩ := xix_e hf
        refine mv_iald (pc := 49) B rfl (xin q7 (by decide)) d_Tree_partingBit_49 ?_
        obtain ⟨v8, ev8, hf⟩ := xer_e hf
        refine mvn_top (xfa_157 q7 ev8) ?_
        obtain ⟨q9, hf⟩ := xix_e hf
        refine mv_lald (pc := 50) B rfl (xin q9 (by decide)) d_Tree_partingBit_50 ?_
        obtain ⟨v10, ev10, hf⟩ := xer_e hf
        refine mvn_topl (xfb_151 q9 ev10) ?_
        refine mvn_lor (pc := 51) B d_Tree_partingBit_51 ?_
        refine mv_lstore (pc := 52) B d_Tree_partingBit_52 (by decide) rfl ?_
        refine mv_lload (pc := 54) B d_Tree_partingBit_54 5 rfl ?_
        refine mv_aload_n (pc := 56) B d_Tree_partingBit_56 rfl 3 rfl ?_
        refine mv_getR (pc := 57) (ci := 7) (C := R_Program) (T := F_Program) (N := 19) B 12 rfl rfl (by decide) i_Program (B.2.2.2.1 _ k_352) rfl (hb.1.2.1 145 12 151 rfl) d_Tree_partingBit_57 ?_
        refine mv_aload_n (pc := 60) B d_Tree_partingBit_60 rfl 2 rfl ?_
        refine mv_getR (pc := 61) (ci := 8) (C := R_Tree) (T := F_Tree) (N := 5) B 0 rfl rfl (by decide) i_Tree (B.2.2.2.1 _ k_291) rfl (hb.1.2.1 156 0 157 rfl) d_Tree_partingBit_61 ?_
        refine mv_iload (pc := 64) B d_Tree_partingBit_64 6 rfl ?_
        obtain ⟨q11, hf⟩ := xix_e hf
        refine mv_iald (pc := 66) B rfl (xin q11 (by decide)) d_Tree_partingBit_66 ?_
        obtain ⟨v12, ev12, hf⟩ := xer_e hf
        refine mvn_top (xfa_157 q11 ev12) ?_
        obtain ⟨q13, hf⟩ := xix_e hf
        refine mv_lald (pc := 67) B rfl (xin q13 (by decide)) d_Tree_partingBit_67 ?_
        obtain ⟨v14, ev14, hf⟩ := xer_e hf
        refine mvn_topl (xfb_151 q13 ev14) ?_
        refine mv_ldc2 (pc := 68) (v := -1) B (B.2.2.2.1 _ k_422) d_Tree_partingBit_68 ?_
        refine mvn_topl (n := 18446744073709551615) (by decide) ?_
        refine mvn_lxor (pc := 71) B d_Tree_partingBit_71 ?_
        refine mvn_lor (pc := 72) B d_Tree_partingBit_72 ?_
        refine mv_lstore (pc := 73) B d_Tree_partingBit_73 (by decide) rfl ?_
        refine mvn_iinc (pc := 75) (j := 6) (v := 1) B d_Tree_partingBit_75 rfl (by decide) (by decide) rfl ?_
        refine mv_goto (pc := 78) (tgt := 14) B d_Tree_partingBit_78 rfl ?_
        refine mv_lpick [4, 5, 6, 3, 2, 1, 0] rfl ?_
        exact ih14 _ _ _ _ _ _ hf
  unfold g_Tree_partingBit at hf
  refine mv_ldc2 (pc := 0) (v := -1) B (B.2.2.2.1 _ k_422) d_Tree_partingBit_0 ?_
  refine mvn_topl (n := 18446744073709551615) (by decide) ?_
  refine mv_lstore (pc := 3) B d_Tree_partingBit_3 (by decide) rfl ?_
  refine mv_lconst (pc := 5) (v := nJ 0) B d_Tree_partingBit_5 (by decide) ?_
  refine mv_lstore (pc := 6) B d_Tree_partingBit_6 (by decide) rfl ?_
  refine mv_lconst (pc := 8) (v := nJ 0) B d_Tree_partingBit_8 (by decide) ?_
  refine mv_lstore (pc := 9) B d_Tree_partingBit_9 (by decide) rfl ?_
  refine mv_iload_n (pc := 11) B d_Tree_partingBit_11 rfl 5 rfl ?_
  refine mv_istore (pc := 12) B d_Tree_partingBit_12 (by decide) rfl ?_
  refine mv_lpick [4, 5, 7, 3, 2, 1, 0] rfl ?_
  exact lp14 _ _ _ _ _ _ _ hf
def g_Tree_part_82 (k24 : Nat → Nat → Nat → Nat → Nat → Nat → xE → Option xE) (x2 : Nat) (x3 : Nat) (x4 : Nat) (x5 : Nat) (x6 : Nat) (x7 : Nat) (h : xE) : Option xE := k24 x2 x3 x4 x5 x6 (xadd x7 1) h
def gF_Tree_part_24 (k24 : Nat → Nat → Nat → Nat → Nat → Nat → xE → Option xE) (x2 : Nat) (x3 : Nat) (x4 : Nat) (x5 : Nat) (x6 : Nat) (x7 : Nat) (h : xE) : Option xE := xfz x2 fun x2 => xfz x3 fun x3 => xfz x4 fun x4 => xfz x5 fun x5 => xfz x6 fun x6 => xfz x7 fun x7 => bif xlt x7 x5 then (bif Nat.blt x7 48 then xer (ep_g (xL_157 h.2) x7) fun v12 => bif Nat.blt v12 48 then xer (ep_g (xL_151 h.2) v12) fun v14 => bif xeq (ycmp (Nat.land (yshr v14 x3) 1) 0) 0 then (bif Nat.blt x6 48 then xer (ep_g (xL_157 h.2) x6) fun v16 => bif Nat.blt x7 48 then xw xL_157 xS_157 h x7 v16 fun h18 => bif Nat.blt x6 48 then xw xL_157 xS_157 h18 x6 v12 fun h20 => g_Tree_part_82 k24 x2 x3 x4 x5 (xadd x6 1) x7 h20 else none else none else none) else (g_Tree_part_82 k24 x2 x3 x4 x5 x6 x7 h) else none else none) else (bif Nat.blt x2 97 then xw xL_158 xS_158 h x2 x3 fun h2 => xer (ep_g h2.1 28) fun v3 => bif Nat.blt x2 97 then xw xL_159 xS_159 h2 x2 v3 fun h5 => xer (ep_g h5.1 28) fun v6 => bif Nat.blt x2 97 then xw xL_160 xS_160 h5 x2 (xadd v6 1) fun h8 => xev (g_Tree_addLeaf h8 x4 x6) fun h9 => xev (g_Tree_addLeaf h9 x6 x5) fun h10 => some h10 else none else none else none)
def g_Tree_part_24 : Nat → Nat → Nat → Nat → Nat → Nat → Nat → xE → Option xE
  | 0 => fun _ _ _ _ _ _ _ => none
  | nn + 1 => gF_Tree_part_24 (g_Tree_part_24 nn)
def g_Tree_part (h : xE) (a1 : Nat) (a2 : Nat) : Option xE := bif Nat.blt a1 97 then xer (ep_g (xL_159 h.2) a1) fun v22 => bif Nat.blt a1 97 then xer (ep_g (xL_160 h.2) a1) fun v24 => g_Tree_part_24 200000 a1 a2 v22 v24 v22 v22 h else none else none
set_option maxHeartbeats 4000000 in
set_option maxRecDepth 100000 in
theorem cx_Tree_part (l : Launch) {dA : FieldType → ClassId} {D : va_G} {al : Nat → Nat} {sk sv : Nat → Nat} (hi : mv_inj (mg dA D al me)) (b : mv_H) (hb : xR (mv_r b)) (h : xE) (a1 : Nat) (a2 : Nat) {rg : xE} (hf : g_Tree_part h a1 a2 = some rg) : mv_C l y_Tree_part (Cond.code y_Tree_part b_Tree_part 9 (Option.none : Option Jvm.ClassFile.FieldType) :: ma) ({ frames := 1, cells := 0, slots := 0, locals := 22 }) (mg dA D al me) (mK sk sv) [.ref (al 156), .ref (al 145), .int (nI a1), .int (nI a2)] (ab b h) (mv_Rv (fun σ1 => σ1 = ab b rg)) := by
  refine mv_C.ofV (cc := b_Tree_part) (nL := 9) (ret := (Option.none : Option Jvm.ClassFile.FieldType)) (by decide +kernel) rfl hi (Nat.le_of_ble_eq_true rfl) ?_
  intro p e s m below meth c B hNs hr hnm hno
  have lp24 : ∀ (nn24 : Nat) (x2 : Nat) (x3 : Nat) (x4 : Nat) (x5 : Nat) (x6 : Nat) (x7 : Nat) (h : xE), g_Tree_part_24 nn24 x2 x3 x4 x5 x6 x7 h = some rg → mv_V p l e ({ frames := 1, cells := 0, slots := 0, locals := 22 }) s m ([.ref (al 156), .ref (al 145), .int (nI a1), .int (nI a2)] : List Value).toArray below meth c (mg dA D al me) 9 0 0 (mv_Q (mg dA D al me) below s 0 0 (mv_Rv (fun σ1 => σ1 = ab b rg))) (ab b h) 24 [(0, .ref (al 156)), (1, .ref (al 145)), (2, .int (nI x2)), (3, .int (nI x3)), (4, .int (nI x4)), (5, .int (nI x5)), (6, .int (nI x6)), (7, .int (nI x7))] [] := by
    intro nn24
    induction nn24 with
    | zero => intro x2 x3 x4 x5 x6 x7 h hf; cases hf
    | succ nn24 ih24 =>
      intro x2 x3 x4 x5 x6 x7 h hf
      have jn82 : ∀ (x2 : Nat) (x3 : Nat) (x4 : Nat) (x5 : Nat) (x6 : Nat) (x7 : Nat) (h : xE), g_Tree_part_82 (g_Tree_part_24 nn24) x2 x3 x4 x5 x6 x7 h = some rg → mv_V p l e ({ frames := 1, cells := 0, slots := 0, locals := 22 }) s m ([.ref (al 156), .ref (al 145), .int (nI a1), .int (nI a2)] : List Value).toArray below meth c (mg dA D al me) 9 0 0 (mv_Q (mg dA D al me) below s 0 0 (mv_Rv (fun σ1 => σ1 = ab b rg))) (ab b h) 82 [(0, .ref (al 156)), (1, .ref (al 145)), (2, .int (nI x2)), (3, .int (nI x3)), (4, .int (nI x4)), (5, .int (nI x5)), (6, .int (nI x6)), (7, .int (nI x7))] [] := by
        intro x2 x3 x4 x5 x6 x7 h hf
        unfold g_Tree_part_82 at hf
        refine mvn_iinc (pc := 82) (j := 7) (v := 1) B d_Tree_part_82 rfl (by decide) (by decide) rfl ?_
        refine mv_goto (pc := 85) (tgt := 24) B d_Tree_part_85 rfl ?_
        refine mv_lpick [1, 2, 3, 4, 5, 6, 7, 0] rfl ?_
        exact ih24 _ _ _ _ _ _ _ hf
      have hf : gF_Tree_part_24 (g_Tree_part_24 nn24) x2 x3 x4 x5 x6 x7 h = some rg := hf
      unfold gF_Tree_part_24 at hf
      have hf := (xfz_e _ _).symm.trans hf
      have hf := (xfz_e _ _).symm.trans hf
      have hf := (xfz_e _ _).symm.trans hf
      have hf := (xfz_e _ _).symm.trans hf
      have hf := (xfz_e _ _).symm.trans hf
      have hf := (xfz_e _ _).symm.trans hf
      refine mv_iload (pc := 24) B d_Tree_part_24 7 rfl ?_
      refine mv_iload (pc := 26) B d_Tree_part_26 5 rfl ?_
      refine mv_icmp_ge (pc := 28) (tgt := 88) B d_Tree_part_28 rfl (fun h28 => ?_) (fun h28 => ?_)
      · skip
        have hf := x_le_t h28 hf
        refine mv_aload_n (pc := 88) B d_Tree_part_88 rfl 0 rfl ?_
        refine mv_getR (pc := 89) (ci := 8) (C := R_Tree) (T := F_Tree) (N := 5) B 1 rfl rfl (by decide) i_Tree (B.2.2.2.1 _ k_293) rfl (hb.1.2.1 156 1 158 rfl) d_Tree_part_89 ?_
        refine mv_iload_n (pc := 92) B d_Tree_part_92 rfl 2 rfl ?_
        refine mv_iload_n (pc := 93) B d_Tree_part_93 rfl 3 rfl ?_
        obtain ⟨q1, hf⟩ := xix_e hf
        refine mv_iast (pc := 94) B rfl (xin q1 (by decide)) d_Tree_part_94 ?_
        refine mvn_hp (xwa_158 _ _ _ q1) (xw_f xLe_158 xSe_158 hf) (fun h2 hf => ?_)
        refine mv_aload_n (pc := 95) B d_Tree_part_95 rfl 0 rfl ?_
        refine mv_getR (pc := 96) (ci := 8) (C := R_Tree) (T := F_Tree) (N := 5) B 2 rfl rfl (by decide) i_Tree (B.2.2.2.1 _ k_294) rfl (hb.1.2.1 156 2 159 rfl) d_Tree_part_96 ?_
        refine mv_iload_n (pc := 99) B d_Tree_part_99 rfl 2 rfl ?_
        refine mv_aload_n (pc := 100) B d_Tree_part_100 rfl 0 rfl ?_
        refine mv_getI (pc := 101) (ci := 8) (C := R_Tree) (T := F_Tree) (N := 5) B 4 rfl rfl (by decide) i_Tree (B.2.2.2.1 _ k_298) rfl d_Tree_part_101 ?_
        obtain ⟨v3, ev3, hf⟩ := xer_e hf
        refine mvn_top (xfi_156_4 ev3) ?_
        obtain ⟨q4, hf⟩ := xix_e hf
        refine mv_iast (pc := 104) B rfl (xin q4 (by decide)) d_Tree_part_104 ?_
        refine mvn_hp (xwa_159 _ _ _ q4) (xw_f xLe_159 xSe_159 hf) (fun h5 hf => ?_)
        refine mv_aload_n (pc := 105) B d_Tree_part_105 rfl 0 rfl ?_
        refine mv_getR (pc := 106) (ci := 8) (C := R_Tree) (T := F_Tree) (N := 5) B 3 rfl rfl (by decide) i_Tree (B.2.2.2.1 _ k_296) rfl (hb.1.2.1 156 3 160 rfl) d_Tree_part_106 ?_
        refine mv_iload_n (pc := 109) B d_Tree_part_109 rfl 2 rfl ?_
        refine mv_aload_n (pc := 110) B d_Tree_part_110 rfl 0 rfl ?_
        refine mv_getI (pc := 111) (ci := 8) (C := R_Tree) (T := F_Tree) (N := 5) B 4 rfl rfl (by decide) i_Tree (B.2.2.2.1 _ k_298) rfl d_Tree_part_111 ?_
        obtain ⟨v6, ev6, hf⟩ := xer_e hf
        refine mvn_top (xfi_156_4 ev6) ?_
        refine mv_iconst (pc := 114) (v := nI 1) B d_Tree_part_114 (by decide) ?_
        refine mvn_iadd (pc := 115) B d_Tree_part_115 ?_
        obtain ⟨q7, hf⟩ := xix_e hf
        refine mv_iast (pc := 116) B rfl (xin q7 (by decide)) d_Tree_part_116 ?_
        refine mvn_hp (xwa_160 _ _ _ q7) (xw_f xLe_160 xSe_160 hf) (fun h8 hf => ?_)
        refine mv_aload_n (pc := 117) B d_Tree_part_117 rfl 0 rfl ?_
        refine mv_iload (pc := 118) B d_Tree_part_118 4 rfl ?_
        refine mv_iload (pc := 120) B d_Tree_part_120 6 rfl ?_
        obtain ⟨h9, eh9, hf⟩ := xev_e hf
        refine mv_callVv (pc := 122) (n := 2) (ci := 8) (C := R_Tree) B (mK_ok sk sv) hNs rfl rfl (cx_Tree_addLeaf l hi _ hb _ _ _ eh9) rfl (ma_goodc kc_Tree_addLeaf) (B.2.2.2.1 _ k_414) (B.2.2.2.1 _ k_416) (B.2.2.2.1 _ ks_0) (B.2.2.2.1 _ k_9) ⟨by decide +kernel, by decide +kernel, by decide +kernel⟩ rfl d_Tree_part_122 rfl (Nat.le_of_ble_eq_true rfl) ⟨by decide, by decide⟩ ⟨by decide, by decide⟩ ⟨by decide, by decide⟩ (mv_noH hno _) (fun σ122 h122 => ?_)
        subst h122
        refine mv_aload_n (pc := 125) B d_Tree_part_125 rfl 0 rfl ?_
        refine mv_iload (pc := 126) B d_Tree_part_126 6 rfl ?_
        refine mv_iload (pc := 128) B d_Tree_part_128 5 rfl ?_
        obtain ⟨h10, eh10, hf⟩ := xev_e hf
        refine mv_callVv (pc := 130) (n := 2) (ci := 8) (C := R_Tree) B (mK_ok sk sv) hNs rfl rfl (cx_Tree_addLeaf l hi _ hb _ _ _ eh10) rfl (ma_goodc kc_Tree_addLeaf) (B.2.2.2.1 _ k_414) (B.2.2.2.1 _ k_416) (B.2.2.2.1 _ ks_0) (B.2.2.2.1 _ k_9) ⟨by decide +kernel, by decide +kernel, by decide +kernel⟩ rfl d_Tree_part_130 rfl (Nat.le_of_ble_eq_true rfl) ⟨by decide, by decide⟩ ⟨by decide, by decide⟩ ⟨by decide, by decide⟩ (mv_noH hno _) (fun σ130 h130 => ?_)
        subst h130
        exact mv_vret (pc := 133) B hr d_Tree_part_133 (Nat.le_refl _) (Nat.le_refl _) ⟨rfl, xret_v hf⟩
      · skip
        have hf := x_le_f h28 hf
        refine mv_aload_n (pc := 31) B d_Tree_part_31 rfl 0 rfl ?_
        refine mv_getR (pc := 32) (ci := 8) (C := R_Tree) (T := F_Tree) (N := 5) B 0 rfl rfl (by decide) i_Tree (B.2.2.2.1 _ k_291) rfl (hb.1.2.1 156 0 157 rfl) d_Tree_part_32 ?_
        refine mv_iload (pc := 35) B d_Tree_part_35 7 rfl ?_
        obtain ⟨q11, hf⟩ := xix_e hf
        refine mv_iald (pc := 37) B rfl (xin q11 (by decide)) d_Tree_part_37 ?_
        obtain ⟨v12, ev12, hf⟩ := xer_e hf
        refine mvn_top (xfa_157 q11 ev12) ?_
        refine mv_istore (pc := 38) B d_Tree_part_38 (by decide) rfl ?_
        refine mv_aload_n (pc := 40) B d_Tree_part_40 rfl 2 rfl ?_
        refine mv_getR (pc := 41) (ci := 7) (C := R_Program) (T := F_Program) (N := 19) B 12 rfl rfl (by decide) i_Program (B.2.2.2.1 _ k_352) rfl (hb.1.2.1 145 12 151 rfl) d_Tree_part_41 ?_
        refine mv_iload (pc := 44) B d_Tree_part_44 0 rfl ?_
        obtain ⟨q13, hf⟩ := xix_e hf
        refine mv_lald (pc := 46) B rfl (xin q13 (by decide)) d_Tree_part_46 ?_
        obtain ⟨v14, ev14, hf⟩ := xer_e hf
        refine mvn_topl (xfb_151 q13 ev14) ?_
        refine mv_iload_n (pc := 47) B d_Tree_part_47 rfl 4 rfl ?_
        refine mvn_lushr (pc := 48) B d_Tree_part_48 ?_
        refine mv_lconst (pc := 49) (v := nJ 1) B d_Tree_part_49 (by decide) ?_
        refine mvn_land (pc := 50) B d_Tree_part_50 ?_
        refine mv_lconst (pc := 51) (v := nJ 0) B d_Tree_part_51 (by decide) ?_
        refine mvn_lcmp (pc := 52) B d_Tree_part_52 ?_
        refine mv_if_ne (pc := 53) (tgt := 82) B d_Tree_part_53 rfl (fun h53 => ?_) (fun h53 => ?_)
        · skip
          have hf := x_eq_f (y := 0) h53 hf
          refine mv_lpick [1, 2, 3, 4, 5, 6, 7, 8] rfl ?_
          exact jn82 _ _ _ _ _ _ _ hf
        · skip
          have hf := x_eq_t (y := 0) h53 hf
          refine mv_aload_n (pc := 56) B d_Tree_part_56 rfl 1 rfl ?_
          refine mv_getR (pc := 57) (ci := 8) (C := R_Tree) (T := F_Tree) (N := 5) B 0 rfl rfl (by decide) i_Tree (B.2.2.2.1 _ k_291) rfl (hb.1.2.1 156 0 157 rfl) d_Tree_part_57 ?_
          refine mv_iload (pc := 60) B d_Tree_part_60 8 rfl ?_
          refine mv_aload_n (pc := 62) B d_Tree_part_62 rfl 1 rfl ?_
          refine mv_getR (pc := 63) (ci := 8) (C := R_Tree) (T := F_Tree) (N := 5) B 0 rfl rfl (by decide) i_Tree (B.2.2.2.1 _ k_291) rfl (hb.1.2.1 156 0 157 rfl) d_Tree_part_63 ?_
          refine mv_iload (pc := 66) B d_Tree_part_66 7 rfl ?_
          obtain ⟨q15, hf⟩ := xix_e hf
          refine mv_iald (pc := 68) B rfl (xin q15 (by decide)) d_Tree_part_68 ?_
          obtain ⟨v16, ev16, hf⟩ := xer_e hf
          refine mvn_top (xfa_157 q15 ev16) ?_
          obtain ⟨q17, hf⟩ := xix_e hf
          refine mv_iast (pc := 69) B rfl (xin q17 (by decide)) d_Tree_part_69 ?_
          refine mvn_hp (xwa_157 _ _ _ q17) (xw_f xLe_157 xSe_157 hf) (fun h18 hf => ?_)
          refine mv_aload_n (pc := 70) B d_Tree_part_70 rfl 1 rfl ?_
          refine mv_getR (pc := 71) (ci := 8) (C := R_Tree) (T := F_Tree) (N := 5) B 0 rfl rfl (by decide) i_Tree (B.2.2.2.1 _ k_291) rfl (hb.1.2.1 156 0 157 rfl) d_Tree_part_71 ?_
          refine mv_iload (pc := 74) B d_Tree_part_74 7 rfl ?_
          refine mv_iload (pc := 76) B d_Tree_part_76 0 rfl ?_
          obtain ⟨q19, hf⟩ := xix_e hf
          refine mv_iast (pc := 78) B rfl (xin q19 (by decide)) d_Tree_part_78 ?_
          refine mvn_hp (xwa_157 _ _ _ q19) (xw_f xLe_157 xSe_157 hf) (fun h20 hf => ?_)
          refine mvn_iinc (pc := 79) (j := 7) (v := 1) B d_Tree_part_79 rfl (by decide) (by decide) rfl ?_
          refine mv_lpick [2, 3, 4, 5, 6, 7, 0, 8] rfl ?_
          exact jn82 _ _ _ _ _ _ _ hf
  unfold g_Tree_part at hf
  refine mv_aload_n (pc := 0) B d_Tree_part_0 rfl 0 rfl ?_
  refine mv_getR (pc := 1) (ci := 8) (C := R_Tree) (T := F_Tree) (N := 5) B 2 rfl rfl (by decide) i_Tree (B.2.2.2.1 _ k_294) rfl (hb.1.2.1 156 2 159 rfl) d_Tree_part_1 ?_
  refine mv_iload_n (pc := 4) B d_Tree_part_4 rfl 2 rfl ?_
  obtain ⟨q21, hf⟩ := xix_e hf
  refine mv_iald (pc := 5) B rfl (xin q21 (by decide)) d_Tree_part_5 ?_
  obtain ⟨v22, ev22, hf⟩ := xer_e hf
  refine mvn_top (xfa_159 q21 ev22) ?_
  refine mv_istore (pc := 6) B d_Tree_part_6 (by decide) rfl ?_
  refine mv_aload_n (pc := 8) B d_Tree_part_8 rfl 1 rfl ?_
  refine mv_getR (pc := 9) (ci := 8) (C := R_Tree) (T := F_Tree) (N := 5) B 3 rfl rfl (by decide) i_Tree (B.2.2.2.1 _ k_296) rfl (hb.1.2.1 156 3 160 rfl) d_Tree_part_9 ?_
  refine mv_iload_n (pc := 12) B d_Tree_part_12 rfl 3 rfl ?_
  obtain ⟨q23, hf⟩ := xix_e hf
  refine mv_iald (pc := 13) B rfl (xin q23 (by decide)) d_Tree_part_13 ?_
  obtain ⟨v24, ev24, hf⟩ := xer_e hf
  refine mvn_top (xfa_160 q23 ev24) ?_
  refine mv_istore (pc := 14) B d_Tree_part_14 (by decide) rfl ?_
  refine mv_iload (pc := 16) B d_Tree_part_16 1 rfl ?_
  refine mv_istore (pc := 18) B d_Tree_part_18 (by decide) rfl ?_
  refine mv_iload (pc := 20) B d_Tree_part_20 2 rfl ?_
  refine mv_istore (pc := 22) B d_Tree_part_22 (by decide) rfl ?_
  refine mv_lpick [4, 5, 6, 7, 3, 2, 1, 0] rfl ?_
  exact lp24 _ _ _ _ _ _ _ _ hf
def g_Tree_grow_85 (k39 : Nat → xE → Option xE) (x2 : Nat) (h : xE) : Option xE := k39 (xadd x2 1) h
def gF_Tree_grow_39 (k39 : Nat → xE → Option xE) (x2 : Nat) (h : xE) : Option xE := xfz x2 fun x2 => xer (ep_g h.1 28) fun v1 => bif xlt x2 v1 then (bif xlt x2 97 then (bif Nat.blt x2 97 then xer (ep_g (xL_159 h.2) x2) fun v3 => bif Nat.blt x2 97 then xer (ep_g (xL_160 h.2) x2) fun v5 => xeb (g_Tree_partingBit h v3 v5) fun v7 h6 => bif xlt v7 0 then (g_Tree_grow_85 k39 x2 h6) else (xev (g_Tree_part h6 x2 v7) fun h8 => g_Tree_grow_85 k39 x2 h8) else none else none) else (some h)) else (some h)
def g_Tree_grow_39 : Nat → Nat → xE → Option xE
  | 0 => fun _ _ => none
  | nn + 1 => gF_Tree_grow_39 (g_Tree_grow_39 nn)
def gF_Tree_grow_2 (k2 : Nat → xE → Option xE) (x2 : Nat) (h : xE) : Option xE := xfz x2 fun x2 => xer (ep_g h.1 26) fun v9 => bif xlt x2 v9 then (bif Nat.blt x2 48 then xw xL_157 xS_157 h x2 x2 fun h14 => k2 (xadd x2 1) h14 else none) else (xwi h 28 0 fun h10 => xer (ep_g h10.1 26) fun v11 => xev (g_Tree_addLeaf h10 0 v11) fun h12 => g_Tree_grow_39 200000 0 h12)
def g_Tree_grow_2 : Nat → Nat → xE → Option xE
  | 0 => fun _ _ => none
  | nn + 1 => gF_Tree_grow_2 (g_Tree_grow_2 nn)
def g_Tree_grow (h : xE) : Option xE := g_Tree_grow_2 200000 0 h
set_option maxHeartbeats 4000000 in
set_option maxRecDepth 100000 in
theorem cx_Tree_grow (l : Launch) {dA : FieldType → ClassId} {D : va_G} {al : Nat → Nat} {sk sv : Nat → Nat} (hi : mv_inj (mg dA D al me)) (b : mv_H) (hb : xR (mv_r b)) (h : xE) {rg : xE} (hf : g_Tree_grow h = some rg) : mv_C l y_Tree_grow (Cond.code y_Tree_grow b_Tree_grow 4 (Option.none : Option Jvm.ClassFile.FieldType) :: ma) ({ frames := 2, cells := 0, slots := 0, locals := 52 }) (mg dA D al me) (mK sk sv) [.ref (al 156), .ref (al 145)] (ab b h) (mv_Rv (fun σ1 => σ1 = ab b rg)) := by
  refine mv_C.ofV (cc := b_Tree_grow) (nL := 4) (ret := (Option.none : Option Jvm.ClassFile.FieldType)) (by decide +kernel) rfl hi (Nat.le_of_ble_eq_true rfl) ?_
  intro p e s m below meth c B hNs hr hnm hno
  have lp39 : ∀ (nn39 : Nat) (x2 : Nat) (h : xE), g_Tree_grow_39 nn39 x2 h = some rg → mv_V p l e ({ frames := 2, cells := 0, slots := 0, locals := 52 }) s m ([.ref (al 156), .ref (al 145)] : List Value).toArray below meth c (mg dA D al me) 4 0 0 (mv_Q (mg dA D al me) below s 0 0 (mv_Rv (fun σ1 => σ1 = ab b rg))) (ab b h) 39 [(0, .ref (al 156)), (1, .ref (al 145)), (2, .int (nI x2))] [] := by
    intro nn39
    induction nn39 with
    | zero => intro x2 h hf; cases hf
    | succ nn39 ih39 =>
      intro x2 h hf
      have jn85 : ∀ (x2 : Nat) (h : xE), g_Tree_grow_85 (g_Tree_grow_39 nn39) x2 h = some rg → mv_V p l e ({ frames := 2, cells := 0, slots := 0, locals := 52 }) s m ([.ref (al 156), .ref (al 145)] : List Value).toArray below meth c (mg dA D al me) 4 0 0 (mv_Q (mg dA D al me) below s 0 0 (mv_Rv (fun σ1 => σ1 = ab b rg))) (ab b h) 85 [(0, .ref (al 156)), (1, .ref (al 145)), (2, .int (nI x2))] [] := by
        intro x2 h hf
        unfold g_Tree_grow_85 at hf
        refine mvn_iinc (pc := 85) (j := 2) (v := 1) B d_Tree_grow_85 rfl (by decide) (by decide) rfl ?_
        refine mv_goto (pc := 88) (tgt := 39) B d_Tree_grow_88 rfl ?_
        refine mv_lpick [1, 2, 0] rfl ?_
        exact ih39 _ _ hf
      have hf : gF_Tree_grow_39 (g_Tree_grow_39 nn39) x2 h = some rg := hf
      unfold gF_Tree_grow_39 at hf
      have hf := (xfz_e _ _).symm.trans hf
      refine mv_iload_n (pc := 39) B d_Tree_grow_39 rfl 2 rfl ?_
      refine mv_aload_n (pc := 40) B d_Tree_grow_40 rfl 0 rfl ?_
      refine mv_getI (pc := 41) (ci := 8) (C := R_Tree) (T := F_Tree) (N := 5) B 4 rfl rfl (by decide) i_Tree (B.2.2.2.1 _ k_298) rfl d_Tree_grow_41 ?_
      obtain ⟨v1, ev1, hf⟩ := xer_e hf
      refine mvn_top (xfi_156_4 ev1) ?_
      refine mv_icmp_ge (pc := 44) (tgt := 91) B d_Tree_grow_44 rfl (fun h44 => ?_) (fun h44 => ?_)
      · skip
        have hf := x_le_t h44 hf
        exact mv_vret (pc := 91) B hr d_Tree_grow_91 (Nat.le_refl _) (Nat.le_refl _) ⟨rfl, xret_v hf⟩
      · skip
        have hf := x_le_f h44 hf
        refine mv_iload_n (pc := 47) B d_Tree_grow_47 rfl 2 rfl ?_
        refine mv_aload_n (pc := 48) B d_Tree_grow_48 rfl 0 rfl ?_
        refine mv_getR (pc := 49) (ci := 8) (C := R_Tree) (T := F_Tree) (N := 5) B 1 rfl rfl (by decide) i_Tree (B.2.2.2.1 _ k_293) rfl (hb.1.2.1 156 1 158 rfl) d_Tree_grow_49 ?_
        refine mv_alenI (pc := 52) (v := nI 97) B rfl rfl d_Tree_grow_52 ?_
        refine mv_icmp_ge (pc := 53) (tgt := 91) B d_Tree_grow_53 rfl (fun h53 => ?_) (fun h53 => ?_)
        · skip
          have hf := x_le_t h53 hf
          exact mv_vret (pc := 91) B hr d_Tree_grow_91 (Nat.le_refl _) (Nat.le_refl _) ⟨rfl, xret_v hf⟩
        · skip
          have hf := x_le_f h53 hf
          refine mv_aload_n (pc := 56) B d_Tree_grow_56 rfl 0 rfl ?_
          refine mv_aload_n (pc := 57) B d_Tree_grow_57 rfl 1 rfl ?_
          refine mv_aload_n (pc := 58) B d_Tree_grow_58 rfl 0 rfl ?_
          refine mv_getR (pc := 59) (ci := 8) (C := R_Tree) (T := F_Tree) (N := 5) B 2 rfl rfl (by decide) i_Tree (B.2.2.2.1 _ k_294) rfl (hb.1.2.1 156 2 159 rfl) d_Tree_grow_59 ?_
          refine mv_iload_n (pc := 62) B d_Tree_grow_62 rfl 2 rfl ?_
          obtain ⟨q2, hf⟩ := xix_e hf
          refine mv_iald (pc := 63) B rfl (xin q2 (by decide)) d_Tree_grow_63 ?_
          obtain ⟨v3, ev3, hf⟩ := xer_e hf
          refine mvn_top (xfa_159 q2 ev3) ?_
          refine mv_aload_n (pc := 64) B d_Tree_grow_64 rfl 0 rfl ?_
          refine mv_getR (pc := 65) (ci := 8) (C := R_Tree) (T := F_Tree) (N := 5) B 3 rfl rfl (by decide) i_Tree (B.2.2.2.1 _ k_296) rfl (hb.1.2.1 156 3 160 rfl) d_Tree_grow_65 ?_
          refine mv_iload_n (pc := 68) B d_Tree_grow_68 rfl 2 rfl ?_
          obtain ⟨q4, hf⟩ := xix_e hf
          refine mv_iald (pc := 69) B rfl (xin q4 (by decide)) d_Tree_grow_69 ?_
          obtain ⟨v5, ev5, hf⟩ := xer_e hf
          refine mvn_top (xfa_160 q4 ev5) ?_
          obtain ⟨v7, h6, eh6, hf⟩ := xeb_e hf
          refine mv_callVi (pc := 70) (n := 3) (ci := 8) (C := R_Tree) B (mK_ok sk sv) hNs rfl rfl (cx_Tree_partingBit l hi _ hb _ _ _ eh6) rfl (ma_goodc kc_Tree_partingBit) (B.2.2.2.1 _ k_418) (B.2.2.2.1 _ k_420) (B.2.2.2.1 _ ks_1) (B.2.2.2.1 _ k_9) ⟨by decide +kernel, by decide +kernel, by decide +kernel⟩ rfl d_Tree_grow_70 rfl (Nat.le_of_ble_eq_true rfl) ⟨by decide, by decide⟩ ⟨by decide, by decide⟩ ⟨by decide, by decide⟩ (mv_noH hno _) (fun w70 σ70 h70 => ?_)
          obtain ⟨rfl, rfl⟩ := h70
          refine mv_istore_n (pc := 73) B d_Tree_grow_73 rfl (by decide) rfl ?_
          refine mv_iload_n (pc := 74) B d_Tree_grow_74 rfl 0 rfl ?_
          refine mv_if_lt (pc := 75) (tgt := 85) B d_Tree_grow_75 rfl (fun h75 => ?_) (fun h75 => ?_)
          · skip
            have hf := x_lt_t (y := 0) h75 hf
            refine mv_lpick [1, 2, 3] rfl ?_
            exact jn85 _ _ hf
          · skip
            have hf := x_lt_f (y := 0) h75 hf
            refine mv_aload_n (pc := 78) B d_Tree_grow_78 rfl 1 rfl ?_
            refine mv_aload_n (pc := 79) B d_Tree_grow_79 rfl 2 rfl ?_
            refine mv_iload_n (pc := 80) B d_Tree_grow_80 rfl 3 rfl ?_
            refine mv_iload_n (pc := 81) B d_Tree_grow_81 rfl 0 rfl ?_
            obtain ⟨h8, eh8, hf⟩ := xev_e hf
            refine mv_callVv (pc := 82) (n := 3) (ci := 8) (C := R_Tree) B (mK_ok sk sv) hNs rfl rfl (cx_Tree_part l hi _ hb _ _ _ eh8) rfl (ma_goodc kc_Tree_part) (B.2.2.2.1 _ k_429) (B.2.2.2.1 _ k_431) (B.2.2.2.1 _ ks_2) (B.2.2.2.1 _ k_9) ⟨by decide +kernel, by decide +kernel, by decide +kernel⟩ rfl d_Tree_grow_82 rfl (Nat.le_of_ble_eq_true rfl) ⟨by decide, by decide⟩ ⟨by decide, by decide⟩ ⟨by decide, by decide⟩ (mv_noH hno _) (fun σ82 h82 => ?_)
            subst h82
            refine mv_lpick [1, 2, 3] rfl ?_
            exact jn85 _ _ hf
  have lp2 : ∀ (nn2 : Nat) (x2 : Nat) (h : xE), g_Tree_grow_2 nn2 x2 h = some rg → mv_V p l e ({ frames := 2, cells := 0, slots := 0, locals := 52 }) s m ([.ref (al 156), .ref (al 145)] : List Value).toArray below meth c (mg dA D al me) 4 0 0 (mv_Q (mg dA D al me) below s 0 0 (mv_Rv (fun σ1 => σ1 = ab b rg))) (ab b h) 2 [(0, .ref (al 156)), (1, .ref (al 145)), (2, .int (nI x2))] [] := by
    intro nn2
    induction nn2 with
    | zero => intro x2 h hf; cases hf
    | succ nn2 ih2 =>
      intro x2 h hf
      have hf : gF_Tree_grow_2 (g_Tree_grow_2 nn2) x2 h = some rg := hf
      unfold gF_Tree_grow_2 at hf
      have hf := (xfz_e _ _).symm.trans hf
      refine mv_iload_n (pc := 2) B d_Tree_grow_2 rfl 2 rfl ?_
      refine mv_aload_n (pc := 3) B d_Tree_grow_3 rfl 1 rfl ?_
      refine mv_getI (pc := 4) (ci := 7) (C := R_Program) (T := F_Program) (N := 19) B 10 rfl rfl (by decide) i_Program (B.2.2.2.1 _ k_344) rfl d_Tree_grow_4 ?_
      obtain ⟨v9, ev9, hf⟩ := xer_e hf
      refine mvn_top (xfi_145_10 ev9) ?_
      refine mv_icmp_ge (pc := 7) (tgt := 23) B d_Tree_grow_7 rfl (fun h7 => ?_) (fun h7 => ?_)
      · skip
        have hf := x_le_t h7 hf
        refine mv_aload_n (pc := 23) B d_Tree_grow_23 rfl 0 rfl ?_
        refine mv_iconst (pc := 24) (v := nI 0) B d_Tree_grow_24 (by decide) ?_
        refine mv_putI (pc := 25) (ci := 8) (C := R_Tree) (T := F_Tree) (N := 5) B 4 rfl rfl (by decide) i_Tree t_Tree_ok n_Tree (B.2.2.2.1 _ k_298) rfl rfl rfl rfl d_Tree_grow_25 ?_
        refine mvn_hp (xwi_156_4 _ _ _) (xwi_f hf) (fun h10 hf => ?_)
        refine mv_aload_n (pc := 28) B d_Tree_grow_28 rfl 0 rfl ?_
        refine mv_iconst (pc := 29) (v := nI 0) B d_Tree_grow_29 (by decide) ?_
        refine mv_aload_n (pc := 30) B d_Tree_grow_30 rfl 1 rfl ?_
        refine mv_getI (pc := 31) (ci := 7) (C := R_Program) (T := F_Program) (N := 19) B 10 rfl rfl (by decide) i_Program (B.2.2.2.1 _ k_344) rfl d_Tree_grow_31 ?_
        obtain ⟨v11, ev11, hf⟩ := xer_e hf
        refine mvn_top (xfi_145_10 ev11) ?_
        obtain ⟨h12, eh12, hf⟩ := xev_e hf
        refine mv_callVv (pc := 34) (n := 2) (ci := 8) (C := R_Tree) B (mK_ok sk sv) hNs rfl rfl (cx_Tree_addLeaf l hi _ hb _ _ _ eh12) rfl (ma_goodc kc_Tree_addLeaf) (B.2.2.2.1 _ k_414) (B.2.2.2.1 _ k_416) (B.2.2.2.1 _ ks_0) (B.2.2.2.1 _ k_9) ⟨by decide +kernel, by decide +kernel, by decide +kernel⟩ rfl d_Tree_grow_34 rfl (Nat.le_of_ble_eq_true rfl) ⟨by decide, by decide⟩ ⟨by decide, by decide⟩ ⟨by decide, by decide⟩ (mv_noH hno _) (fun σ34 h34 => ?_)
        subst h34
        refine mv_iconst (pc := 37) (v := nI 0) B d_Tree_grow_37 (by decide) ?_
        refine mv_istore_n (pc := 38) B d_Tree_grow_38 rfl (by decide) rfl ?_
        refine mv_lpick [1, 2, 0] rfl ?_
        exact lp39 _ _ _ hf
      · skip
        have hf := x_le_f h7 hf
        refine mv_aload_n (pc := 10) B d_Tree_grow_10 rfl 0 rfl ?_
        refine mv_getR (pc := 11) (ci := 8) (C := R_Tree) (T := F_Tree) (N := 5) B 0 rfl rfl (by decide) i_Tree (B.2.2.2.1 _ k_291) rfl (hb.1.2.1 156 0 157 rfl) d_Tree_grow_11 ?_
        refine mv_iload_n (pc := 14) B d_Tree_grow_14 rfl 2 rfl ?_
        refine mv_iload_n (pc := 15) B d_Tree_grow_15 rfl 2 rfl ?_
        obtain ⟨q13, hf⟩ := xix_e hf
        refine mv_iast (pc := 16) B rfl (xin q13 (by decide)) d_Tree_grow_16 ?_
        refine mvn_hp (xwa_157 _ _ _ q13) (xw_f xLe_157 xSe_157 hf) (fun h14 hf => ?_)
        refine mvn_iinc (pc := 17) (j := 2) (v := 1) B d_Tree_grow_17 rfl (by decide) (by decide) rfl ?_
        refine mv_goto (pc := 20) (tgt := 2) B d_Tree_grow_20 rfl ?_
        refine mv_lpick [1, 2, 0] rfl ?_
        exact ih2 _ _ hf
  unfold g_Tree_grow at hf
  refine mv_iconst (pc := 0) (v := nI 0) B d_Tree_grow_0 (by decide) ?_
  refine mv_istore_n (pc := 1) B d_Tree_grow_1 rfl (by decide) rfl ?_
  refine mv_lpick [1, 2, 0] rfl ?_
  exact lp2 _ _ _ hf
