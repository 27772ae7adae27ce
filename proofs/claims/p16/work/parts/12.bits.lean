/-! Bits: they return, and the heap stays -/
def y_Bits_mask : MethodName := ⟨"MachineLoom$Bits", "mask", "(I)J"⟩
abbrev b_Bits_mask : ByteArray := prog_2_method_2_code
theorem kc_Bits_mask : Cond.code y_Bits_mask b_Bits_mask 1 (Option.some Jvm.ClassFile.FieldType.long) ∈ ma := ma_of (tb_6 _ (List.mem_of_getElem? (i := 238) rfl)) rfl
theorem k_1439 : (Jvm.Cond.constantLong "MachineLoom$Bits" (9 : Nat) (-1 : Int64)) ∈ ma := ma_of (tb_6 _ (List.mem_of_getElem? (i := 239) rfl)) rfl
theorem d_Bits_mask_0 : decode b_Bits_mask 0 = .ok (.iload_n 0, 1) := by decide +kernel
theorem d_Bits_mask_1 : decode b_Bits_mask 1 = .ok (.bipush 64, 2) := by decide +kernel
theorem d_Bits_mask_3 : decode b_Bits_mask 3 = .ok (.if_icmp .lt (9), 3) := by decide +kernel
theorem d_Bits_mask_6 : decode b_Bits_mask 6 = .ok (.ldc2_w 9, 3) := by decide +kernel
theorem d_Bits_mask_9 : decode b_Bits_mask 9 = .ok (.goto (8), 3) := by decide +kernel
theorem d_Bits_mask_12 : decode b_Bits_mask 12 = .ok (.lconst 1, 1) := by decide +kernel
theorem d_Bits_mask_13 : decode b_Bits_mask 13 = .ok (.iload_n 0, 1) := by decide +kernel
theorem d_Bits_mask_14 : decode b_Bits_mask 14 = .ok (.lshl, 1) := by decide +kernel
theorem d_Bits_mask_15 : decode b_Bits_mask 15 = .ok (.lconst 1, 1) := by decide +kernel
theorem d_Bits_mask_16 : decode b_Bits_mask 16 = .ok (.lsub, 1) := by decide +kernel
theorem d_Bits_mask_17 : decode b_Bits_mask 17 = .ok (.lreturn, 1) := by decide +kernel
set_option maxHeartbeats 4000000 in
set_option maxRecDepth 100000 in
theorem c_Bits_mask (l : Launch) {dA : FieldType → ClassId} {D : va_G} {al : Nat → Nat} {ext : mv_Sh} {sk sv : Nat → Nat} (hi : mv_inj (mg dA D al ext)) (σ : mv_H) (w : Int32) : mv_C l y_Bits_mask (Cond.code y_Bits_mask b_Bits_mask 1 (Option.some Jvm.ClassFile.FieldType.long) :: ma) ({ frames := 0, cells := 0, slots := 0, locals := 0 }) (mg dA D al ext) (mK sk sv) [.int w] σ (mv_Rl (fun _ σ1 => σ1 = σ)) := by
  refine mv_C.ofV (cc := b_Bits_mask) (nL := 1) (ret := (Option.some Jvm.ClassFile.FieldType.long)) (by decide +kernel) rfl hi (Nat.le_of_ble_eq_true rfl) ?_
  intro p e s m below meth c B hNs hr hnm hno
  refine mv_iload_n (pc := 0) B d_Bits_mask_0 rfl 0 rfl ?_
  refine mv_bipush (pc := 1) (v := 64) B d_Bits_mask_1 (by decide) ?_
  refine mv_icmp_lt (pc := 3) (tgt := 12) B d_Bits_mask_3 rfl (fun h3 => ?_) (fun h3 => ?_)
  · skip
    refine mv_lconst (pc := 12) (v := 1) B d_Bits_mask_12 (by decide) ?_
    refine mv_iload_n (pc := 13) B d_Bits_mask_13 rfl 0 rfl ?_
    refine mv_lshl (pc := 14) B d_Bits_mask_14 ?_
    refine mv_lconst (pc := 15) (v := 1) B d_Bits_mask_15 (by decide) ?_
    refine mv_lsub (pc := 16) B d_Bits_mask_16 ?_
    exact mv_lret (pc := 17) B hr d_Bits_mask_17 (Nat.le_refl _) (Nat.le_refl _) ⟨_, rfl, rfl⟩
  · skip
    refine mv_ldc2 (pc := 6) (v := -1) B (B.2.2.2.1 _ k_1439) d_Bits_mask_6 ?_
    refine mv_goto (pc := 9) (tgt := 17) B d_Bits_mask_9 rfl ?_
    exact mv_lret (pc := 17) B hr d_Bits_mask_17 (Nat.le_refl _) (Nat.le_refl _) ⟨_, rfl, rfl⟩
def y_Bits_signed : MethodName := ⟨"MachineLoom$Bits", "signed", "(JI)J"⟩
abbrev b_Bits_signed : ByteArray := prog_2_method_3_code
theorem kc_Bits_signed : Cond.code y_Bits_signed b_Bits_signed 4 (Option.some Jvm.ClassFile.FieldType.long) ∈ ma := ma_of (tb_7 _ (List.mem_of_getElem? (i := 173) rfl)) rfl
theorem d_Bits_signed_0 : decode b_Bits_signed 0 = .ok (.bipush 64, 2) := by decide +kernel
theorem d_Bits_signed_2 : decode b_Bits_signed 2 = .ok (.iload_n 2, 1) := by decide +kernel
theorem d_Bits_signed_3 : decode b_Bits_signed 3 = .ok (.isub, 1) := by decide +kernel
theorem d_Bits_signed_4 : decode b_Bits_signed 4 = .ok (.istore_n 3, 1) := by decide +kernel
theorem d_Bits_signed_5 : decode b_Bits_signed 5 = .ok (.lload_n 0, 1) := by decide +kernel
theorem d_Bits_signed_6 : decode b_Bits_signed 6 = .ok (.iload_n 3, 1) := by decide +kernel
theorem d_Bits_signed_7 : decode b_Bits_signed 7 = .ok (.lshl, 1) := by decide +kernel
theorem d_Bits_signed_8 : decode b_Bits_signed 8 = .ok (.iload_n 3, 1) := by decide +kernel
theorem d_Bits_signed_9 : decode b_Bits_signed 9 = .ok (.lshr, 1) := by decide +kernel
theorem d_Bits_signed_10 : decode b_Bits_signed 10 = .ok (.lreturn, 1) := by decide +kernel
set_option maxHeartbeats 4000000 in
set_option maxRecDepth 100000 in
theorem c_Bits_signed (l : Launch) {dA : FieldType → ClassId} {D : va_G} {al : Nat → Nat} {ext : mv_Sh} {sk sv : Nat → Nat} (hi : mv_inj (mg dA D al ext)) (σ : mv_H) (x : Int64) (w : Int32) : mv_C l y_Bits_signed (Cond.code y_Bits_signed b_Bits_signed 4 (Option.some Jvm.ClassFile.FieldType.long) :: ma) ({ frames := 0, cells := 0, slots := 0, locals := 0 }) (mg dA D al ext) (mK sk sv) [.long x, .int w] σ (mv_Rl (fun _ σ1 => σ1 = σ)) := by
  refine mv_C.ofV (cc := b_Bits_signed) (nL := 4) (ret := (Option.some Jvm.ClassFile.FieldType.long)) (by decide +kernel) rfl hi (Nat.le_of_ble_eq_true rfl) ?_
  intro p e s m below meth c B hNs hr hnm hno
  refine mv_bipush (pc := 0) (v := 64) B d_Bits_signed_0 (by decide) ?_
  refine mv_iload_n (pc := 2) B d_Bits_signed_2 rfl 1 rfl ?_
  refine mv_isub (pc := 3) B d_Bits_signed_3 ?_
  refine mv_istore_n (pc := 4) B d_Bits_signed_4 rfl (by decide) rfl ?_
  refine mv_lload_n (pc := 5) B d_Bits_signed_5 rfl 1 rfl ?_
  refine mv_iload_n (pc := 6) B d_Bits_signed_6 rfl 0 rfl ?_
  refine mv_lshl (pc := 7) B d_Bits_signed_7 ?_
  refine mv_iload_n (pc := 8) B d_Bits_signed_8 rfl 0 rfl ?_
  refine mv_lshr (pc := 9) B d_Bits_signed_9 ?_
  exact mv_lret (pc := 10) B hr d_Bits_signed_10 (Nat.le_refl _) (Nat.le_refl _) ⟨_, rfl, rfl⟩
def y_Bits_below : MethodName := ⟨"MachineLoom$Bits", "below", "(JJ)Z"⟩
abbrev b_Bits_below : ByteArray := prog_2_method_4_code
theorem kc_Bits_below : Cond.code y_Bits_below b_Bits_below 4 (Option.some Jvm.ClassFile.FieldType.boolean) ∈ ma := ma_of (tb_7 _ (List.mem_of_getElem? (i := 35) rfl)) rfl
theorem k_1476 : (Jvm.Cond.constantLong "MachineLoom$Bits" (13 : Nat) (-9223372036854775808 : Int64)) ∈ ma := ma_of (tb_7 _ (List.mem_of_getElem? (i := 36) rfl)) rfl
theorem d_Bits_below_0 : decode b_Bits_below 0 = .ok (.lload_n 0, 1) := by decide +kernel
theorem d_Bits_below_1 : decode b_Bits_below 1 = .ok (.ldc2_w 13, 3) := by decide +kernel
theorem d_Bits_below_4 : decode b_Bits_below 4 = .ok (.lxor, 1) := by decide +kernel
theorem d_Bits_below_5 : decode b_Bits_below 5 = .ok (.lload_n 2, 1) := by decide +kernel
theorem d_Bits_below_6 : decode b_Bits_below 6 = .ok (.ldc2_w 13, 3) := by decide +kernel
theorem d_Bits_below_9 : decode b_Bits_below 9 = .ok (.lxor, 1) := by decide +kernel
theorem d_Bits_below_10 : decode b_Bits_below 10 = .ok (.lcmp, 1) := by decide +kernel
theorem d_Bits_below_11 : decode b_Bits_below 11 = .ok (.ifCond .ge (7), 3) := by decide +kernel
theorem d_Bits_below_14 : decode b_Bits_below 14 = .ok (.iconst 1, 1) := by decide +kernel
theorem d_Bits_below_15 : decode b_Bits_below 15 = .ok (.goto (4), 3) := by decide +kernel
theorem d_Bits_below_18 : decode b_Bits_below 18 = .ok (.iconst 0, 1) := by decide +kernel
theorem d_Bits_below_19 : decode b_Bits_below 19 = .ok (.ireturn, 1) := by decide +kernel
set_option maxHeartbeats 4000000 in
set_option maxRecDepth 100000 in
theorem c_Bits_below (l : Launch) {dA : FieldType → ClassId} {D : va_G} {al : Nat → Nat} {ext : mv_Sh} {sk sv : Nat → Nat} (hi : mv_inj (mg dA D al ext)) (σ : mv_H) (x y : Int64) : mv_C l y_Bits_below (Cond.code y_Bits_below b_Bits_below 4 (Option.some Jvm.ClassFile.FieldType.boolean) :: ma) ({ frames := 0, cells := 0, slots := 0, locals := 0 }) (mg dA D al ext) (mK sk sv) [.long x, .long y] σ (mv_Ri (fun v σ1 => σ1 = σ ∧ (v = 0 ∨ v = 1))) := by
  refine mv_C.ofV (cc := b_Bits_below) (nL := 4) (ret := (Option.some Jvm.ClassFile.FieldType.boolean)) (by decide +kernel) rfl hi (Nat.le_of_ble_eq_true rfl) ?_
  intro p e s m below meth c B hNs hr hnm hno
  refine mv_lload_n (pc := 0) B d_Bits_below_0 rfl 0 rfl ?_
  refine mv_ldc2 (pc := 1) (v := -9223372036854775808) B (B.2.2.2.1 _ k_1476) d_Bits_below_1 ?_
  refine mv_lxor (pc := 4) B d_Bits_below_4 ?_
  refine mv_lload_n (pc := 5) B d_Bits_below_5 rfl 1 rfl ?_
  refine mv_ldc2 (pc := 6) (v := -9223372036854775808) B (B.2.2.2.1 _ k_1476) d_Bits_below_6 ?_
  refine mv_lxor (pc := 9) B d_Bits_below_9 ?_
  refine mv_lcmp (pc := 10) B d_Bits_below_10 ?_
  refine mv_if_ge (pc := 11) (tgt := 18) B d_Bits_below_11 rfl (fun h11 => ?_) (fun h11 => ?_)
  · skip
    refine mv_iconst (pc := 18) (v := 0) B d_Bits_below_18 (by decide) ?_
    exact mv_iret (pc := 19) B hr rfl d_Bits_below_19 (Nat.le_refl _) (Nat.le_refl _) ⟨_, rfl, rfl, by first | exact Or.inl rfl | exact Or.inr rfl | assumption⟩
  · skip
    refine mv_iconst (pc := 14) (v := 1) B d_Bits_below_14 (by decide) ?_
    refine mv_goto (pc := 15) (tgt := 19) B d_Bits_below_15 rfl ?_
    exact mv_iret (pc := 19) B hr rfl d_Bits_below_19 (Nat.le_refl _) (Nat.le_refl _) ⟨_, rfl, rfl, by first | exact Or.inl rfl | exact Or.inr rfl | assumption⟩
def y_Bits_gather : MethodName := ⟨"MachineLoom$Bits", "gather", "(JJ)J"⟩
abbrev b_Bits_gather : ByteArray := prog_2_method_5_code
theorem kc_Bits_gather : Cond.code y_Bits_gather b_Bits_gather 11 (Option.some Jvm.ClassFile.FieldType.long) ∈ ma := ma_of (tb_7 _ (List.mem_of_getElem? (i := 143) rfl)) rfl
theorem d_Bits_gather_0 : decode b_Bits_gather 0 = .ok (.lconst 0, 1) := by decide +kernel
theorem d_Bits_gather_1 : decode b_Bits_gather 1 = .ok (.lstore 4, 2) := by decide +kernel
theorem d_Bits_gather_3 : decode b_Bits_gather 3 = .ok (.lload_n 2, 1) := by decide +kernel
theorem d_Bits_gather_4 : decode b_Bits_gather 4 = .ok (.lstore 6, 2) := by decide +kernel
theorem d_Bits_gather_6 : decode b_Bits_gather 6 = .ok (.iconst 0, 1) := by decide +kernel
theorem d_Bits_gather_7 : decode b_Bits_gather 7 = .ok (.istore 8, 2) := by decide +kernel
theorem d_Bits_gather_9 : decode b_Bits_gather 9 = .ok (.iload 8, 2) := by decide +kernel
theorem d_Bits_gather_11 : decode b_Bits_gather 11 = .ok (.bipush 64, 2) := by decide +kernel
theorem d_Bits_gather_13 : decode b_Bits_gather 13 = .ok (.if_icmp .ge (49), 3) := by decide +kernel
theorem d_Bits_gather_16 : decode b_Bits_gather 16 = .ok (.lload 6, 2) := by decide +kernel
theorem d_Bits_gather_18 : decode b_Bits_gather 18 = .ok (.lconst 0, 1) := by decide +kernel
theorem d_Bits_gather_19 : decode b_Bits_gather 19 = .ok (.lcmp, 1) := by decide +kernel
theorem d_Bits_gather_20 : decode b_Bits_gather 20 = .ok (.ifCond .eq (42), 3) := by decide +kernel
theorem d_Bits_gather_23 : decode b_Bits_gather 23 = .ok (.lload 6, 2) := by decide +kernel
theorem d_Bits_gather_25 : decode b_Bits_gather 25 = .ok (.lload 6, 2) := by decide +kernel
theorem d_Bits_gather_27 : decode b_Bits_gather 27 = .ok (.lneg, 1) := by decide +kernel
theorem d_Bits_gather_28 : decode b_Bits_gather 28 = .ok (.land, 1) := by decide +kernel
theorem d_Bits_gather_29 : decode b_Bits_gather 29 = .ok (.lstore 9, 2) := by decide +kernel
theorem d_Bits_gather_31 : decode b_Bits_gather 31 = .ok (.lload_n 0, 1) := by decide +kernel
theorem d_Bits_gather_32 : decode b_Bits_gather 32 = .ok (.lload 9, 2) := by decide +kernel
theorem d_Bits_gather_34 : decode b_Bits_gather 34 = .ok (.land, 1) := by decide +kernel
theorem d_Bits_gather_35 : decode b_Bits_gather 35 = .ok (.lconst 0, 1) := by decide +kernel
theorem d_Bits_gather_36 : decode b_Bits_gather 36 = .ok (.lcmp, 1) := by decide +kernel
theorem d_Bits_gather_37 : decode b_Bits_gather 37 = .ok (.ifCond .eq (12), 3) := by decide +kernel
theorem d_Bits_gather_40 : decode b_Bits_gather 40 = .ok (.lload 4, 2) := by decide +kernel
theorem d_Bits_gather_42 : decode b_Bits_gather 42 = .ok (.lconst 1, 1) := by decide +kernel
theorem d_Bits_gather_43 : decode b_Bits_gather 43 = .ok (.iload 8, 2) := by decide +kernel
theorem d_Bits_gather_45 : decode b_Bits_gather 45 = .ok (.lshl, 1) := by decide +kernel
theorem d_Bits_gather_46 : decode b_Bits_gather 46 = .ok (.lor, 1) := by decide +kernel
theorem d_Bits_gather_47 : decode b_Bits_gather 47 = .ok (.lstore 4, 2) := by decide +kernel
theorem d_Bits_gather_49 : decode b_Bits_gather 49 = .ok (.lload 6, 2) := by decide +kernel
theorem d_Bits_gather_51 : decode b_Bits_gather 51 = .ok (.lload 9, 2) := by decide +kernel
theorem d_Bits_gather_53 : decode b_Bits_gather 53 = .ok (.lxor, 1) := by decide +kernel
theorem d_Bits_gather_54 : decode b_Bits_gather 54 = .ok (.lstore 6, 2) := by decide +kernel
theorem d_Bits_gather_56 : decode b_Bits_gather 56 = .ok (.iinc 8 (1), 3) := by decide +kernel
theorem d_Bits_gather_59 : decode b_Bits_gather 59 = .ok (.goto (-50), 3) := by decide +kernel
theorem d_Bits_gather_62 : decode b_Bits_gather 62 = .ok (.lload 4, 2) := by decide +kernel
theorem d_Bits_gather_64 : decode b_Bits_gather 64 = .ok (.lreturn, 1) := by decide +kernel
set_option maxHeartbeats 4000000 in
set_option maxRecDepth 100000 in
theorem c_Bits_gather (l : Launch) {dA : FieldType → ClassId} {D : va_G} {al : Nat → Nat} {ext : mv_Sh} {sk sv : Nat → Nat} (hi : mv_inj (mg dA D al ext)) (σ : mv_H) (x y : Int64) : mv_C l y_Bits_gather (Cond.code y_Bits_gather b_Bits_gather 11 (Option.some Jvm.ClassFile.FieldType.long) :: ma) ({ frames := 0, cells := 0, slots := 0, locals := 0 }) (mg dA D al ext) (mK sk sv) [.long x, .long y] σ (mv_Rl (fun _ σ1 => σ1 = σ)) := by
  refine mv_C.ofV (cc := b_Bits_gather) (nL := 11) (ret := (Option.some Jvm.ClassFile.FieldType.long)) (by decide +kernel) rfl hi (Nat.le_of_ble_eq_true rfl) ?_
  intro p e s m below meth c B hNs hr hnm hno
  have lp : ∀ (nn : Nat) (v : Int64) (r : Int64) (i : Int32) (h0 : 0 ≤ i.toInt), (64 - i.toInt).toNat < nn → mv_V p l e ({ frames := 0, cells := 0, slots := 0, locals := 0 }) s m ([.long x, .long y] : List Value).toArray below meth c (mg dA D al ext) 11 0 0 (mv_Q (mg dA D al ext) below s 0 0 (mv_Rl (fun _ σ1 => σ1 = σ))) σ 9 [(8, .int i), (6, .long r), (4, .long v), (0, .long x), (2, .long y)] [] := by
    intro nn
    induction nn with
    | zero => intro v r i h0 hm; exact absurd hm (Nat.not_lt_zero _)
    | succ nn ih =>
      intro v r i h0 hm
      have h1 : (1 : Int32).toInt = 1 := rfl
      refine mv_iload (pc := 9) B d_Bits_gather_9 0 rfl ?_
      refine mv_bipush (pc := 11) (v := 64) B d_Bits_gather_11 (by decide) ?_
      refine mv_icmp_ge (pc := 13) (tgt := 62) B d_Bits_gather_13 rfl (fun h13 => ?_) (fun h13 => ?_)
      · skip
        refine mv_lload (pc := 62) B d_Bits_gather_62 2 rfl ?_
        exact mv_lret (pc := 64) B hr d_Bits_gather_64 (Nat.le_refl _) (Nat.le_refl _) ⟨_, rfl, rfl⟩
      · skip
        rw [Int32.le_iff_toInt_le, show (64 : Int32).toInt = 64 from rfl] at h13
        refine mv_lload (pc := 16) B d_Bits_gather_16 1 rfl ?_
        refine mv_lconst (pc := 18) (v := 0) B d_Bits_gather_18 (by decide) ?_
        refine mv_lcmp (pc := 19) B d_Bits_gather_19 ?_
        refine mv_if_eq (pc := 20) (tgt := 62) B d_Bits_gather_20 rfl (fun h20 => ?_) (fun h20 => ?_)
        · skip
          refine mv_lload (pc := 62) B d_Bits_gather_62 2 rfl ?_
          exact mv_lret (pc := 64) B hr d_Bits_gather_64 (Nat.le_refl _) (Nat.le_refl _) ⟨_, rfl, rfl⟩
        · skip
          refine mv_lload (pc := 23) B d_Bits_gather_23 1 rfl ?_
          refine mv_lload (pc := 25) B d_Bits_gather_25 1 rfl ?_
          refine mv_lneg (pc := 27) B d_Bits_gather_27 ?_
          refine mv_land (pc := 28) B d_Bits_gather_28 ?_
          refine mv_lstore (pc := 29) B d_Bits_gather_29 (by decide) rfl ?_
          refine mv_lload_n (pc := 31) B d_Bits_gather_31 rfl 4 rfl ?_
          refine mv_lload (pc := 32) B d_Bits_gather_32 0 rfl ?_
          refine mv_land (pc := 34) B d_Bits_gather_34 ?_
          refine mv_lconst (pc := 35) (v := 0) B d_Bits_gather_35 (by decide) ?_
          refine mv_lcmp (pc := 36) B d_Bits_gather_36 ?_
          refine mv_if_eq (pc := 37) (tgt := 49) B d_Bits_gather_37 rfl (fun h37 => ?_) (fun h37 => ?_)
          · skip
            refine mv_lload (pc := 49) B d_Bits_gather_49 2 rfl ?_
            refine mv_lload (pc := 51) B d_Bits_gather_51 0 rfl ?_
            refine mv_lxor (pc := 53) B d_Bits_gather_53 ?_
            refine mv_lstore (pc := 54) B d_Bits_gather_54 (by decide) rfl ?_
            refine mv_iinc (pc := 56) (j := 2) (v := 1) B d_Bits_gather_56 rfl (by decide) (by decide) rfl ?_
            refine mv_goto (pc := 59) (tgt := 9) B d_Bits_gather_59 rfl ?_
            refine mv_lpick [0, 1, 3, 4, 5] rfl ?_
            exact ih _ _ _ (by rw [i32_add (x := i) (y := 1) (by omega) (by omega)]; omega) (by rw [i32_add (x := i) (y := 1) (by omega) (by omega)]; omega)
          · skip
            refine mv_lload (pc := 40) B d_Bits_gather_40 3 rfl ?_
            refine mv_lconst (pc := 42) (v := 1) B d_Bits_gather_42 (by decide) ?_
            refine mv_iload (pc := 43) B d_Bits_gather_43 1 rfl ?_
            refine mv_lshl (pc := 45) B d_Bits_gather_45 ?_
            refine mv_lor (pc := 46) B d_Bits_gather_46 ?_
            refine mv_lstore (pc := 47) B d_Bits_gather_47 (by decide) rfl ?_
            refine mv_lload (pc := 49) B d_Bits_gather_49 3 rfl ?_
            refine mv_lload (pc := 51) B d_Bits_gather_51 1 rfl ?_
            refine mv_lxor (pc := 53) B d_Bits_gather_53 ?_
            refine mv_lstore (pc := 54) B d_Bits_gather_54 (by decide) rfl ?_
            refine mv_iinc (pc := 56) (j := 3) (v := 1) B d_Bits_gather_56 rfl (by decide) (by decide) rfl ?_
            refine mv_goto (pc := 59) (tgt := 9) B d_Bits_gather_59 rfl ?_
            refine mv_lpick [0, 1, 2, 4, 5] rfl ?_
            exact ih _ _ _ (by rw [i32_add (x := i) (y := 1) (by omega) (by omega)]; omega) (by rw [i32_add (x := i) (y := 1) (by omega) (by omega)]; omega)
  refine mv_lconst (pc := 0) (v := 0) B d_Bits_gather_0 (by decide) ?_
  refine mv_lstore (pc := 1) B d_Bits_gather_1 (by decide) rfl ?_
  refine mv_lload_n (pc := 3) B d_Bits_gather_3 rfl 2 rfl ?_
  refine mv_lstore (pc := 4) B d_Bits_gather_4 (by decide) rfl ?_
  refine mv_iconst (pc := 6) (v := 0) B d_Bits_gather_6 (by decide) ?_
  refine mv_istore (pc := 7) B d_Bits_gather_7 (by decide) rfl ?_
  refine mv_lpick [0, 1, 2, 3, 4] rfl ?_
  exact lp _ _ _ _ (by decide) (Nat.lt_succ_self _)
def y_Bits_divide : MethodName := ⟨"MachineLoom$Bits", "divide", "(JJ)J"⟩
abbrev b_Bits_divide : ByteArray := prog_2_method_6_code
theorem kc_Bits_divide : Cond.code y_Bits_divide b_Bits_divide 6 (Option.some Jvm.ClassFile.FieldType.long) ∈ ma := ma_of (tb_7 _ (List.mem_of_getElem? (i := 180) rfl)) rfl
theorem k_1621 : (Jvm.Cond.methodLink "MachineLoom$Bits" (15 : Nat) ({ cls := "MachineLoom$Bits", name := "below", desc := "(JJ)Z" } : Jvm.MethodName)) ∈ ma := ma_of (tb_7 _ (List.mem_of_getElem? (i := 181) rfl)) rfl
theorem k_33 : (Jvm.Cond.initialized "MachineLoom$Bits") ∈ ma := ma_of (tb_1 _ (List.mem_of_getElem? (i := 33) rfl)) rfl
theorem k_1474 : (Jvm.Cond.static ({ cls := "MachineLoom$Bits", name := "below", desc := "(JJ)Z" } : Jvm.MethodName)) ∈ ma := ma_of (tb_7 _ (List.mem_of_getElem? (i := 34) rfl)) rfl
theorem d_Bits_divide_0 : decode b_Bits_divide 0 = .ok (.lload_n 2, 1) := by decide +kernel
theorem d_Bits_divide_1 : decode b_Bits_divide 1 = .ok (.lconst 0, 1) := by decide +kernel
theorem d_Bits_divide_2 : decode b_Bits_divide 2 = .ok (.lcmp, 1) := by decide +kernel
theorem d_Bits_divide_3 : decode b_Bits_divide 3 = .ok (.ifCond .ne (7), 3) := by decide +kernel
theorem d_Bits_divide_6 : decode b_Bits_divide 6 = .ok (.ldc2_w 9, 3) := by decide +kernel
theorem d_Bits_divide_9 : decode b_Bits_divide 9 = .ok (.lreturn, 1) := by decide +kernel
theorem d_Bits_divide_10 : decode b_Bits_divide 10 = .ok (.lload_n 2, 1) := by decide +kernel
theorem d_Bits_divide_11 : decode b_Bits_divide 11 = .ok (.lconst 0, 1) := by decide +kernel
theorem d_Bits_divide_12 : decode b_Bits_divide 12 = .ok (.lcmp, 1) := by decide +kernel
theorem d_Bits_divide_13 : decode b_Bits_divide 13 = .ok (.ifCond .ge (17), 3) := by decide +kernel
theorem d_Bits_divide_16 : decode b_Bits_divide 16 = .ok (.lload_n 0, 1) := by decide +kernel
theorem d_Bits_divide_17 : decode b_Bits_divide 17 = .ok (.lload_n 2, 1) := by decide +kernel
theorem d_Bits_divide_18 : decode b_Bits_divide 18 = .ok (.invokestatic 15, 3) := by decide +kernel
theorem d_Bits_divide_21 : decode b_Bits_divide 21 = .ok (.ifCond .eq (7), 3) := by decide +kernel
theorem d_Bits_divide_24 : decode b_Bits_divide 24 = .ok (.lconst 0, 1) := by decide +kernel
theorem d_Bits_divide_25 : decode b_Bits_divide 25 = .ok (.goto (4), 3) := by decide +kernel
theorem d_Bits_divide_28 : decode b_Bits_divide 28 = .ok (.lconst 1, 1) := by decide +kernel
theorem d_Bits_divide_29 : decode b_Bits_divide 29 = .ok (.lreturn, 1) := by decide +kernel
theorem d_Bits_divide_30 : decode b_Bits_divide 30 = .ok (.lload_n 0, 1) := by decide +kernel
theorem d_Bits_divide_31 : decode b_Bits_divide 31 = .ok (.lconst 0, 1) := by decide +kernel
theorem d_Bits_divide_32 : decode b_Bits_divide 32 = .ok (.lcmp, 1) := by decide +kernel
theorem d_Bits_divide_33 : decode b_Bits_divide 33 = .ok (.ifCond .lt (7), 3) := by decide +kernel
theorem d_Bits_divide_36 : decode b_Bits_divide 36 = .ok (.lload_n 0, 1) := by decide +kernel
theorem d_Bits_divide_37 : decode b_Bits_divide 37 = .ok (.lload_n 2, 1) := by decide +kernel
theorem d_Bits_divide_38 : decode b_Bits_divide 38 = .ok (.ldiv, 1) := by decide +kernel
theorem d_Bits_divide_39 : decode b_Bits_divide 39 = .ok (.lreturn, 1) := by decide +kernel
theorem d_Bits_divide_40 : decode b_Bits_divide 40 = .ok (.lload_n 0, 1) := by decide +kernel
theorem d_Bits_divide_41 : decode b_Bits_divide 41 = .ok (.iconst 1, 1) := by decide +kernel
theorem d_Bits_divide_42 : decode b_Bits_divide 42 = .ok (.lushr, 1) := by decide +kernel
theorem d_Bits_divide_43 : decode b_Bits_divide 43 = .ok (.lload_n 2, 1) := by decide +kernel
theorem d_Bits_divide_44 : decode b_Bits_divide 44 = .ok (.ldiv, 1) := by decide +kernel
theorem d_Bits_divide_45 : decode b_Bits_divide 45 = .ok (.iconst 1, 1) := by decide +kernel
theorem d_Bits_divide_46 : decode b_Bits_divide 46 = .ok (.lshl, 1) := by decide +kernel
theorem d_Bits_divide_47 : decode b_Bits_divide 47 = .ok (.lstore 4, 2) := by decide +kernel
theorem d_Bits_divide_49 : decode b_Bits_divide 49 = .ok (.lload_n 0, 1) := by decide +kernel
theorem d_Bits_divide_50 : decode b_Bits_divide 50 = .ok (.lload 4, 2) := by decide +kernel
theorem d_Bits_divide_52 : decode b_Bits_divide 52 = .ok (.lload_n 2, 1) := by decide +kernel
theorem d_Bits_divide_53 : decode b_Bits_divide 53 = .ok (.lmul, 1) := by decide +kernel
theorem d_Bits_divide_54 : decode b_Bits_divide 54 = .ok (.lsub, 1) := by decide +kernel
theorem d_Bits_divide_55 : decode b_Bits_divide 55 = .ok (.lload_n 2, 1) := by decide +kernel
theorem d_Bits_divide_56 : decode b_Bits_divide 56 = .ok (.invokestatic 15, 3) := by decide +kernel
theorem d_Bits_divide_59 : decode b_Bits_divide 59 = .ok (.ifCond .eq (8), 3) := by decide +kernel
theorem d_Bits_divide_62 : decode b_Bits_divide 62 = .ok (.lload 4, 2) := by decide +kernel
theorem d_Bits_divide_64 : decode b_Bits_divide 64 = .ok (.goto (7), 3) := by decide +kernel
theorem d_Bits_divide_67 : decode b_Bits_divide 67 = .ok (.lload 4, 2) := by decide +kernel
theorem d_Bits_divide_69 : decode b_Bits_divide 69 = .ok (.lconst 1, 1) := by decide +kernel
theorem d_Bits_divide_70 : decode b_Bits_divide 70 = .ok (.ladd, 1) := by decide +kernel
theorem d_Bits_divide_71 : decode b_Bits_divide 71 = .ok (.lreturn, 1) := by decide +kernel
set_option maxHeartbeats 4000000 in
set_option maxRecDepth 100000 in
theorem c_Bits_divide (l : Launch) {dA : FieldType → ClassId} {D : va_G} {al : Nat → Nat} {ext : mv_Sh} {sk sv : Nat → Nat} (hi : mv_inj (mg dA D al ext)) (σ : mv_H) (x y : Int64) : mv_C l y_Bits_divide (Cond.code y_Bits_divide b_Bits_divide 6 (Option.some Jvm.ClassFile.FieldType.long) :: ma) ({ frames := 1, cells := 0, slots := 0, locals := 23 }) (mg dA D al ext) (mK sk sv) [.long x, .long y] σ (mv_Rl (fun _ σ1 => σ1 = σ)) := by
  refine mv_C.ofV (cc := b_Bits_divide) (nL := 6) (ret := (Option.some Jvm.ClassFile.FieldType.long)) (by decide +kernel) rfl hi (Nat.le_of_ble_eq_true rfl) ?_
  intro p e s m below meth c B hNs hr hnm hno
  refine mv_lload_n (pc := 0) B d_Bits_divide_0 rfl 1 rfl ?_
  refine mv_lconst (pc := 1) (v := 0) B d_Bits_divide_1 (by decide) ?_
  refine mv_lcmp (pc := 2) B d_Bits_divide_2 ?_
  refine mv_if_ne (pc := 3) (tgt := 10) B d_Bits_divide_3 rfl (fun h3 => ?_) (fun h3 => ?_)
  · skip
    refine mv_lload_n (pc := 10) B d_Bits_divide_10 rfl 1 rfl ?_
    refine mv_lconst (pc := 11) (v := 0) B d_Bits_divide_11 (by decide) ?_
    refine mv_lcmp (pc := 12) B d_Bits_divide_12 ?_
    refine mv_if_ge (pc := 13) (tgt := 30) B d_Bits_divide_13 rfl (fun h13 => ?_) (fun h13 => ?_)
    · skip
      refine mv_lload_n (pc := 30) B d_Bits_divide_30 rfl 0 rfl ?_
      refine mv_lconst (pc := 31) (v := 0) B d_Bits_divide_31 (by decide) ?_
      refine mv_lcmp (pc := 32) B d_Bits_divide_32 ?_
      refine mv_if_lt (pc := 33) (tgt := 40) B d_Bits_divide_33 rfl (fun h33 => ?_) (fun h33 => ?_)
      · skip
        refine mv_lload_n (pc := 40) B d_Bits_divide_40 rfl 0 rfl ?_
        refine mv_iconst (pc := 41) (v := 1) B d_Bits_divide_41 (by decide) ?_
        refine mv_lushr (pc := 42) B d_Bits_divide_42 ?_
        refine mv_lload_n (pc := 43) B d_Bits_divide_43 rfl 1 rfl ?_
        refine mv_ldiv (pc := 44) B d_Bits_divide_44 (lc_ne h3) ?_
        refine mv_iconst (pc := 45) (v := 1) B d_Bits_divide_45 (by decide) ?_
        refine mv_lshl (pc := 46) B d_Bits_divide_46 ?_
        refine mv_lstore (pc := 47) B d_Bits_divide_47 (by decide) rfl ?_
        refine mv_lload_n (pc := 49) B d_Bits_divide_49 rfl 1 rfl ?_
        refine mv_lload (pc := 50) B d_Bits_divide_50 0 rfl ?_
        refine mv_lload_n (pc := 52) B d_Bits_divide_52 rfl 2 rfl ?_
        refine mv_lmul (pc := 53) B d_Bits_divide_53 ?_
        refine mv_lsub (pc := 54) B d_Bits_divide_54 ?_
        refine mv_lload_n (pc := 55) B d_Bits_divide_55 rfl 2 rfl ?_
        refine mv_callSi (pc := 56) (n := 2) B (mK_ok sk sv) hNs (c_Bits_below l hi _ _ _) rfl (ma_goodc kc_Bits_below) (B.2.2.2.1 _ k_1621) (B.2.2.2.1 _ k_1474) (B.2.2.2.1 _ k_33) ⟨by decide +kernel, by decide +kernel, by decide +kernel⟩ rfl d_Bits_divide_56 rfl (Nat.le_of_ble_eq_true rfl) ⟨by decide, by decide⟩ ⟨by decide, by decide⟩ ⟨by decide, by decide⟩ (mv_noH hno _) (fun v56 σ56 h56 => ?_)
        obtain ⟨rfl, -⟩ := h56
        refine mv_if_eq (pc := 59) (tgt := 67) B d_Bits_divide_59 rfl (fun h59 => ?_) (fun h59 => ?_)
        · skip
          refine mv_lload (pc := 67) B d_Bits_divide_67 0 rfl ?_
          refine mv_lconst (pc := 69) (v := 1) B d_Bits_divide_69 (by decide) ?_
          refine mv_ladd (pc := 70) B d_Bits_divide_70 ?_
          exact mv_lret (pc := 71) B hr d_Bits_divide_71 (Nat.le_refl _) (Nat.le_refl _) ⟨_, rfl, rfl⟩
        · skip
          refine mv_lload (pc := 62) B d_Bits_divide_62 0 rfl ?_
          refine mv_goto (pc := 64) (tgt := 71) B d_Bits_divide_64 rfl ?_
          exact mv_lret (pc := 71) B hr d_Bits_divide_71 (Nat.le_refl _) (Nat.le_refl _) ⟨_, rfl, rfl⟩
      · skip
        refine mv_lload_n (pc := 36) B d_Bits_divide_36 rfl 0 rfl ?_
        refine mv_lload_n (pc := 37) B d_Bits_divide_37 rfl 1 rfl ?_
        refine mv_ldiv (pc := 38) B d_Bits_divide_38 (lc_ne h3) ?_
        exact mv_lret (pc := 39) B hr d_Bits_divide_39 (Nat.le_refl _) (Nat.le_refl _) ⟨_, rfl, rfl⟩
    · skip
      refine mv_lload_n (pc := 16) B d_Bits_divide_16 rfl 0 rfl ?_
      refine mv_lload_n (pc := 17) B d_Bits_divide_17 rfl 1 rfl ?_
      refine mv_callSi (pc := 18) (n := 2) B (mK_ok sk sv) hNs (c_Bits_below l hi _ _ _) rfl (ma_goodc kc_Bits_below) (B.2.2.2.1 _ k_1621) (B.2.2.2.1 _ k_1474) (B.2.2.2.1 _ k_33) ⟨by decide +kernel, by decide +kernel, by decide +kernel⟩ rfl d_Bits_divide_18 rfl (Nat.le_of_ble_eq_true rfl) ⟨by decide, by decide⟩ ⟨by decide, by decide⟩ ⟨by decide, by decide⟩ (mv_noH hno _) (fun v18 σ18 h18 => ?_)
      obtain ⟨rfl, -⟩ := h18
      refine mv_if_eq (pc := 21) (tgt := 28) B d_Bits_divide_21 rfl (fun h21 => ?_) (fun h21 => ?_)
      · skip
        refine mv_lconst (pc := 28) (v := 1) B d_Bits_divide_28 (by decide) ?_
        exact mv_lret (pc := 29) B hr d_Bits_divide_29 (Nat.le_refl _) (Nat.le_refl _) ⟨_, rfl, rfl⟩
      · skip
        refine mv_lconst (pc := 24) (v := 0) B d_Bits_divide_24 (by decide) ?_
        refine mv_goto (pc := 25) (tgt := 29) B d_Bits_divide_25 rfl ?_
        exact mv_lret (pc := 29) B hr d_Bits_divide_29 (Nat.le_refl _) (Nat.le_refl _) ⟨_, rfl, rfl⟩
  · skip
    refine mv_ldc2 (pc := 6) (v := -1) B (B.2.2.2.1 _ k_1439) d_Bits_divide_6 ?_
    exact mv_lret (pc := 9) B hr d_Bits_divide_9 (Nat.le_refl _) (Nat.le_refl _) ⟨_, rfl, rfl⟩
def y_Bits_signedDivide : MethodName := ⟨"MachineLoom$Bits", "signedDivide", "(JJ)J"⟩
abbrev b_Bits_signedDivide : ByteArray := prog_2_method_7_code
theorem kc_Bits_signedDivide : Cond.code y_Bits_signedDivide b_Bits_signedDivide 4 (Option.some Jvm.ClassFile.FieldType.long) ∈ ma := ma_of (tb_7 _ (List.mem_of_getElem? (i := 185) rfl)) rfl
theorem d_Bits_signedDivide_0 : decode b_Bits_signedDivide 0 = .ok (.lload_n 2, 1) := by decide +kernel
theorem d_Bits_signedDivide_1 : decode b_Bits_signedDivide 1 = .ok (.lconst 0, 1) := by decide +kernel
theorem d_Bits_signedDivide_2 : decode b_Bits_signedDivide 2 = .ok (.lcmp, 1) := by decide +kernel
theorem d_Bits_signedDivide_3 : decode b_Bits_signedDivide 3 = .ok (.ifCond .ne (9), 3) := by decide +kernel
theorem d_Bits_signedDivide_6 : decode b_Bits_signedDivide 6 = .ok (.ldc2_w 9, 3) := by decide +kernel
theorem d_Bits_signedDivide_9 : decode b_Bits_signedDivide 9 = .ok (.goto (6), 3) := by decide +kernel
theorem d_Bits_signedDivide_12 : decode b_Bits_signedDivide 12 = .ok (.lload_n 0, 1) := by decide +kernel
theorem d_Bits_signedDivide_13 : decode b_Bits_signedDivide 13 = .ok (.lload_n 2, 1) := by decide +kernel
theorem d_Bits_signedDivide_14 : decode b_Bits_signedDivide 14 = .ok (.ldiv, 1) := by decide +kernel
theorem d_Bits_signedDivide_15 : decode b_Bits_signedDivide 15 = .ok (.lreturn, 1) := by decide +kernel
set_option maxHeartbeats 4000000 in
set_option maxRecDepth 100000 in
theorem c_Bits_signedDivide (l : Launch) {dA : FieldType → ClassId} {D : va_G} {al : Nat → Nat} {ext : mv_Sh} {sk sv : Nat → Nat} (hi : mv_inj (mg dA D al ext)) (σ : mv_H) (x y : Int64) : mv_C l y_Bits_signedDivide (Cond.code y_Bits_signedDivide b_Bits_signedDivide 4 (Option.some Jvm.ClassFile.FieldType.long) :: ma) ({ frames := 0, cells := 0, slots := 0, locals := 0 }) (mg dA D al ext) (mK sk sv) [.long x, .long y] σ (mv_Rl (fun _ σ1 => σ1 = σ)) := by
  refine mv_C.ofV (cc := b_Bits_signedDivide) (nL := 4) (ret := (Option.some Jvm.ClassFile.FieldType.long)) (by decide +kernel) rfl hi (Nat.le_of_ble_eq_true rfl) ?_
  intro p e s m below meth c B hNs hr hnm hno
  refine mv_lload_n (pc := 0) B d_Bits_signedDivide_0 rfl 1 rfl ?_
  refine mv_lconst (pc := 1) (v := 0) B d_Bits_signedDivide_1 (by decide) ?_
  refine mv_lcmp (pc := 2) B d_Bits_signedDivide_2 ?_
  refine mv_if_ne (pc := 3) (tgt := 12) B d_Bits_signedDivide_3 rfl (fun h3 => ?_) (fun h3 => ?_)
  · skip
    refine mv_lload_n (pc := 12) B d_Bits_signedDivide_12 rfl 0 rfl ?_
    refine mv_lload_n (pc := 13) B d_Bits_signedDivide_13 rfl 1 rfl ?_
    refine mv_ldiv (pc := 14) B d_Bits_signedDivide_14 (lc_ne h3) ?_
    exact mv_lret (pc := 15) B hr d_Bits_signedDivide_15 (Nat.le_refl _) (Nat.le_refl _) ⟨_, rfl, rfl⟩
  · skip
    refine mv_ldc2 (pc := 6) (v := -1) B (B.2.2.2.1 _ k_1439) d_Bits_signedDivide_6 ?_
    refine mv_goto (pc := 9) (tgt := 15) B d_Bits_signedDivide_9 rfl ?_
    exact mv_lret (pc := 15) B hr d_Bits_signedDivide_15 (Nat.le_refl _) (Nat.le_refl _) ⟨_, rfl, rfl⟩
def y_Bits_signedRemain : MethodName := ⟨"MachineLoom$Bits", "signedRemain", "(JJ)J"⟩
abbrev b_Bits_signedRemain : ByteArray := prog_2_method_8_code
theorem kc_Bits_signedRemain : Cond.code y_Bits_signedRemain b_Bits_signedRemain 4 (Option.some Jvm.ClassFile.FieldType.long) ∈ ma := ma_of (tb_7 _ (List.mem_of_getElem? (i := 188) rfl)) rfl
theorem d_Bits_signedRemain_0 : decode b_Bits_signedRemain 0 = .ok (.lload_n 2, 1) := by decide +kernel
theorem d_Bits_signedRemain_1 : decode b_Bits_signedRemain 1 = .ok (.lconst 0, 1) := by decide +kernel
theorem d_Bits_signedRemain_2 : decode b_Bits_signedRemain 2 = .ok (.lcmp, 1) := by decide +kernel
theorem d_Bits_signedRemain_3 : decode b_Bits_signedRemain 3 = .ok (.ifCond .ne (7), 3) := by decide +kernel
theorem d_Bits_signedRemain_6 : decode b_Bits_signedRemain 6 = .ok (.lload_n 0, 1) := by decide +kernel
theorem d_Bits_signedRemain_7 : decode b_Bits_signedRemain 7 = .ok (.goto (6), 3) := by decide +kernel
theorem d_Bits_signedRemain_10 : decode b_Bits_signedRemain 10 = .ok (.lload_n 0, 1) := by decide +kernel
theorem d_Bits_signedRemain_11 : decode b_Bits_signedRemain 11 = .ok (.lload_n 2, 1) := by decide +kernel
theorem d_Bits_signedRemain_12 : decode b_Bits_signedRemain 12 = .ok (.lrem, 1) := by decide +kernel
theorem d_Bits_signedRemain_13 : decode b_Bits_signedRemain 13 = .ok (.lreturn, 1) := by decide +kernel
set_option maxHeartbeats 4000000 in
set_option maxRecDepth 100000 in
theorem c_Bits_signedRemain (l : Launch) {dA : FieldType → ClassId} {D : va_G} {al : Nat → Nat} {ext : mv_Sh} {sk sv : Nat → Nat} (hi : mv_inj (mg dA D al ext)) (σ : mv_H) (x y : Int64) : mv_C l y_Bits_signedRemain (Cond.code y_Bits_signedRemain b_Bits_signedRemain 4 (Option.some Jvm.ClassFile.FieldType.long) :: ma) ({ frames := 0, cells := 0, slots := 0, locals := 0 }) (mg dA D al ext) (mK sk sv) [.long x, .long y] σ (mv_Rl (fun _ σ1 => σ1 = σ)) := by
  refine mv_C.ofV (cc := b_Bits_signedRemain) (nL := 4) (ret := (Option.some Jvm.ClassFile.FieldType.long)) (by decide +kernel) rfl hi (Nat.le_of_ble_eq_true rfl) ?_
  intro p e s m below meth c B hNs hr hnm hno
  refine mv_lload_n (pc := 0) B d_Bits_signedRemain_0 rfl 1 rfl ?_
  refine mv_lconst (pc := 1) (v := 0) B d_Bits_signedRemain_1 (by decide) ?_
  refine mv_lcmp (pc := 2) B d_Bits_signedRemain_2 ?_
  refine mv_if_ne (pc := 3) (tgt := 10) B d_Bits_signedRemain_3 rfl (fun h3 => ?_) (fun h3 => ?_)
  · skip
    refine mv_lload_n (pc := 10) B d_Bits_signedRemain_10 rfl 0 rfl ?_
    refine mv_lload_n (pc := 11) B d_Bits_signedRemain_11 rfl 1 rfl ?_
    refine mv_lrem (pc := 12) B d_Bits_signedRemain_12 (lc_ne h3) ?_
    exact mv_lret (pc := 13) B hr d_Bits_signedRemain_13 (Nat.le_refl _) (Nat.le_refl _) ⟨_, rfl, rfl⟩
  · skip
    refine mv_lload_n (pc := 6) B d_Bits_signedRemain_6 rfl 0 rfl ?_
    refine mv_goto (pc := 7) (tgt := 13) B d_Bits_signedRemain_7 rfl ?_
    exact mv_lret (pc := 13) B hr d_Bits_signedRemain_13 (Nat.le_refl _) (Nat.le_refl _) ⟨_, rfl, rfl⟩
def y_Bits_shift : MethodName := ⟨"MachineLoom$Bits", "shift", "(IJJI)J"⟩
abbrev b_Bits_shift : ByteArray := prog_2_method_9_code
theorem kc_Bits_shift : Cond.code y_Bits_shift b_Bits_shift 7 (Option.some Jvm.ClassFile.FieldType.long) ∈ ma := ma_of (tb_7 _ (List.mem_of_getElem? (i := 191) rfl)) rfl
theorem k_1622 : (Jvm.Cond.methodLink "MachineLoom$Bits" (19 : Nat) ({ cls := "MachineLoom$Bits", name := "signed", desc := "(JI)J" } : Jvm.MethodName)) ∈ ma := ma_of (tb_7 _ (List.mem_of_getElem? (i := 182) rfl)) rfl
theorem k_1612 : (Jvm.Cond.static ({ cls := "MachineLoom$Bits", name := "signed", desc := "(JI)J" } : Jvm.MethodName)) ∈ ma := ma_of (tb_7 _ (List.mem_of_getElem? (i := 172) rfl)) rfl
theorem d_Bits_shift_0 : decode b_Bits_shift 0 = .ok (.lload_n 3, 1) := by decide +kernel
theorem d_Bits_shift_1 : decode b_Bits_shift 1 = .ok (.lconst 0, 1) := by decide +kernel
theorem d_Bits_shift_2 : decode b_Bits_shift 2 = .ok (.lcmp, 1) := by decide +kernel
theorem d_Bits_shift_3 : decode b_Bits_shift 3 = .ok (.ifCond .lt (11), 3) := by decide +kernel
theorem d_Bits_shift_6 : decode b_Bits_shift 6 = .ok (.lload_n 3, 1) := by decide +kernel
theorem d_Bits_shift_7 : decode b_Bits_shift 7 = .ok (.iload 5, 2) := by decide +kernel
theorem d_Bits_shift_9 : decode b_Bits_shift 9 = .ok (.i2l, 1) := by decide +kernel
theorem d_Bits_shift_10 : decode b_Bits_shift 10 = .ok (.lcmp, 1) := by decide +kernel
theorem d_Bits_shift_11 : decode b_Bits_shift 11 = .ok (.ifCond .lt (7), 3) := by decide +kernel
theorem d_Bits_shift_14 : decode b_Bits_shift 14 = .ok (.iconst 1, 1) := by decide +kernel
theorem d_Bits_shift_15 : decode b_Bits_shift 15 = .ok (.goto (4), 3) := by decide +kernel
theorem d_Bits_shift_18 : decode b_Bits_shift 18 = .ok (.iconst 0, 1) := by decide +kernel
theorem d_Bits_shift_19 : decode b_Bits_shift 19 = .ok (.istore 6, 2) := by decide +kernel
theorem d_Bits_shift_21 : decode b_Bits_shift 21 = .ok (.iload_n 0, 1) := by decide +kernel
theorem d_Bits_shift_22 : decode b_Bits_shift 22 = .ok (.sipush 216, 3) := by decide +kernel
theorem d_Bits_shift_25 : decode b_Bits_shift 25 = .ok (.if_icmp .ne (23), 3) := by decide +kernel
theorem d_Bits_shift_28 : decode b_Bits_shift 28 = .ok (.lload_n 1, 1) := by decide +kernel
theorem d_Bits_shift_29 : decode b_Bits_shift 29 = .ok (.iload 5, 2) := by decide +kernel
theorem d_Bits_shift_31 : decode b_Bits_shift 31 = .ok (.invokestatic 19, 3) := by decide +kernel
theorem d_Bits_shift_34 : decode b_Bits_shift 34 = .ok (.iload 6, 2) := by decide +kernel
theorem d_Bits_shift_36 : decode b_Bits_shift 36 = .ok (.ifCond .eq (8), 3) := by decide +kernel
theorem d_Bits_shift_39 : decode b_Bits_shift 39 = .ok (.bipush 63, 2) := by decide +kernel
theorem d_Bits_shift_41 : decode b_Bits_shift 41 = .ok (.goto (5), 3) := by decide +kernel
theorem d_Bits_shift_44 : decode b_Bits_shift 44 = .ok (.lload_n 3, 1) := by decide +kernel
theorem d_Bits_shift_45 : decode b_Bits_shift 45 = .ok (.l2i, 1) := by decide +kernel
theorem d_Bits_shift_46 : decode b_Bits_shift 46 = .ok (.lshr, 1) := by decide +kernel
theorem d_Bits_shift_47 : decode b_Bits_shift 47 = .ok (.lreturn, 1) := by decide +kernel
theorem d_Bits_shift_48 : decode b_Bits_shift 48 = .ok (.iload 6, 2) := by decide +kernel
theorem d_Bits_shift_50 : decode b_Bits_shift 50 = .ok (.ifCond .eq (5), 3) := by decide +kernel
theorem d_Bits_shift_53 : decode b_Bits_shift 53 = .ok (.lconst 0, 1) := by decide +kernel
theorem d_Bits_shift_54 : decode b_Bits_shift 54 = .ok (.lreturn, 1) := by decide +kernel
theorem d_Bits_shift_55 : decode b_Bits_shift 55 = .ok (.iload_n 0, 1) := by decide +kernel
theorem d_Bits_shift_56 : decode b_Bits_shift 56 = .ok (.sipush 131, 3) := by decide +kernel
theorem d_Bits_shift_59 : decode b_Bits_shift 59 = .ok (.if_icmp .ne (10), 3) := by decide +kernel
theorem d_Bits_shift_62 : decode b_Bits_shift 62 = .ok (.lload_n 1, 1) := by decide +kernel
theorem d_Bits_shift_63 : decode b_Bits_shift 63 = .ok (.lload_n 3, 1) := by decide +kernel
theorem d_Bits_shift_64 : decode b_Bits_shift 64 = .ok (.l2i, 1) := by decide +kernel
theorem d_Bits_shift_65 : decode b_Bits_shift 65 = .ok (.lshl, 1) := by decide +kernel
theorem d_Bits_shift_66 : decode b_Bits_shift 66 = .ok (.goto (7), 3) := by decide +kernel
theorem d_Bits_shift_69 : decode b_Bits_shift 69 = .ok (.lload_n 1, 1) := by decide +kernel
theorem d_Bits_shift_70 : decode b_Bits_shift 70 = .ok (.lload_n 3, 1) := by decide +kernel
theorem d_Bits_shift_71 : decode b_Bits_shift 71 = .ok (.l2i, 1) := by decide +kernel
theorem d_Bits_shift_72 : decode b_Bits_shift 72 = .ok (.lushr, 1) := by decide +kernel
theorem d_Bits_shift_73 : decode b_Bits_shift 73 = .ok (.lreturn, 1) := by decide +kernel
set_option maxHeartbeats 4000000 in
set_option maxRecDepth 100000 in
theorem c_Bits_shift (l : Launch) {dA : FieldType → ClassId} {D : va_G} {al : Nat → Nat} {ext : mv_Sh} {sk sv : Nat → Nat} (hi : mv_inj (mg dA D al ext)) (σ : mv_H) (k : Int32) (x y : Int64) (w : Int32) : mv_C l y_Bits_shift (Cond.code y_Bits_shift b_Bits_shift 7 (Option.some Jvm.ClassFile.FieldType.long) :: ma) ({ frames := 1, cells := 0, slots := 0, locals := 23 }) (mg dA D al ext) (mK sk sv) [.int k, .long x, .long y, .int w] σ (mv_Rl (fun _ σ1 => σ1 = σ)) := by
  refine mv_C.ofV (cc := b_Bits_shift) (nL := 7) (ret := (Option.some Jvm.ClassFile.FieldType.long)) (by decide +kernel) rfl hi (Nat.le_of_ble_eq_true rfl) ?_
  intro p e s m below meth c B hNs hr hnm hno
  have j19 : ∀ (b : Int32) , mv_V p l e ({ frames := 1, cells := 0, slots := 0, locals := 23 }) s m ([.int k, .long x, .long y, .int w] : List Value).toArray below meth c (mg dA D al ext) 7 0 0 (mv_Q (mg dA D al ext) below s 0 0 (mv_Rl (fun _ σ1 => σ1 = σ))) σ 19 [(0, .int k), (1, .long x), (3, .long y), (5, .int w)] [.int b] := by
    intro b
    refine mv_istore (pc := 19) B d_Bits_shift_19 (by decide) rfl ?_
    refine mv_iload_n (pc := 21) B d_Bits_shift_21 rfl 1 rfl ?_
    refine mv_sipush (pc := 22) (v := 216) B d_Bits_shift_22 (by decide) ?_
    refine mv_icmp_ne (pc := 25) (tgt := 48) B d_Bits_shift_25 rfl (fun h25 => ?_) (fun h25 => ?_)
    · skip
      refine mv_iload (pc := 48) B d_Bits_shift_48 0 rfl ?_
      refine mv_if_eq (pc := 50) (tgt := 55) B d_Bits_shift_50 rfl (fun h50 => ?_) (fun h50 => ?_)
      · skip
        refine mv_iload_n (pc := 55) B d_Bits_shift_55 rfl 1 rfl ?_
        refine mv_sipush (pc := 56) (v := 131) B d_Bits_shift_56 (by decide) ?_
        refine mv_icmp_ne (pc := 59) (tgt := 69) B d_Bits_shift_59 rfl (fun h59 => ?_) (fun h59 => ?_)
        · skip
          refine mv_lload_n (pc := 69) B d_Bits_shift_69 rfl 2 rfl ?_
          refine mv_lload_n (pc := 70) B d_Bits_shift_70 rfl 3 rfl ?_
          refine mv_l2i (pc := 71) B d_Bits_shift_71 ?_
          refine mv_lushr (pc := 72) B d_Bits_shift_72 ?_
          exact mv_lret (pc := 73) B hr d_Bits_shift_73 (Nat.le_refl _) (Nat.le_refl _) ⟨_, rfl, rfl⟩
        · skip
          refine mv_lload_n (pc := 62) B d_Bits_shift_62 rfl 2 rfl ?_
          refine mv_lload_n (pc := 63) B d_Bits_shift_63 rfl 3 rfl ?_
          refine mv_l2i (pc := 64) B d_Bits_shift_64 ?_
          refine mv_lshl (pc := 65) B d_Bits_shift_65 ?_
          refine mv_goto (pc := 66) (tgt := 73) B d_Bits_shift_66 rfl ?_
          exact mv_lret (pc := 73) B hr d_Bits_shift_73 (Nat.le_refl _) (Nat.le_refl _) ⟨_, rfl, rfl⟩
      · skip
        refine mv_lconst (pc := 53) (v := 0) B d_Bits_shift_53 (by decide) ?_
        exact mv_lret (pc := 54) B hr d_Bits_shift_54 (Nat.le_refl _) (Nat.le_refl _) ⟨_, rfl, rfl⟩
    · skip
      refine mv_lload_n (pc := 28) B d_Bits_shift_28 rfl 2 rfl ?_
      refine mv_iload (pc := 29) B d_Bits_shift_29 4 rfl ?_
      refine mv_callSl (pc := 31) (n := 2) B (mK_ok sk sv) hNs (c_Bits_signed l hi _ _ _) rfl (ma_goodc kc_Bits_signed) (B.2.2.2.1 _ k_1622) (B.2.2.2.1 _ k_1612) (B.2.2.2.1 _ k_33) ⟨by decide +kernel, by decide +kernel, by decide +kernel⟩ rfl d_Bits_shift_31 rfl (Nat.le_of_ble_eq_true rfl) ⟨by decide, by decide⟩ ⟨by decide, by decide⟩ ⟨by decide, by decide⟩ (mv_noH hno _) (fun v31 σ31 h31 => ?_)
      subst h31
      refine mv_iload (pc := 34) B d_Bits_shift_34 0 rfl ?_
      refine mv_if_eq (pc := 36) (tgt := 44) B d_Bits_shift_36 rfl (fun h36 => ?_) (fun h36 => ?_)
      · skip
        refine mv_lload_n (pc := 44) B d_Bits_shift_44 rfl 3 rfl ?_
        refine mv_l2i (pc := 45) B d_Bits_shift_45 ?_
        refine mv_lshr (pc := 46) B d_Bits_shift_46 ?_
        exact mv_lret (pc := 47) B hr d_Bits_shift_47 (Nat.le_refl _) (Nat.le_refl _) ⟨_, rfl, rfl⟩
      · skip
        refine mv_bipush (pc := 39) (v := 63) B d_Bits_shift_39 (by decide) ?_
        refine mv_goto (pc := 41) (tgt := 46) B d_Bits_shift_41 rfl ?_
        refine mv_lshr (pc := 46) B d_Bits_shift_46 ?_
        exact mv_lret (pc := 47) B hr d_Bits_shift_47 (Nat.le_refl _) (Nat.le_refl _) ⟨_, rfl, rfl⟩
  refine mv_lload_n (pc := 0) B d_Bits_shift_0 rfl 2 rfl ?_
  refine mv_lconst (pc := 1) (v := 0) B d_Bits_shift_1 (by decide) ?_
  refine mv_lcmp (pc := 2) B d_Bits_shift_2 ?_
  refine mv_if_lt (pc := 3) (tgt := 14) B d_Bits_shift_3 rfl (fun h3 => ?_) (fun h3 => ?_)
  · skip
    refine mv_iconst (pc := 14) (v := 1) B d_Bits_shift_14 (by decide) ?_
    refine mv_goto (pc := 15) (tgt := 19) B d_Bits_shift_15 rfl ?_
    refine mv_lpick [0, 1, 2, 3] rfl ?_
    exact j19 _
  · skip
    refine mv_lload_n (pc := 6) B d_Bits_shift_6 rfl 2 rfl ?_
    refine mv_iload (pc := 7) B d_Bits_shift_7 3 rfl ?_
    refine mv_i2l (pc := 9) B d_Bits_shift_9 ?_
    refine mv_lcmp (pc := 10) B d_Bits_shift_10 ?_
    refine mv_if_lt (pc := 11) (tgt := 18) B d_Bits_shift_11 rfl (fun h11 => ?_) (fun h11 => ?_)
    · skip
      refine mv_iconst (pc := 18) (v := 0) B d_Bits_shift_18 (by decide) ?_
      refine mv_lpick [0, 1, 2, 3] rfl ?_
      exact j19 _
    · skip
      refine mv_iconst (pc := 14) (v := 1) B d_Bits_shift_14 (by decide) ?_
      refine mv_goto (pc := 15) (tgt := 19) B d_Bits_shift_15 rfl ?_
      refine mv_lpick [0, 1, 2, 3] rfl ?_
      exact j19 _
def y_Bits_holds : MethodName := ⟨"MachineLoom$Bits", "holds", "(IJJI)Z"⟩
abbrev b_Bits_holds : ByteArray := prog_2_method_10_code
theorem kc_Bits_holds : Cond.code y_Bits_holds b_Bits_holds 6 (Option.some Jvm.ClassFile.FieldType.boolean) ∈ ma := ma_of (tb_7 _ (List.mem_of_getElem? (i := 194) rfl)) rfl
theorem d_Bits_holds_0 : decode b_Bits_holds 0 = .ok (.iload_n 0, 1) := by decide +kernel
theorem d_Bits_holds_1 : decode b_Bits_holds 1 = .ok (.lookupswitch (87) #[(60, 67), (128, 43), (129, 55), (130, 73)], 43) := by decide +kernel
theorem d_Bits_holds_44 : decode b_Bits_holds 44 = .ok (.lload_n 1, 1) := by decide +kernel
theorem d_Bits_holds_45 : decode b_Bits_holds 45 = .ok (.lload_n 3, 1) := by decide +kernel
theorem d_Bits_holds_46 : decode b_Bits_holds 46 = .ok (.lcmp, 1) := by decide +kernel
theorem d_Bits_holds_47 : decode b_Bits_holds 47 = .ok (.ifCond .ne (7), 3) := by decide +kernel
theorem d_Bits_holds_50 : decode b_Bits_holds 50 = .ok (.iconst 1, 1) := by decide +kernel
theorem d_Bits_holds_51 : decode b_Bits_holds 51 = .ok (.goto (4), 3) := by decide +kernel
theorem d_Bits_holds_54 : decode b_Bits_holds 54 = .ok (.iconst 0, 1) := by decide +kernel
theorem d_Bits_holds_55 : decode b_Bits_holds 55 = .ok (.ireturn, 1) := by decide +kernel
theorem d_Bits_holds_56 : decode b_Bits_holds 56 = .ok (.lload_n 1, 1) := by decide +kernel
theorem d_Bits_holds_57 : decode b_Bits_holds 57 = .ok (.lload_n 3, 1) := by decide +kernel
theorem d_Bits_holds_58 : decode b_Bits_holds 58 = .ok (.lcmp, 1) := by decide +kernel
theorem d_Bits_holds_59 : decode b_Bits_holds 59 = .ok (.ifCond .eq (7), 3) := by decide +kernel
theorem d_Bits_holds_62 : decode b_Bits_holds 62 = .ok (.iconst 1, 1) := by decide +kernel
theorem d_Bits_holds_63 : decode b_Bits_holds 63 = .ok (.goto (4), 3) := by decide +kernel
theorem d_Bits_holds_66 : decode b_Bits_holds 66 = .ok (.iconst 0, 1) := by decide +kernel
theorem d_Bits_holds_67 : decode b_Bits_holds 67 = .ok (.ireturn, 1) := by decide +kernel
theorem d_Bits_holds_68 : decode b_Bits_holds 68 = .ok (.lload_n 1, 1) := by decide +kernel
theorem d_Bits_holds_69 : decode b_Bits_holds 69 = .ok (.lload_n 3, 1) := by decide +kernel
theorem d_Bits_holds_70 : decode b_Bits_holds 70 = .ok (.invokestatic 15, 3) := by decide +kernel
theorem d_Bits_holds_73 : decode b_Bits_holds 73 = .ok (.ireturn, 1) := by decide +kernel
theorem d_Bits_holds_74 : decode b_Bits_holds 74 = .ok (.lload_n 3, 1) := by decide +kernel
theorem d_Bits_holds_75 : decode b_Bits_holds 75 = .ok (.lload_n 1, 1) := by decide +kernel
theorem d_Bits_holds_76 : decode b_Bits_holds 76 = .ok (.invokestatic 15, 3) := by decide +kernel
theorem d_Bits_holds_79 : decode b_Bits_holds 79 = .ok (.ifCond .ne (7), 3) := by decide +kernel
theorem d_Bits_holds_82 : decode b_Bits_holds 82 = .ok (.iconst 1, 1) := by decide +kernel
theorem d_Bits_holds_83 : decode b_Bits_holds 83 = .ok (.goto (4), 3) := by decide +kernel
theorem d_Bits_holds_86 : decode b_Bits_holds 86 = .ok (.iconst 0, 1) := by decide +kernel
theorem d_Bits_holds_87 : decode b_Bits_holds 87 = .ok (.ireturn, 1) := by decide +kernel
theorem d_Bits_holds_88 : decode b_Bits_holds 88 = .ok (.lload_n 1, 1) := by decide +kernel
theorem d_Bits_holds_89 : decode b_Bits_holds 89 = .ok (.iload 5, 2) := by decide +kernel
theorem d_Bits_holds_91 : decode b_Bits_holds 91 = .ok (.invokestatic 19, 3) := by decide +kernel
theorem d_Bits_holds_94 : decode b_Bits_holds 94 = .ok (.lload_n 3, 1) := by decide +kernel
theorem d_Bits_holds_95 : decode b_Bits_holds 95 = .ok (.iload 5, 2) := by decide +kernel
theorem d_Bits_holds_97 : decode b_Bits_holds 97 = .ok (.invokestatic 19, 3) := by decide +kernel
theorem d_Bits_holds_100 : decode b_Bits_holds 100 = .ok (.lcmp, 1) := by decide +kernel
theorem d_Bits_holds_101 : decode b_Bits_holds 101 = .ok (.ifCond .ge (7), 3) := by decide +kernel
theorem d_Bits_holds_104 : decode b_Bits_holds 104 = .ok (.iconst 1, 1) := by decide +kernel
theorem d_Bits_holds_105 : decode b_Bits_holds 105 = .ok (.goto (4), 3) := by decide +kernel
theorem d_Bits_holds_108 : decode b_Bits_holds 108 = .ok (.iconst 0, 1) := by decide +kernel
theorem d_Bits_holds_109 : decode b_Bits_holds 109 = .ok (.ireturn, 1) := by decide +kernel
set_option maxHeartbeats 4000000 in
set_option maxRecDepth 100000 in
theorem c_Bits_holds (l : Launch) {dA : FieldType → ClassId} {D : va_G} {al : Nat → Nat} {ext : mv_Sh} {sk sv : Nat → Nat} (hi : mv_inj (mg dA D al ext)) (σ : mv_H) (k : Int32) (x y : Int64) (w : Int32) : mv_C l y_Bits_holds (Cond.code y_Bits_holds b_Bits_holds 6 (Option.some Jvm.ClassFile.FieldType.boolean) :: ma) ({ frames := 1, cells := 0, slots := 0, locals := 23 }) (mg dA D al ext) (mK sk sv) [.int k, .long x, .long y, .int w] σ (mv_Ri (fun v σ1 => σ1 = σ ∧ (v = 0 ∨ v = 1))) := by
  refine mv_C.ofV (cc := b_Bits_holds) (nL := 6) (ret := (Option.some Jvm.ClassFile.FieldType.boolean)) (by decide +kernel) rfl hi (Nat.le_of_ble_eq_true rfl) ?_
  intro p e s m below meth c B hNs hr hnm hno
  refine mv_iload_n (pc := 0) B d_Bits_holds_0 rfl 0 rfl ?_
  refine mv_lsw (pc := 1) B d_Bits_holds_1 (by decide) (by decide) ?_
  refine ⟨fun h1 => ?_, fun h1n60 => ?_⟩
  · skip
    refine mv_lload_n (pc := 68) B d_Bits_holds_68 rfl 1 rfl ?_
    refine mv_lload_n (pc := 69) B d_Bits_holds_69 rfl 2 rfl ?_
    refine mv_callSi (pc := 70) (n := 2) B (mK_ok sk sv) hNs (c_Bits_below l hi _ _ _) rfl (ma_goodc kc_Bits_below) (B.2.2.2.1 _ k_1621) (B.2.2.2.1 _ k_1474) (B.2.2.2.1 _ k_33) ⟨by decide +kernel, by decide +kernel, by decide +kernel⟩ rfl d_Bits_holds_70 rfl (Nat.le_of_ble_eq_true rfl) ⟨by decide, by decide⟩ ⟨by decide, by decide⟩ ⟨by decide, by decide⟩ (mv_noH hno _) (fun v70 σ70 h70 => ?_)
    obtain ⟨rfl, h70⟩ := h70
    exact mv_iret (pc := 73) B hr (z_eq h70) d_Bits_holds_73 (Nat.le_refl _) (Nat.le_refl _) ⟨_, rfl, rfl, by first | exact Or.inl rfl | exact Or.inr rfl | assumption⟩
  refine ⟨fun h1 => ?_, fun h1n128 => ?_⟩
  · skip
    refine mv_lload_n (pc := 44) B d_Bits_holds_44 rfl 1 rfl ?_
    refine mv_lload_n (pc := 45) B d_Bits_holds_45 rfl 2 rfl ?_
    refine mv_lcmp (pc := 46) B d_Bits_holds_46 ?_
    refine mv_if_ne (pc := 47) (tgt := 54) B d_Bits_holds_47 rfl (fun h47 => ?_) (fun h47 => ?_)
    · skip
      refine mv_iconst (pc := 54) (v := 0) B d_Bits_holds_54 (by decide) ?_
      exact mv_iret (pc := 55) B hr rfl d_Bits_holds_55 (Nat.le_refl _) (Nat.le_refl _) ⟨_, rfl, rfl, by first | exact Or.inl rfl | exact Or.inr rfl | assumption⟩
    · skip
      refine mv_iconst (pc := 50) (v := 1) B d_Bits_holds_50 (by decide) ?_
      refine mv_goto (pc := 51) (tgt := 55) B d_Bits_holds_51 rfl ?_
      exact mv_iret (pc := 55) B hr rfl d_Bits_holds_55 (Nat.le_refl _) (Nat.le_refl _) ⟨_, rfl, rfl, by first | exact Or.inl rfl | exact Or.inr rfl | assumption⟩
  refine ⟨fun h1 => ?_, fun h1n129 => ?_⟩
  · skip
    refine mv_lload_n (pc := 56) B d_Bits_holds_56 rfl 1 rfl ?_
    refine mv_lload_n (pc := 57) B d_Bits_holds_57 rfl 2 rfl ?_
    refine mv_lcmp (pc := 58) B d_Bits_holds_58 ?_
    refine mv_if_eq (pc := 59) (tgt := 66) B d_Bits_holds_59 rfl (fun h59 => ?_) (fun h59 => ?_)
    · skip
      refine mv_iconst (pc := 66) (v := 0) B d_Bits_holds_66 (by decide) ?_
      exact mv_iret (pc := 67) B hr rfl d_Bits_holds_67 (Nat.le_refl _) (Nat.le_refl _) ⟨_, rfl, rfl, by first | exact Or.inl rfl | exact Or.inr rfl | assumption⟩
    · skip
      refine mv_iconst (pc := 62) (v := 1) B d_Bits_holds_62 (by decide) ?_
      refine mv_goto (pc := 63) (tgt := 67) B d_Bits_holds_63 rfl ?_
      exact mv_iret (pc := 67) B hr rfl d_Bits_holds_67 (Nat.le_refl _) (Nat.le_refl _) ⟨_, rfl, rfl, by first | exact Or.inl rfl | exact Or.inr rfl | assumption⟩
  refine ⟨fun h1 => ?_, fun h1n130 => ?_⟩
  · skip
    refine mv_lload_n (pc := 74) B d_Bits_holds_74 rfl 2 rfl ?_
    refine mv_lload_n (pc := 75) B d_Bits_holds_75 rfl 1 rfl ?_
    refine mv_callSi (pc := 76) (n := 2) B (mK_ok sk sv) hNs (c_Bits_below l hi _ _ _) rfl (ma_goodc kc_Bits_below) (B.2.2.2.1 _ k_1621) (B.2.2.2.1 _ k_1474) (B.2.2.2.1 _ k_33) ⟨by decide +kernel, by decide +kernel, by decide +kernel⟩ rfl d_Bits_holds_76 rfl (Nat.le_of_ble_eq_true rfl) ⟨by decide, by decide⟩ ⟨by decide, by decide⟩ ⟨by decide, by decide⟩ (mv_noH hno _) (fun v76 σ76 h76 => ?_)
    obtain ⟨rfl, h76⟩ := h76
    refine mv_if_ne (pc := 79) (tgt := 86) B d_Bits_holds_79 rfl (fun h79 => ?_) (fun h79 => ?_)
    · skip
      refine mv_iconst (pc := 86) (v := 0) B d_Bits_holds_86 (by decide) ?_
      exact mv_iret (pc := 87) B hr rfl d_Bits_holds_87 (Nat.le_refl _) (Nat.le_refl _) ⟨_, rfl, rfl, by first | exact Or.inl rfl | exact Or.inr rfl | assumption⟩
    · skip
      refine mv_iconst (pc := 82) (v := 1) B d_Bits_holds_82 (by decide) ?_
      refine mv_goto (pc := 83) (tgt := 87) B d_Bits_holds_83 rfl ?_
      exact mv_iret (pc := 87) B hr rfl d_Bits_holds_87 (Nat.le_refl _) (Nat.le_refl _) ⟨_, rfl, rfl, by first | exact Or.inl rfl | exact Or.inr rfl | assumption⟩
  show mv_V _ _ _ _ _ _ _ _ _ _ _ _ _ _ _ _ 88 _ _
  refine mv_lload_n (pc := 88) B d_Bits_holds_88 rfl 1 rfl ?_
  refine mv_iload (pc := 89) B d_Bits_holds_89 3 rfl ?_
  refine mv_callSl (pc := 91) (n := 2) B (mK_ok sk sv) hNs (c_Bits_signed l hi _ _ _) rfl (ma_goodc kc_Bits_signed) (B.2.2.2.1 _ k_1622) (B.2.2.2.1 _ k_1612) (B.2.2.2.1 _ k_33) ⟨by decide +kernel, by decide +kernel, by decide +kernel⟩ rfl d_Bits_holds_91 rfl (Nat.le_of_ble_eq_true rfl) ⟨by decide, by decide⟩ ⟨by decide, by decide⟩ ⟨by decide, by decide⟩ (mv_noH hno _) (fun v91 σ91 h91 => ?_)
  subst h91
  refine mv_lload_n (pc := 94) B d_Bits_holds_94 rfl 2 rfl ?_
  refine mv_iload (pc := 95) B d_Bits_holds_95 3 rfl ?_
  refine mv_callSl (pc := 97) (n := 2) B (mK_ok sk sv) hNs (c_Bits_signed l hi _ _ _) rfl (ma_goodc kc_Bits_signed) (B.2.2.2.1 _ k_1622) (B.2.2.2.1 _ k_1612) (B.2.2.2.1 _ k_33) ⟨by decide +kernel, by decide +kernel, by decide +kernel⟩ rfl d_Bits_holds_97 rfl (Nat.le_of_ble_eq_true rfl) ⟨by decide, by decide⟩ ⟨by decide, by decide⟩ ⟨by decide, by decide⟩ (mv_noH hno _) (fun v97 σ97 h97 => ?_)
  subst h97
  refine mv_lcmp (pc := 100) B d_Bits_holds_100 ?_
  refine mv_if_ge (pc := 101) (tgt := 108) B d_Bits_holds_101 rfl (fun h101 => ?_) (fun h101 => ?_)
  · skip
    refine mv_iconst (pc := 108) (v := 0) B d_Bits_holds_108 (by decide) ?_
    exact mv_iret (pc := 109) B hr rfl d_Bits_holds_109 (Nat.le_refl _) (Nat.le_refl _) ⟨_, rfl, rfl, by first | exact Or.inl rfl | exact Or.inr rfl | assumption⟩
  · skip
    refine mv_iconst (pc := 104) (v := 1) B d_Bits_holds_104 (by decide) ?_
    refine mv_goto (pc := 105) (tgt := 109) B d_Bits_holds_105 rfl ?_
    exact mv_iret (pc := 109) B hr rfl d_Bits_holds_109 (Nat.le_refl _) (Nat.le_refl _) ⟨_, rfl, rfl, by first | exact Or.inl rfl | exact Or.inr rfl | assumption⟩
def y_Bits_ofTwo : MethodName := ⟨"MachineLoom$Bits", "ofTwo", "(IJJI)J"⟩
abbrev b_Bits_ofTwo : ByteArray := prog_2_method_11_code
theorem kc_Bits_ofTwo : Cond.code y_Bits_ofTwo b_Bits_ofTwo 6 (Option.some Jvm.ClassFile.FieldType.long) ∈ ma := ma_of (tb_7 _ (List.mem_of_getElem? (i := 176) rfl)) rfl
theorem k_1618 : (Jvm.Cond.methodLink "MachineLoom$Bits" (27 : Nat) ({ cls := "MachineLoom$Bits", name := "divide", desc := "(JJ)J" } : Jvm.MethodName)) ∈ ma := ma_of (tb_7 _ (List.mem_of_getElem? (i := 178) rfl)) rfl
theorem k_1619 : (Jvm.Cond.static ({ cls := "MachineLoom$Bits", name := "divide", desc := "(JJ)J" } : Jvm.MethodName)) ∈ ma := ma_of (tb_7 _ (List.mem_of_getElem? (i := 179) rfl)) rfl
theorem k_1617 : (Jvm.Cond.methodLink "MachineLoom$Bits" (23 : Nat) ({ cls := "MachineLoom$Bits", name := "mask", desc := "(I)J" } : Jvm.MethodName)) ∈ ma := ma_of (tb_7 _ (List.mem_of_getElem? (i := 177) rfl)) rfl
theorem k_1437 : (Jvm.Cond.static ({ cls := "MachineLoom$Bits", name := "mask", desc := "(I)J" } : Jvm.MethodName)) ∈ ma := ma_of (tb_6 _ (List.mem_of_getElem? (i := 237) rfl)) rfl
theorem k_1629 : (Jvm.Cond.methodLink "MachineLoom$Bits" (37 : Nat) ({ cls := "MachineLoom$Bits", name := "shift", desc := "(IJJI)J" } : Jvm.MethodName)) ∈ ma := ma_of (tb_7 _ (List.mem_of_getElem? (i := 189) rfl)) rfl
theorem k_1630 : (Jvm.Cond.static ({ cls := "MachineLoom$Bits", name := "shift", desc := "(IJJI)J" } : Jvm.MethodName)) ∈ ma := ma_of (tb_7 _ (List.mem_of_getElem? (i := 190) rfl)) rfl
theorem k_1623 : (Jvm.Cond.methodLink "MachineLoom$Bits" (31 : Nat) ({ cls := "MachineLoom$Bits", name := "signedDivide", desc := "(JJ)J" } : Jvm.MethodName)) ∈ ma := ma_of (tb_7 _ (List.mem_of_getElem? (i := 183) rfl)) rfl
theorem k_1624 : (Jvm.Cond.static ({ cls := "MachineLoom$Bits", name := "signedDivide", desc := "(JJ)J" } : Jvm.MethodName)) ∈ ma := ma_of (tb_7 _ (List.mem_of_getElem? (i := 184) rfl)) rfl
theorem k_1626 : (Jvm.Cond.methodLink "MachineLoom$Bits" (34 : Nat) ({ cls := "MachineLoom$Bits", name := "signedRemain", desc := "(JJ)J" } : Jvm.MethodName)) ∈ ma := ma_of (tb_7 _ (List.mem_of_getElem? (i := 186) rfl)) rfl
theorem k_1627 : (Jvm.Cond.static ({ cls := "MachineLoom$Bits", name := "signedRemain", desc := "(JJ)J" } : Jvm.MethodName)) ∈ ma := ma_of (tb_7 _ (List.mem_of_getElem? (i := 187) rfl)) rfl
theorem k_1632 : (Jvm.Cond.methodLink "MachineLoom$Bits" (41 : Nat) ({ cls := "MachineLoom$Bits", name := "holds", desc := "(IJJI)Z" } : Jvm.MethodName)) ∈ ma := ma_of (tb_7 _ (List.mem_of_getElem? (i := 192) rfl)) rfl
theorem k_1633 : (Jvm.Cond.static ({ cls := "MachineLoom$Bits", name := "holds", desc := "(IJJI)Z" } : Jvm.MethodName)) ∈ ma := ma_of (tb_7 _ (List.mem_of_getElem? (i := 193) rfl)) rfl
theorem d_Bits_ofTwo_0 : decode b_Bits_ofTwo 0 = .ok (.iload_n 0, 1) := by decide +kernel
theorem d_Bits_ofTwo_1 : decode b_Bits_ofTwo 1 = .ok (.lookupswitch (248) #[(37, 169), (38, 123), (42, 147), (43, 127), (45, 137), (47, 157), (94, 119), (124, 115), (131, 233), (132, 233), (214, 189), (215, 211), (216, 233)], 115) := by decide +kernel
theorem d_Bits_ofTwo_116 : decode b_Bits_ofTwo 116 = .ok (.lload_n 1, 1) := by decide +kernel
theorem d_Bits_ofTwo_117 : decode b_Bits_ofTwo 117 = .ok (.lload_n 3, 1) := by decide +kernel
theorem d_Bits_ofTwo_118 : decode b_Bits_ofTwo 118 = .ok (.lor, 1) := by decide +kernel
theorem d_Bits_ofTwo_119 : decode b_Bits_ofTwo 119 = .ok (.lreturn, 1) := by decide +kernel
theorem d_Bits_ofTwo_120 : decode b_Bits_ofTwo 120 = .ok (.lload_n 1, 1) := by decide +kernel
theorem d_Bits_ofTwo_121 : decode b_Bits_ofTwo 121 = .ok (.lload_n 3, 1) := by decide +kernel
theorem d_Bits_ofTwo_122 : decode b_Bits_ofTwo 122 = .ok (.lxor, 1) := by decide +kernel
theorem d_Bits_ofTwo_123 : decode b_Bits_ofTwo 123 = .ok (.lreturn, 1) := by decide +kernel
theorem d_Bits_ofTwo_124 : decode b_Bits_ofTwo 124 = .ok (.lload_n 1, 1) := by decide +kernel
theorem d_Bits_ofTwo_125 : decode b_Bits_ofTwo 125 = .ok (.lload_n 3, 1) := by decide +kernel
theorem d_Bits_ofTwo_126 : decode b_Bits_ofTwo 126 = .ok (.land, 1) := by decide +kernel
theorem d_Bits_ofTwo_127 : decode b_Bits_ofTwo 127 = .ok (.lreturn, 1) := by decide +kernel
theorem d_Bits_ofTwo_128 : decode b_Bits_ofTwo 128 = .ok (.lload_n 1, 1) := by decide +kernel
theorem d_Bits_ofTwo_129 : decode b_Bits_ofTwo 129 = .ok (.lload_n 3, 1) := by decide +kernel
theorem d_Bits_ofTwo_130 : decode b_Bits_ofTwo 130 = .ok (.ladd, 1) := by decide +kernel
theorem d_Bits_ofTwo_131 : decode b_Bits_ofTwo 131 = .ok (.iload 5, 2) := by decide +kernel
theorem d_Bits_ofTwo_133 : decode b_Bits_ofTwo 133 = .ok (.invokestatic 23, 3) := by decide +kernel
theorem d_Bits_ofTwo_136 : decode b_Bits_ofTwo 136 = .ok (.land, 1) := by decide +kernel
theorem d_Bits_ofTwo_137 : decode b_Bits_ofTwo 137 = .ok (.lreturn, 1) := by decide +kernel
theorem d_Bits_ofTwo_138 : decode b_Bits_ofTwo 138 = .ok (.lload_n 1, 1) := by decide +kernel
theorem d_Bits_ofTwo_139 : decode b_Bits_ofTwo 139 = .ok (.lload_n 3, 1) := by decide +kernel
theorem d_Bits_ofTwo_140 : decode b_Bits_ofTwo 140 = .ok (.lsub, 1) := by decide +kernel
theorem d_Bits_ofTwo_141 : decode b_Bits_ofTwo 141 = .ok (.iload 5, 2) := by decide +kernel
theorem d_Bits_ofTwo_143 : decode b_Bits_ofTwo 143 = .ok (.invokestatic 23, 3) := by decide +kernel
theorem d_Bits_ofTwo_146 : decode b_Bits_ofTwo 146 = .ok (.land, 1) := by decide +kernel
theorem d_Bits_ofTwo_147 : decode b_Bits_ofTwo 147 = .ok (.lreturn, 1) := by decide +kernel
theorem d_Bits_ofTwo_148 : decode b_Bits_ofTwo 148 = .ok (.lload_n 1, 1) := by decide +kernel
theorem d_Bits_ofTwo_149 : decode b_Bits_ofTwo 149 = .ok (.lload_n 3, 1) := by decide +kernel
theorem d_Bits_ofTwo_150 : decode b_Bits_ofTwo 150 = .ok (.lmul, 1) := by decide +kernel
theorem d_Bits_ofTwo_151 : decode b_Bits_ofTwo 151 = .ok (.iload 5, 2) := by decide +kernel
theorem d_Bits_ofTwo_153 : decode b_Bits_ofTwo 153 = .ok (.invokestatic 23, 3) := by decide +kernel
theorem d_Bits_ofTwo_156 : decode b_Bits_ofTwo 156 = .ok (.land, 1) := by decide +kernel
theorem d_Bits_ofTwo_157 : decode b_Bits_ofTwo 157 = .ok (.lreturn, 1) := by decide +kernel
theorem d_Bits_ofTwo_158 : decode b_Bits_ofTwo 158 = .ok (.lload_n 1, 1) := by decide +kernel
theorem d_Bits_ofTwo_159 : decode b_Bits_ofTwo 159 = .ok (.lload_n 3, 1) := by decide +kernel
theorem d_Bits_ofTwo_160 : decode b_Bits_ofTwo 160 = .ok (.invokestatic 27, 3) := by decide +kernel
theorem d_Bits_ofTwo_163 : decode b_Bits_ofTwo 163 = .ok (.iload 5, 2) := by decide +kernel
theorem d_Bits_ofTwo_165 : decode b_Bits_ofTwo 165 = .ok (.invokestatic 23, 3) := by decide +kernel
theorem d_Bits_ofTwo_168 : decode b_Bits_ofTwo 168 = .ok (.land, 1) := by decide +kernel
theorem d_Bits_ofTwo_169 : decode b_Bits_ofTwo 169 = .ok (.lreturn, 1) := by decide +kernel
theorem d_Bits_ofTwo_170 : decode b_Bits_ofTwo 170 = .ok (.lload_n 3, 1) := by decide +kernel
theorem d_Bits_ofTwo_171 : decode b_Bits_ofTwo 171 = .ok (.lconst 0, 1) := by decide +kernel
theorem d_Bits_ofTwo_172 : decode b_Bits_ofTwo 172 = .ok (.lcmp, 1) := by decide +kernel
theorem d_Bits_ofTwo_173 : decode b_Bits_ofTwo 173 = .ok (.ifCond .ne (7), 3) := by decide +kernel
theorem d_Bits_ofTwo_176 : decode b_Bits_ofTwo 176 = .ok (.lload_n 1, 1) := by decide +kernel
theorem d_Bits_ofTwo_177 : decode b_Bits_ofTwo 177 = .ok (.goto (12), 3) := by decide +kernel
theorem d_Bits_ofTwo_180 : decode b_Bits_ofTwo 180 = .ok (.lload_n 1, 1) := by decide +kernel
theorem d_Bits_ofTwo_181 : decode b_Bits_ofTwo 181 = .ok (.lload_n 1, 1) := by decide +kernel
theorem d_Bits_ofTwo_182 : decode b_Bits_ofTwo 182 = .ok (.lload_n 3, 1) := by decide +kernel
theorem d_Bits_ofTwo_183 : decode b_Bits_ofTwo 183 = .ok (.invokestatic 27, 3) := by decide +kernel
theorem d_Bits_ofTwo_186 : decode b_Bits_ofTwo 186 = .ok (.lload_n 3, 1) := by decide +kernel
theorem d_Bits_ofTwo_187 : decode b_Bits_ofTwo 187 = .ok (.lmul, 1) := by decide +kernel
theorem d_Bits_ofTwo_188 : decode b_Bits_ofTwo 188 = .ok (.lsub, 1) := by decide +kernel
theorem d_Bits_ofTwo_189 : decode b_Bits_ofTwo 189 = .ok (.lreturn, 1) := by decide +kernel
theorem d_Bits_ofTwo_190 : decode b_Bits_ofTwo 190 = .ok (.lload_n 1, 1) := by decide +kernel
theorem d_Bits_ofTwo_191 : decode b_Bits_ofTwo 191 = .ok (.iload 5, 2) := by decide +kernel
theorem d_Bits_ofTwo_193 : decode b_Bits_ofTwo 193 = .ok (.invokestatic 19, 3) := by decide +kernel
theorem d_Bits_ofTwo_196 : decode b_Bits_ofTwo 196 = .ok (.lload_n 3, 1) := by decide +kernel
theorem d_Bits_ofTwo_197 : decode b_Bits_ofTwo 197 = .ok (.iload 5, 2) := by decide +kernel
theorem d_Bits_ofTwo_199 : decode b_Bits_ofTwo 199 = .ok (.invokestatic 19, 3) := by decide +kernel
theorem d_Bits_ofTwo_202 : decode b_Bits_ofTwo 202 = .ok (.invokestatic 31, 3) := by decide +kernel
theorem d_Bits_ofTwo_205 : decode b_Bits_ofTwo 205 = .ok (.iload 5, 2) := by decide +kernel
theorem d_Bits_ofTwo_207 : decode b_Bits_ofTwo 207 = .ok (.invokestatic 23, 3) := by decide +kernel
theorem d_Bits_ofTwo_210 : decode b_Bits_ofTwo 210 = .ok (.land, 1) := by decide +kernel
theorem d_Bits_ofTwo_211 : decode b_Bits_ofTwo 211 = .ok (.lreturn, 1) := by decide +kernel
theorem d_Bits_ofTwo_212 : decode b_Bits_ofTwo 212 = .ok (.lload_n 1, 1) := by decide +kernel
theorem d_Bits_ofTwo_213 : decode b_Bits_ofTwo 213 = .ok (.iload 5, 2) := by decide +kernel
theorem d_Bits_ofTwo_215 : decode b_Bits_ofTwo 215 = .ok (.invokestatic 19, 3) := by decide +kernel
theorem d_Bits_ofTwo_218 : decode b_Bits_ofTwo 218 = .ok (.lload_n 3, 1) := by decide +kernel
theorem d_Bits_ofTwo_219 : decode b_Bits_ofTwo 219 = .ok (.iload 5, 2) := by decide +kernel
theorem d_Bits_ofTwo_221 : decode b_Bits_ofTwo 221 = .ok (.invokestatic 19, 3) := by decide +kernel
theorem d_Bits_ofTwo_224 : decode b_Bits_ofTwo 224 = .ok (.invokestatic 34, 3) := by decide +kernel
theorem d_Bits_ofTwo_227 : decode b_Bits_ofTwo 227 = .ok (.iload 5, 2) := by decide +kernel
theorem d_Bits_ofTwo_229 : decode b_Bits_ofTwo 229 = .ok (.invokestatic 23, 3) := by decide +kernel
theorem d_Bits_ofTwo_232 : decode b_Bits_ofTwo 232 = .ok (.land, 1) := by decide +kernel
theorem d_Bits_ofTwo_233 : decode b_Bits_ofTwo 233 = .ok (.lreturn, 1) := by decide +kernel
theorem d_Bits_ofTwo_234 : decode b_Bits_ofTwo 234 = .ok (.iload_n 0, 1) := by decide +kernel
theorem d_Bits_ofTwo_235 : decode b_Bits_ofTwo 235 = .ok (.lload_n 1, 1) := by decide +kernel
theorem d_Bits_ofTwo_236 : decode b_Bits_ofTwo 236 = .ok (.lload_n 3, 1) := by decide +kernel
theorem d_Bits_ofTwo_237 : decode b_Bits_ofTwo 237 = .ok (.iload 5, 2) := by decide +kernel
theorem d_Bits_ofTwo_239 : decode b_Bits_ofTwo 239 = .ok (.invokestatic 37, 3) := by decide +kernel
theorem d_Bits_ofTwo_242 : decode b_Bits_ofTwo 242 = .ok (.iload 5, 2) := by decide +kernel
theorem d_Bits_ofTwo_244 : decode b_Bits_ofTwo 244 = .ok (.invokestatic 23, 3) := by decide +kernel
theorem d_Bits_ofTwo_247 : decode b_Bits_ofTwo 247 = .ok (.land, 1) := by decide +kernel
theorem d_Bits_ofTwo_248 : decode b_Bits_ofTwo 248 = .ok (.lreturn, 1) := by decide +kernel
theorem d_Bits_ofTwo_249 : decode b_Bits_ofTwo 249 = .ok (.iload_n 0, 1) := by decide +kernel
theorem d_Bits_ofTwo_250 : decode b_Bits_ofTwo 250 = .ok (.lload_n 1, 1) := by decide +kernel
theorem d_Bits_ofTwo_251 : decode b_Bits_ofTwo 251 = .ok (.lload_n 3, 1) := by decide +kernel
theorem d_Bits_ofTwo_252 : decode b_Bits_ofTwo 252 = .ok (.iload 5, 2) := by decide +kernel
theorem d_Bits_ofTwo_254 : decode b_Bits_ofTwo 254 = .ok (.invokestatic 41, 3) := by decide +kernel
theorem d_Bits_ofTwo_257 : decode b_Bits_ofTwo 257 = .ok (.ifCond .eq (7), 3) := by decide +kernel
theorem d_Bits_ofTwo_260 : decode b_Bits_ofTwo 260 = .ok (.lconst 1, 1) := by decide +kernel
theorem d_Bits_ofTwo_261 : decode b_Bits_ofTwo 261 = .ok (.goto (4), 3) := by decide +kernel
theorem d_Bits_ofTwo_264 : decode b_Bits_ofTwo 264 = .ok (.lconst 0, 1) := by decide +kernel
theorem d_Bits_ofTwo_265 : decode b_Bits_ofTwo 265 = .ok (.lreturn, 1) := by decide +kernel
set_option maxHeartbeats 4000000 in
set_option maxRecDepth 100000 in
theorem c_Bits_ofTwo (l : Launch) {dA : FieldType → ClassId} {D : va_G} {al : Nat → Nat} {ext : mv_Sh} {sk sv : Nat → Nat} (hi : mv_inj (mg dA D al ext)) (σ : mv_H) (k : Int32) (x y : Int64) (w : Int32) : mv_C l y_Bits_ofTwo (Cond.code y_Bits_ofTwo b_Bits_ofTwo 6 (Option.some Jvm.ClassFile.FieldType.long) :: ma) ({ frames := 2, cells := 0, slots := 0, locals := 49 }) (mg dA D al ext) (mK sk sv) [.int k, .long x, .long y, .int w] σ (mv_Rl (fun _ σ1 => σ1 = σ)) := by
  refine mv_C.ofV (cc := b_Bits_ofTwo) (nL := 6) (ret := (Option.some Jvm.ClassFile.FieldType.long)) (by decide +kernel) rfl hi (Nat.le_of_ble_eq_true rfl) ?_
  intro p e s m below meth c B hNs hr hnm hno
  refine mv_iload_n (pc := 0) B d_Bits_ofTwo_0 rfl 0 rfl ?_
  refine mv_lsw (pc := 1) B d_Bits_ofTwo_1 (by decide) (by decide) ?_
  refine ⟨fun h1 => ?_, fun h1n37 => ?_⟩
  · skip
    refine mv_lload_n (pc := 170) B d_Bits_ofTwo_170 rfl 2 rfl ?_
    refine mv_lconst (pc := 171) (v := 0) B d_Bits_ofTwo_171 (by decide) ?_
    refine mv_lcmp (pc := 172) B d_Bits_ofTwo_172 ?_
    refine mv_if_ne (pc := 173) (tgt := 180) B d_Bits_ofTwo_173 rfl (fun h173 => ?_) (fun h173 => ?_)
    · skip
      refine mv_lload_n (pc := 180) B d_Bits_ofTwo_180 rfl 1 rfl ?_
      refine mv_lload_n (pc := 181) B d_Bits_ofTwo_181 rfl 1 rfl ?_
      refine mv_lload_n (pc := 182) B d_Bits_ofTwo_182 rfl 2 rfl ?_
      refine mv_callSl (pc := 183) (n := 2) B (mK_ok sk sv) hNs (c_Bits_divide l hi _ _ _) rfl (ma_goodc kc_Bits_divide) (B.2.2.2.1 _ k_1618) (B.2.2.2.1 _ k_1619) (B.2.2.2.1 _ k_33) ⟨by decide +kernel, by decide +kernel, by decide +kernel⟩ rfl d_Bits_ofTwo_183 rfl (Nat.le_of_ble_eq_true rfl) ⟨by decide, by decide⟩ ⟨by decide, by decide⟩ ⟨by decide, by decide⟩ (mv_noH hno _) (fun v183 σ183 h183 => ?_)
      subst h183
      refine mv_lload_n (pc := 186) B d_Bits_ofTwo_186 rfl 2 rfl ?_
      refine mv_lmul (pc := 187) B d_Bits_ofTwo_187 ?_
      refine mv_lsub (pc := 188) B d_Bits_ofTwo_188 ?_
      exact mv_lret (pc := 189) B hr d_Bits_ofTwo_189 (Nat.le_refl _) (Nat.le_refl _) ⟨_, rfl, rfl⟩
    · skip
      refine mv_lload_n (pc := 176) B d_Bits_ofTwo_176 rfl 1 rfl ?_
      refine mv_goto (pc := 177) (tgt := 189) B d_Bits_ofTwo_177 rfl ?_
      exact mv_lret (pc := 189) B hr d_Bits_ofTwo_189 (Nat.le_refl _) (Nat.le_refl _) ⟨_, rfl, rfl⟩
  refine ⟨fun h1 => ?_, fun h1n38 => ?_⟩
  · skip
    refine mv_lload_n (pc := 124) B d_Bits_ofTwo_124 rfl 1 rfl ?_
    refine mv_lload_n (pc := 125) B d_Bits_ofTwo_125 rfl 2 rfl ?_
    refine mv_land (pc := 126) B d_Bits_ofTwo_126 ?_
    exact mv_lret (pc := 127) B hr d_Bits_ofTwo_127 (Nat.le_refl _) (Nat.le_refl _) ⟨_, rfl, rfl⟩
  refine ⟨fun h1 => ?_, fun h1n42 => ?_⟩
  · skip
    refine mv_lload_n (pc := 148) B d_Bits_ofTwo_148 rfl 1 rfl ?_
    refine mv_lload_n (pc := 149) B d_Bits_ofTwo_149 rfl 2 rfl ?_
    refine mv_lmul (pc := 150) B d_Bits_ofTwo_150 ?_
    refine mv_iload (pc := 151) B d_Bits_ofTwo_151 3 rfl ?_
    refine mv_callSl (pc := 153) (n := 1) B (mK_ok sk sv) hNs (c_Bits_mask l hi _ _) rfl (ma_goodc kc_Bits_mask) (B.2.2.2.1 _ k_1617) (B.2.2.2.1 _ k_1437) (B.2.2.2.1 _ k_33) ⟨by decide +kernel, by decide +kernel, by decide +kernel⟩ rfl d_Bits_ofTwo_153 rfl (Nat.le_of_ble_eq_true rfl) ⟨by decide, by decide⟩ ⟨by decide, by decide⟩ ⟨by decide, by decide⟩ (mv_noH hno _) (fun v153 σ153 h153 => ?_)
    subst h153
    refine mv_land (pc := 156) B d_Bits_ofTwo_156 ?_
    exact mv_lret (pc := 157) B hr d_Bits_ofTwo_157 (Nat.le_refl _) (Nat.le_refl _) ⟨_, rfl, rfl⟩
  refine ⟨fun h1 => ?_, fun h1n43 => ?_⟩
  · skip
    refine mv_lload_n (pc := 128) B d_Bits_ofTwo_128 rfl 1 rfl ?_
    refine mv_lload_n (pc := 129) B d_Bits_ofTwo_129 rfl 2 rfl ?_
    refine mv_ladd (pc := 130) B d_Bits_ofTwo_130 ?_
    refine mv_iload (pc := 131) B d_Bits_ofTwo_131 3 rfl ?_
    refine mv_callSl (pc := 133) (n := 1) B (mK_ok sk sv) hNs (c_Bits_mask l hi _ _) rfl (ma_goodc kc_Bits_mask) (B.2.2.2.1 _ k_1617) (B.2.2.2.1 _ k_1437) (B.2.2.2.1 _ k_33) ⟨by decide +kernel, by decide +kernel, by decide +kernel⟩ rfl d_Bits_ofTwo_133 rfl (Nat.le_of_ble_eq_true rfl) ⟨by decide, by decide⟩ ⟨by decide, by decide⟩ ⟨by decide, by decide⟩ (mv_noH hno _) (fun v133 σ133 h133 => ?_)
    subst h133
    refine mv_land (pc := 136) B d_Bits_ofTwo_136 ?_
    exact mv_lret (pc := 137) B hr d_Bits_ofTwo_137 (Nat.le_refl _) (Nat.le_refl _) ⟨_, rfl, rfl⟩
  refine ⟨fun h1 => ?_, fun h1n45 => ?_⟩
  · skip
    refine mv_lload_n (pc := 138) B d_Bits_ofTwo_138 rfl 1 rfl ?_
    refine mv_lload_n (pc := 139) B d_Bits_ofTwo_139 rfl 2 rfl ?_
    refine mv_lsub (pc := 140) B d_Bits_ofTwo_140 ?_
    refine mv_iload (pc := 141) B d_Bits_ofTwo_141 3 rfl ?_
    refine mv_callSl (pc := 143) (n := 1) B (mK_ok sk sv) hNs (c_Bits_mask l hi _ _) rfl (ma_goodc kc_Bits_mask) (B.2.2.2.1 _ k_1617) (B.2.2.2.1 _ k_1437) (B.2.2.2.1 _ k_33) ⟨by decide +kernel, by decide +kernel, by decide +kernel⟩ rfl d_Bits_ofTwo_143 rfl (Nat.le_of_ble_eq_true rfl) ⟨by decide, by decide⟩ ⟨by decide, by decide⟩ ⟨by decide, by decide⟩ (mv_noH hno _) (fun v143 σ143 h143 => ?_)
    subst h143
    refine mv_land (pc := 146) B d_Bits_ofTwo_146 ?_
    exact mv_lret (pc := 147) B hr d_Bits_ofTwo_147 (Nat.le_refl _) (Nat.le_refl _) ⟨_, rfl, rfl⟩
  refine ⟨fun h1 => ?_, fun h1n47 => ?_⟩
  · skip
    refine mv_lload_n (pc := 158) B d_Bits_ofTwo_158 rfl 1 rfl ?_
    refine mv_lload_n (pc := 159) B d_Bits_ofTwo_159 rfl 2 rfl ?_
    refine mv_callSl (pc := 160) (n := 2) B (mK_ok sk sv) hNs (c_Bits_divide l hi _ _ _) rfl (ma_goodc kc_Bits_divide) (B.2.2.2.1 _ k_1618) (B.2.2.2.1 _ k_1619) (B.2.2.2.1 _ k_33) ⟨by decide +kernel, by decide +kernel, by decide +kernel⟩ rfl d_Bits_ofTwo_160 rfl (Nat.le_of_ble_eq_true rfl) ⟨by decide, by decide⟩ ⟨by decide, by decide⟩ ⟨by decide, by decide⟩ (mv_noH hno _) (fun v160 σ160 h160 => ?_)
    subst h160
    refine mv_iload (pc := 163) B d_Bits_ofTwo_163 3 rfl ?_
    refine mv_callSl (pc := 165) (n := 1) B (mK_ok sk sv) hNs (c_Bits_mask l hi _ _) rfl (ma_goodc kc_Bits_mask) (B.2.2.2.1 _ k_1617) (B.2.2.2.1 _ k_1437) (B.2.2.2.1 _ k_33) ⟨by decide +kernel, by decide +kernel, by decide +kernel⟩ rfl d_Bits_ofTwo_165 rfl (Nat.le_of_ble_eq_true rfl) ⟨by decide, by decide⟩ ⟨by decide, by decide⟩ ⟨by decide, by decide⟩ (mv_noH hno _) (fun v165 σ165 h165 => ?_)
    subst h165
    refine mv_land (pc := 168) B d_Bits_ofTwo_168 ?_
    exact mv_lret (pc := 169) B hr d_Bits_ofTwo_169 (Nat.le_refl _) (Nat.le_refl _) ⟨_, rfl, rfl⟩
  refine ⟨fun h1 => ?_, fun h1n94 => ?_⟩
  · skip
    refine mv_lload_n (pc := 120) B d_Bits_ofTwo_120 rfl 1 rfl ?_
    refine mv_lload_n (pc := 121) B d_Bits_ofTwo_121 rfl 2 rfl ?_
    refine mv_lxor (pc := 122) B d_Bits_ofTwo_122 ?_
    exact mv_lret (pc := 123) B hr d_Bits_ofTwo_123 (Nat.le_refl _) (Nat.le_refl _) ⟨_, rfl, rfl⟩
  refine ⟨fun h1 => ?_, fun h1n124 => ?_⟩
  · skip
    refine mv_lload_n (pc := 116) B d_Bits_ofTwo_116 rfl 1 rfl ?_
    refine mv_lload_n (pc := 117) B d_Bits_ofTwo_117 rfl 2 rfl ?_
    refine mv_lor (pc := 118) B d_Bits_ofTwo_118 ?_
    exact mv_lret (pc := 119) B hr d_Bits_ofTwo_119 (Nat.le_refl _) (Nat.le_refl _) ⟨_, rfl, rfl⟩
  refine ⟨fun h1 => ?_, fun h1n131 => ?_⟩
  · skip
    refine mv_iload_n (pc := 234) B d_Bits_ofTwo_234 rfl 0 rfl ?_
    refine mv_lload_n (pc := 235) B d_Bits_ofTwo_235 rfl 1 rfl ?_
    refine mv_lload_n (pc := 236) B d_Bits_ofTwo_236 rfl 2 rfl ?_
    refine mv_iload (pc := 237) B d_Bits_ofTwo_237 3 rfl ?_
    refine mv_callSl (pc := 239) (n := 4) B (mK_ok sk sv) hNs (c_Bits_shift l hi _ _ _ _ _) rfl (ma_goodc kc_Bits_shift) (B.2.2.2.1 _ k_1629) (B.2.2.2.1 _ k_1630) (B.2.2.2.1 _ k_33) ⟨by decide +kernel, by decide +kernel, by decide +kernel⟩ rfl d_Bits_ofTwo_239 rfl (Nat.le_of_ble_eq_true rfl) ⟨by decide, by decide⟩ ⟨by decide, by decide⟩ ⟨by decide, by decide⟩ (mv_noH hno _) (fun v239 σ239 h239 => ?_)
    subst h239
    refine mv_iload (pc := 242) B d_Bits_ofTwo_242 3 rfl ?_
    refine mv_callSl (pc := 244) (n := 1) B (mK_ok sk sv) hNs (c_Bits_mask l hi _ _) rfl (ma_goodc kc_Bits_mask) (B.2.2.2.1 _ k_1617) (B.2.2.2.1 _ k_1437) (B.2.2.2.1 _ k_33) ⟨by decide +kernel, by decide +kernel, by decide +kernel⟩ rfl d_Bits_ofTwo_244 rfl (Nat.le_of_ble_eq_true rfl) ⟨by decide, by decide⟩ ⟨by decide, by decide⟩ ⟨by decide, by decide⟩ (mv_noH hno _) (fun v244 σ244 h244 => ?_)
    subst h244
    refine mv_land (pc := 247) B d_Bits_ofTwo_247 ?_
    exact mv_lret (pc := 248) B hr d_Bits_ofTwo_248 (Nat.le_refl _) (Nat.le_refl _) ⟨_, rfl, rfl⟩
  refine ⟨fun h1 => ?_, fun h1n132 => ?_⟩
  · skip
    refine mv_iload_n (pc := 234) B d_Bits_ofTwo_234 rfl 0 rfl ?_
    refine mv_lload_n (pc := 235) B d_Bits_ofTwo_235 rfl 1 rfl ?_
    refine mv_lload_n (pc := 236) B d_Bits_ofTwo_236 rfl 2 rfl ?_
    refine mv_iload (pc := 237) B d_Bits_ofTwo_237 3 rfl ?_
    refine mv_callSl (pc := 239) (n := 4) B (mK_ok sk sv) hNs (c_Bits_shift l hi _ _ _ _ _) rfl (ma_goodc kc_Bits_shift) (B.2.2.2.1 _ k_1629) (B.2.2.2.1 _ k_1630) (B.2.2.2.1 _ k_33) ⟨by decide +kernel, by decide +kernel, by decide +kernel⟩ rfl d_Bits_ofTwo_239 rfl (Nat.le_of_ble_eq_true rfl) ⟨by decide, by decide⟩ ⟨by decide, by decide⟩ ⟨by decide, by decide⟩ (mv_noH hno _) (fun v239 σ239 h239 => ?_)
    subst h239
    refine mv_iload (pc := 242) B d_Bits_ofTwo_242 3 rfl ?_
    refine mv_callSl (pc := 244) (n := 1) B (mK_ok sk sv) hNs (c_Bits_mask l hi _ _) rfl (ma_goodc kc_Bits_mask) (B.2.2.2.1 _ k_1617) (B.2.2.2.1 _ k_1437) (B.2.2.2.1 _ k_33) ⟨by decide +kernel, by decide +kernel, by decide +kernel⟩ rfl d_Bits_ofTwo_244 rfl (Nat.le_of_ble_eq_true rfl) ⟨by decide, by decide⟩ ⟨by decide, by decide⟩ ⟨by decide, by decide⟩ (mv_noH hno _) (fun v244 σ244 h244 => ?_)
    subst h244
    refine mv_land (pc := 247) B d_Bits_ofTwo_247 ?_
    exact mv_lret (pc := 248) B hr d_Bits_ofTwo_248 (Nat.le_refl _) (Nat.le_refl _) ⟨_, rfl, rfl⟩
  refine ⟨fun h1 => ?_, fun h1n214 => ?_⟩
  · skip
    refine mv_lload_n (pc := 190) B d_Bits_ofTwo_190 rfl 1 rfl ?_
    refine mv_iload (pc := 191) B d_Bits_ofTwo_191 3 rfl ?_
    refine mv_callSl (pc := 193) (n := 2) B (mK_ok sk sv) hNs (c_Bits_signed l hi _ _ _) rfl (ma_goodc kc_Bits_signed) (B.2.2.2.1 _ k_1622) (B.2.2.2.1 _ k_1612) (B.2.2.2.1 _ k_33) ⟨by decide +kernel, by decide +kernel, by decide +kernel⟩ rfl d_Bits_ofTwo_193 rfl (Nat.le_of_ble_eq_true rfl) ⟨by decide, by decide⟩ ⟨by decide, by decide⟩ ⟨by decide, by decide⟩ (mv_noH hno _) (fun v193 σ193 h193 => ?_)
    subst h193
    refine mv_lload_n (pc := 196) B d_Bits_ofTwo_196 rfl 2 rfl ?_
    refine mv_iload (pc := 197) B d_Bits_ofTwo_197 3 rfl ?_
    refine mv_callSl (pc := 199) (n := 2) B (mK_ok sk sv) hNs (c_Bits_signed l hi _ _ _) rfl (ma_goodc kc_Bits_signed) (B.2.2.2.1 _ k_1622) (B.2.2.2.1 _ k_1612) (B.2.2.2.1 _ k_33) ⟨by decide +kernel, by decide +kernel, by decide +kernel⟩ rfl d_Bits_ofTwo_199 rfl (Nat.le_of_ble_eq_true rfl) ⟨by decide, by decide⟩ ⟨by decide, by decide⟩ ⟨by decide, by decide⟩ (mv_noH hno _) (fun v199 σ199 h199 => ?_)
    subst h199
    refine mv_callSl (pc := 202) (n := 2) B (mK_ok sk sv) hNs (c_Bits_signedDivide l hi _ _ _) rfl (ma_goodc kc_Bits_signedDivide) (B.2.2.2.1 _ k_1623) (B.2.2.2.1 _ k_1624) (B.2.2.2.1 _ k_33) ⟨by decide +kernel, by decide +kernel, by decide +kernel⟩ rfl d_Bits_ofTwo_202 rfl (Nat.le_of_ble_eq_true rfl) ⟨by decide, by decide⟩ ⟨by decide, by decide⟩ ⟨by decide, by decide⟩ (mv_noH hno _) (fun v202 σ202 h202 => ?_)
    subst h202
    refine mv_iload (pc := 205) B d_Bits_ofTwo_205 3 rfl ?_
    refine mv_callSl (pc := 207) (n := 1) B (mK_ok sk sv) hNs (c_Bits_mask l hi _ _) rfl (ma_goodc kc_Bits_mask) (B.2.2.2.1 _ k_1617) (B.2.2.2.1 _ k_1437) (B.2.2.2.1 _ k_33) ⟨by decide +kernel, by decide +kernel, by decide +kernel⟩ rfl d_Bits_ofTwo_207 rfl (Nat.le_of_ble_eq_true rfl) ⟨by decide, by decide⟩ ⟨by decide, by decide⟩ ⟨by decide, by decide⟩ (mv_noH hno _) (fun v207 σ207 h207 => ?_)
    subst h207
    refine mv_land (pc := 210) B d_Bits_ofTwo_210 ?_
    exact mv_lret (pc := 211) B hr d_Bits_ofTwo_211 (Nat.le_refl _) (Nat.le_refl _) ⟨_, rfl, rfl⟩
  refine ⟨fun h1 => ?_, fun h1n215 => ?_⟩
  · skip
    refine mv_lload_n (pc := 212) B d_Bits_ofTwo_212 rfl 1 rfl ?_
    refine mv_iload (pc := 213) B d_Bits_ofTwo_213 3 rfl ?_
    refine mv_callSl (pc := 215) (n := 2) B (mK_ok sk sv) hNs (c_Bits_signed l hi _ _ _) rfl (ma_goodc kc_Bits_signed) (B.2.2.2.1 _ k_1622) (B.2.2.2.1 _ k_1612) (B.2.2.2.1 _ k_33) ⟨by decide +kernel, by decide +kernel, by decide +kernel⟩ rfl d_Bits_ofTwo_215 rfl (Nat.le_of_ble_eq_true rfl) ⟨by decide, by decide⟩ ⟨by decide, by decide⟩ ⟨by decide, by decide⟩ (mv_noH hno _) (fun v215 σ215 h215 => ?_)
    subst h215
    refine mv_lload_n (pc := 218) B d_Bits_ofTwo_218 rfl 2 rfl ?_
    refine mv_iload (pc := 219) B d_Bits_ofTwo_219 3 rfl ?_
    refine mv_callSl (pc := 221) (n := 2) B (mK_ok sk sv) hNs (c_Bits_signed l hi _ _ _) rfl (ma_goodc kc_Bits_signed) (B.2.2.2.1 _ k_1622) (B.2.2.2.1 _ k_1612) (B.2.2.2.1 _ k_33) ⟨by decide +kernel, by decide +kernel, by decide +kernel⟩ rfl d_Bits_ofTwo_221 rfl (Nat.le_of_ble_eq_true rfl) ⟨by decide, by decide⟩ ⟨by decide, by decide⟩ ⟨by decide, by decide⟩ (mv_noH hno _) (fun v221 σ221 h221 => ?_)
    subst h221
    refine mv_callSl (pc := 224) (n := 2) B (mK_ok sk sv) hNs (c_Bits_signedRemain l hi _ _ _) rfl (ma_goodc kc_Bits_signedRemain) (B.2.2.2.1 _ k_1626) (B.2.2.2.1 _ k_1627) (B.2.2.2.1 _ k_33) ⟨by decide +kernel, by decide +kernel, by decide +kernel⟩ rfl d_Bits_ofTwo_224 rfl (Nat.le_of_ble_eq_true rfl) ⟨by decide, by decide⟩ ⟨by decide, by decide⟩ ⟨by decide, by decide⟩ (mv_noH hno _) (fun v224 σ224 h224 => ?_)
    subst h224
    refine mv_iload (pc := 227) B d_Bits_ofTwo_227 3 rfl ?_
    refine mv_callSl (pc := 229) (n := 1) B (mK_ok sk sv) hNs (c_Bits_mask l hi _ _) rfl (ma_goodc kc_Bits_mask) (B.2.2.2.1 _ k_1617) (B.2.2.2.1 _ k_1437) (B.2.2.2.1 _ k_33) ⟨by decide +kernel, by decide +kernel, by decide +kernel⟩ rfl d_Bits_ofTwo_229 rfl (Nat.le_of_ble_eq_true rfl) ⟨by decide, by decide⟩ ⟨by decide, by decide⟩ ⟨by decide, by decide⟩ (mv_noH hno _) (fun v229 σ229 h229 => ?_)
    subst h229
    refine mv_land (pc := 232) B d_Bits_ofTwo_232 ?_
    exact mv_lret (pc := 233) B hr d_Bits_ofTwo_233 (Nat.le_refl _) (Nat.le_refl _) ⟨_, rfl, rfl⟩
  refine ⟨fun h1 => ?_, fun h1n216 => ?_⟩
  · skip
    refine mv_iload_n (pc := 234) B d_Bits_ofTwo_234 rfl 0 rfl ?_
    refine mv_lload_n (pc := 235) B d_Bits_ofTwo_235 rfl 1 rfl ?_
    refine mv_lload_n (pc := 236) B d_Bits_ofTwo_236 rfl 2 rfl ?_
    refine mv_iload (pc := 237) B d_Bits_ofTwo_237 3 rfl ?_
    refine mv_callSl (pc := 239) (n := 4) B (mK_ok sk sv) hNs (c_Bits_shift l hi _ _ _ _ _) rfl (ma_goodc kc_Bits_shift) (B.2.2.2.1 _ k_1629) (B.2.2.2.1 _ k_1630) (B.2.2.2.1 _ k_33) ⟨by decide +kernel, by decide +kernel, by decide +kernel⟩ rfl d_Bits_ofTwo_239 rfl (Nat.le_of_ble_eq_true rfl) ⟨by decide, by decide⟩ ⟨by decide, by decide⟩ ⟨by decide, by decide⟩ (mv_noH hno _) (fun v239 σ239 h239 => ?_)
    subst h239
    refine mv_iload (pc := 242) B d_Bits_ofTwo_242 3 rfl ?_
    refine mv_callSl (pc := 244) (n := 1) B (mK_ok sk sv) hNs (c_Bits_mask l hi _ _) rfl (ma_goodc kc_Bits_mask) (B.2.2.2.1 _ k_1617) (B.2.2.2.1 _ k_1437) (B.2.2.2.1 _ k_33) ⟨by decide +kernel, by decide +kernel, by decide +kernel⟩ rfl d_Bits_ofTwo_244 rfl (Nat.le_of_ble_eq_true rfl) ⟨by decide, by decide⟩ ⟨by decide, by decide⟩ ⟨by decide, by decide⟩ (mv_noH hno _) (fun v244 σ244 h244 => ?_)
    subst h244
    refine mv_land (pc := 247) B d_Bits_ofTwo_247 ?_
    exact mv_lret (pc := 248) B hr d_Bits_ofTwo_248 (Nat.le_refl _) (Nat.le_refl _) ⟨_, rfl, rfl⟩
  show mv_V _ _ _ _ _ _ _ _ _ _ _ _ _ _ _ _ 249 _ _
  refine mv_iload_n (pc := 249) B d_Bits_ofTwo_249 rfl 0 rfl ?_
  refine mv_lload_n (pc := 250) B d_Bits_ofTwo_250 rfl 1 rfl ?_
  refine mv_lload_n (pc := 251) B d_Bits_ofTwo_251 rfl 2 rfl ?_
  refine mv_iload (pc := 252) B d_Bits_ofTwo_252 3 rfl ?_
  refine mv_callSi (pc := 254) (n := 4) B (mK_ok sk sv) hNs (c_Bits_holds l hi _ _ _ _ _) rfl (ma_goodc kc_Bits_holds) (B.2.2.2.1 _ k_1632) (B.2.2.2.1 _ k_1633) (B.2.2.2.1 _ k_33) ⟨by decide +kernel, by decide +kernel, by decide +kernel⟩ rfl d_Bits_ofTwo_254 rfl (Nat.le_of_ble_eq_true rfl) ⟨by decide, by decide⟩ ⟨by decide, by decide⟩ ⟨by decide, by decide⟩ (mv_noH hno _) (fun v254 σ254 h254 => ?_)
  obtain ⟨rfl, -⟩ := h254
  refine mv_if_eq (pc := 257) (tgt := 264) B d_Bits_ofTwo_257 rfl (fun h257 => ?_) (fun h257 => ?_)
  · skip
    refine mv_lconst (pc := 264) (v := 0) B d_Bits_ofTwo_264 (by decide) ?_
    exact mv_lret (pc := 265) B hr d_Bits_ofTwo_265 (Nat.le_refl _) (Nat.le_refl _) ⟨_, rfl, rfl⟩
  · skip
    refine mv_lconst (pc := 260) (v := 1) B d_Bits_ofTwo_260 (by decide) ?_
    refine mv_goto (pc := 261) (tgt := 265) B d_Bits_ofTwo_261 rfl ?_
    exact mv_lret (pc := 265) B hr d_Bits_ofTwo_265 (Nat.le_refl _) (Nat.le_refl _) ⟨_, rfl, rfl⟩
