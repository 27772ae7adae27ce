/-! Tree: bits -/
def us (x : Int64) (y : Int32) : Int64 := (x.toUInt64 >>> (y.toInt64.toUInt64 &&& Int64.toUInt64 63)).toInt64
def bcL (x : Int64) : Int32 :=
  let a := x - (us x 1 &&& 6148914691236517205)
  let b := (a &&& 3689348814741910323) + (us a 2 &&& 3689348814741910323)
  let c := (b + us b 4) &&& 1085102592571150095
  let d := c + us c 8
  let e := d + us d 16
  let f := e + us e 32
  f.toInt32 &&& 127
set_option maxHeartbeats 4000000 in
set_option maxRecDepth 100000 in
theorem c_Long_bitCountF (l : Launch) {dA : FieldType → ClassId} {D : va_G} {al : Nat → Nat} {ext : mv_Sh} {sk sv : Nat → Nat} (hi : mv_inj (mg dA D al ext)) (σ : mv_H) (x : Int64) : mv_C l y_Long_bitCount (Cond.code y_Long_bitCount b_Long_bitCount 2 (Option.some Jvm.ClassFile.FieldType.int) :: ma) ({ frames := 0, cells := 0, slots := 0, locals := 0 }) (mg dA D al ext) (mK sk sv) [.long x] σ (mv_Ri (fun v σ1 => σ1 = σ ∧ v = bcL x)) := by
  refine mv_C.ofV (cc := b_Long_bitCount) (nL := 2) (ret := (Option.some Jvm.ClassFile.FieldType.int)) (by decide +kernel) rfl hi (Nat.le_of_ble_eq_true rfl) ?_
  intro p e s m below meth c B hNs hr hnm hno
  refine mv_lload_n (pc := 0) B d_Long_bitCount_0 rfl 0 rfl ?_
  refine mv_lload_n (pc := 1) B d_Long_bitCount_1 rfl 0 rfl ?_
  refine mv_iconst (pc := 2) (v := 1) B d_Long_bitCount_2 (by decide) ?_
  refine mv_lushr (pc := 3) B d_Long_bitCount_3 ?_
  refine mv_ldc2 (pc := 4) (v := 6148914691236517205) B (B.2.2.2.1 _ k_426) d_Long_bitCount_4 ?_
  refine mv_land (pc := 7) B d_Long_bitCount_7 ?_
  refine mv_lsub (pc := 8) B d_Long_bitCount_8 ?_
  refine mv_lstore_n (pc := 9) B d_Long_bitCount_9 rfl (by decide) rfl ?_
  refine mv_lload_n (pc := 10) B d_Long_bitCount_10 rfl 0 rfl ?_
  refine mv_ldc2 (pc := 11) (v := 3689348814741910323) B (B.2.2.2.1 _ k_427) d_Long_bitCount_11 ?_
  refine mv_land (pc := 14) B d_Long_bitCount_14 ?_
  refine mv_lload_n (pc := 15) B d_Long_bitCount_15 rfl 0 rfl ?_
  refine mv_iconst (pc := 16) (v := 2) B d_Long_bitCount_16 (by decide) ?_
  refine mv_lushr (pc := 17) B d_Long_bitCount_17 ?_
  refine mv_ldc2 (pc := 18) (v := 3689348814741910323) B (B.2.2.2.1 _ k_427) d_Long_bitCount_18 ?_
  refine mv_land (pc := 21) B d_Long_bitCount_21 ?_
  refine mv_ladd (pc := 22) B d_Long_bitCount_22 ?_
  refine mv_lstore_n (pc := 23) B d_Long_bitCount_23 rfl (by decide) rfl ?_
  refine mv_lload_n (pc := 24) B d_Long_bitCount_24 rfl 0 rfl ?_
  refine mv_lload_n (pc := 25) B d_Long_bitCount_25 rfl 0 rfl ?_
  refine mv_iconst (pc := 26) (v := 4) B d_Long_bitCount_26 (by decide) ?_
  refine mv_lushr (pc := 27) B d_Long_bitCount_27 ?_
  refine mv_ladd (pc := 28) B d_Long_bitCount_28 ?_
  refine mv_ldc2 (pc := 29) (v := 1085102592571150095) B (B.2.2.2.1 _ k_428) d_Long_bitCount_29 ?_
  refine mv_land (pc := 32) B d_Long_bitCount_32 ?_
  refine mv_lstore_n (pc := 33) B d_Long_bitCount_33 rfl (by decide) rfl ?_
  refine mv_lload_n (pc := 34) B d_Long_bitCount_34 rfl 0 rfl ?_
  refine mv_lload_n (pc := 35) B d_Long_bitCount_35 rfl 0 rfl ?_
  refine mv_bipush (pc := 36) (v := 8) B d_Long_bitCount_36 (by decide) ?_
  refine mv_lushr (pc := 38) B d_Long_bitCount_38 ?_
  refine mv_ladd (pc := 39) B d_Long_bitCount_39 ?_
  refine mv_lstore_n (pc := 40) B d_Long_bitCount_40 rfl (by decide) rfl ?_
  refine mv_lload_n (pc := 41) B d_Long_bitCount_41 rfl 0 rfl ?_
  refine mv_lload_n (pc := 42) B d_Long_bitCount_42 rfl 0 rfl ?_
  refine mv_bipush (pc := 43) (v := 16) B d_Long_bitCount_43 (by decide) ?_
  refine mv_lushr (pc := 45) B d_Long_bitCount_45 ?_
  refine mv_ladd (pc := 46) B d_Long_bitCount_46 ?_
  refine mv_lstore_n (pc := 47) B d_Long_bitCount_47 rfl (by decide) rfl ?_
  refine mv_lload_n (pc := 48) B d_Long_bitCount_48 rfl 0 rfl ?_
  refine mv_lload_n (pc := 49) B d_Long_bitCount_49 rfl 0 rfl ?_
  refine mv_bipush (pc := 50) (v := 32) B d_Long_bitCount_50 (by decide) ?_
  refine mv_lushr (pc := 52) B d_Long_bitCount_52 ?_
  refine mv_ladd (pc := 53) B d_Long_bitCount_53 ?_
  refine mv_lstore_n (pc := 54) B d_Long_bitCount_54 rfl (by decide) rfl ?_
  refine mv_lload_n (pc := 55) B d_Long_bitCount_55 rfl 0 rfl ?_
  refine mv_l2i (pc := 56) B d_Long_bitCount_56 ?_
  refine mv_bipush (pc := 57) (v := 127) B d_Long_bitCount_57 (by decide) ?_
  refine mv_iand (pc := 59) B d_Long_bitCount_59 ?_
  exact mv_iret (pc := 60) B hr rfl d_Long_bitCount_60 (Nat.le_refl _) (Nat.le_refl _) ⟨_, rfl, rfl, rfl⟩
theorem bc_tab : ∀ b : Fin 64, bcL (Int64.ofBitVec (BitVec.twoPow 64 b.val) - 1) = Int32.ofNat b.val := by decide +kernel
theorem sh_tab : ∀ k : Fin 64, ((Int32.ofNat k.val).toInt64.toUInt64 &&& Int64.toUInt64 63) = UInt64.ofNat k.val := by decide +kernel
theorem least_of {P : Nat → Prop} : ∀ n : Nat, P n → ∃ b, b ≤ n ∧ P b ∧ ∀ j, j < b → ¬ P j := by
  intro n
  induction n using Nat.strongRecOn with
  | ind n ih =>
    intro h
    by_cases hx : ∃ j, j < n ∧ P j
    · obtain ⟨j, hj, hp⟩ := hx
      obtain ⟨b, hb, h1, h2⟩ := ih j hj hp
      exact ⟨b, by omega, h1, h2⟩
    · exact ⟨n, Nat.le_refl _, h, fun j hj hp => hx ⟨j, hj, hp⟩⟩
theorem bv_some {x : BitVec 64} (h : x ≠ 0#64) : ∃ i, x.getLsbD i = true := by
  refine Classical.byContradiction fun q => h ?_
  apply BitVec.eq_of_getLsbD_eq
  intro i hi
  have h1 : ¬ x.getLsbD i = true := fun e => q ⟨i, e⟩
  rw [BitVec.getLsbD_zero]
  exact Bool.eq_false_iff.mpr h1
theorem low_bit (p : Int64) (h : ¬ p = 0) : ∃ b : Nat, b < 64 ∧ p.toBitVec.getLsbD b = true ∧ bcL ((p &&& -p) - 1) = Int32.ofNat b := by
  have hne : p.toBitVec ≠ 0#64 := fun e => h (Int64.toBitVec_inj.mp e)
  obtain ⟨i, hi⟩ := bv_some hne
  obtain ⟨b, -, hb, hl⟩ := least_of (P := fun j => p.toBitVec.getLsbD j = true) i hi
  have h64 : b < 64 := BitVec.lt_of_getLsbD hb
  refine ⟨b, h64, hb, ?_⟩
  have e : p &&& -p = Int64.ofBitVec (BitVec.twoPow 64 b) := by
    apply Int64.toBitVec_inj.mp
    rw [Int64.toBitVec_and, Int64.toBitVec_neg, Int64.toBitVec_ofBitVec]
    apply BitVec.eq_of_getLsbD_eq
    intro j hj
    rw [BitVec.getLsbD_and, BitVec.getLsbD_neg, BitVec.getLsbD_twoPow]
    by_cases e1 : b = j
    · subst e1
      have e2 : ¬ ∃ k, k < b ∧ p.toBitVec.getLsbD k = true := fun ⟨k, h1, h2⟩ => hl k h1 h2
      simp [hb, hj, e2]
    · simp only [e1, decide_false, Bool.and_false]
      by_cases e2 : p.toBitVec.getLsbD j = true
      · have e3 : ∃ k, k < j ∧ p.toBitVec.getLsbD k = true := ⟨b, by
          rcases Nat.lt_or_ge b j with q | q
          · exact q
          · exact absurd e2 (hl j (by omega)), hb⟩
        simp [e2, hj, e3]
      · simp [Bool.eq_false_iff.mpr e2]
  rw [e]
  exact bc_tab ⟨b, h64⟩
theorem us_bit (x : Int64) (k : Nat) (hk : k < 64) : us x (Int32.ofNat k) &&& 1 = 0 ↔ x.toBitVec.getLsbD k = false := by
  unfold us
  rw [sh_tab ⟨k, hk⟩]
  rw [← Int64.toBitVec_inj, Int64.toBitVec_and]
  have e : ((x.toUInt64 >>> UInt64.ofNat k).toInt64).toBitVec = x.toBitVec >>> k := by
    show (x.toUInt64 >>> UInt64.ofNat k).toBitVec = _
    rw [UInt64.toBitVec_shiftRight]
    have e2 : (UInt64.ofNat k).toBitVec % 64 = BitVec.ofNat 64 k := by
      apply BitVec.eq_of_toNat_eq
      simp
      omega
    rw [e2]
    show x.toBitVec >>> (BitVec.ofNat 64 k) = _
    rw [BitVec.ushiftRight_eq']
    congr 1
    simp
    omega
  rw [e]
  constructor
  · intro h
    have h1 := congrArg (fun z => z.getLsbD 0) h
    simp at h1
    exact h1
  · intro h
    apply BitVec.eq_of_getLsbD_eq
    intro i hi
    rw [BitVec.getLsbD_and, BitVec.getLsbD_ushiftRight]
    by_cases e0 : i = 0
    · subst e0; simp [h]
    · have e1 : (Int64.toBitVec 1).getLsbD i = false := by
        have : Int64.toBitVec 1 = BitVec.twoPow 64 0 := by decide
        rw [this, BitVec.getLsbD_twoPow]
        simp
        omega
      rw [e1]
      simp
