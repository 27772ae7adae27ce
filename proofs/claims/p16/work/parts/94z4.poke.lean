/-! whether a place is there, exactly -/
/-- place i of a thing of c cells, thing t of n -/
def HSq (n c t i : Int32) : Prop := 0 ≤ t.toInt ∧ t.toInt < n.toInt ∧ 0 ≤ i.toInt ∧ ((c = 0 ∧ i = 0) ∨ (¬ c = 0 ∧ i.toInt < c.toInt))
/-- the reference's things, and cells of a thing -/
def thM (B : Nat) (σ : mv_H) : Int32 := if mv_i σ 70 11 = 0 then mv_i σ B 17 else 3
def thN (B : Nat) (σ : mv_H) (t : Int32) : Int32 := if mv_i σ 70 11 = 0 then (if mv_a σ (B + 6) t.toNatClampNeg = 0 then 0 else mv_a σ (B + 4) t.toNatClampNeg) else if t = 0 then 0 else if t = 1 then 32 else 32768
def THq (B : Nat) (σ : mv_H) (t i : Int32) : Prop := HSq (thM B σ) (thN B σ t) t i

set_option maxHeartbeats 4000000 in
set_option maxRecDepth 100000 in
theorem c_kh_Program_has_a (l : Launch) {dA : FieldType → ClassId} {D : va_G} {al : Nat → Nat} {ext : mv_Sh} {sk sv : Nat → Nat} (hi : mv_inj (mg dA D al ext)) (σ : mv_H) (t9 i9 : Int32) (hq : Ph 32 (mv_r σ)) (g1 : (mv_i σ 32 1).toInt ≤ 64) : mv_C l y_Program_has (Cond.code y_Program_has b_Program_has 3 (Option.some Jvm.ClassFile.FieldType.boolean) :: ma) ({ frames := 0, cells := 0, slots := 0, locals := 0 }) (mg dA D al ext) (mK sk sv) [.ref (al 32), .int t9, .int i9] σ (mv_Ri (fun v σ1 => σ1 = σ ∧ ((v = 0 ∧ ¬ HSq (mv_i σ 32 1) (mv_a σ 34 t9.toNatClampNeg) t9 i9) ∨ (v = 1 ∧ HSq (mv_i σ 32 1) (mv_a σ 34 t9.toNatClampNeg) t9 i9)))) := by
  refine mv_C.ofV (cc := b_Program_has) (nL := 3) (ret := (Option.some Jvm.ClassFile.FieldType.boolean)) (by decide +kernel) rfl hi (Nat.le_of_ble_eq_true rfl) ?_
  intro p e s m below meth c B hNs hr hnm hno
  refine mv_iload_n (pc := 0) B d_Program_has_0 rfl 1 rfl ?_
  refine mv_if_lt (pc := 1) (tgt := 16) B d_Program_has_1 rfl (fun h1 => ?_) (fun h1 => ?_)
  · skip
    rw [Int32.lt_iff_toInt_lt] at h1
    simp only [Int32.reduceToInt] at h1
    refine mv_iconst (pc := 16) (v := 0) B d_Program_has_16 (by decide) ?_
    exact mv_iret (pc := 17) B hr rfl d_Program_has_17 (Nat.le_refl _) (Nat.le_refl _) ⟨_, rfl, rfl, Or.inl ⟨rfl, fun q => by first | exact absurd q.1 (by omega) | exact absurd q.2.1 (by omega) | exact absurd q.2.2.1 (by omega)⟩⟩
  · skip
    rw [Int32.lt_iff_toInt_lt] at h1
    simp only [Int32.reduceToInt] at h1
    refine mv_iload_n (pc := 4) B d_Program_has_4 rfl 1 rfl ?_
    refine mv_aload_n (pc := 5) B d_Program_has_5 rfl 0 rfl ?_
    refine mv_getI (pc := 6) (ci := 7) (C := R_Program) (T := F_Program) (N := 19) B 1 rfl rfl (by decide) i_Program (B.2.2.2.1 _ k_315) rfl d_Program_has_6 ?_
    refine mv_icmp_ge (pc := 9) (tgt := 16) B d_Program_has_9 rfl (fun h9 => ?_) (fun h9 => ?_)
    · skip
      rw [Int32.le_iff_toInt_le] at h9
      try simp only [Int32.reduceToInt] at h9
      refine mv_iconst (pc := 16) (v := 0) B d_Program_has_16 (by decide) ?_
      exact mv_iret (pc := 17) B hr rfl d_Program_has_17 (Nat.le_refl _) (Nat.le_refl _) ⟨_, rfl, rfl, Or.inl ⟨rfl, fun q => by first | exact absurd q.1 (by omega) | exact absurd q.2.1 (by omega) | exact absurd q.2.2.1 (by omega)⟩⟩
    · skip
      rw [Int32.le_iff_toInt_le] at h9
      try simp only [Int32.reduceToInt] at h9
      refine mv_iload_n (pc := 12) B d_Program_has_12 rfl 2 rfl ?_
      refine mv_if_ge (pc := 13) (tgt := 18) B d_Program_has_13 rfl (fun h13 => ?_) (fun h13 => ?_)
      · skip
        rw [Int32.le_iff_toInt_le] at h13
        try simp only [Int32.reduceToInt] at h13
        refine mv_aload_n (pc := 18) B d_Program_has_18 rfl 0 rfl ?_
        refine mv_getR (pc := 19) (ci := 7) (C := R_Program) (T := F_Program) (N := 19) B 3 rfl rfl (by decide) i_Program (B.2.2.2.1 _ k_323) rfl (hq _ 3 34 rfl) d_Program_has_19 ?_
        refine mv_iload_n (pc := 22) B d_Program_has_22 rfl 1 rfl ?_
        refine mv_iald (pc := 23) B rfl (i32_in (by omega) (by omega)) d_Program_has_23 ?_
        refine mv_if_ne (pc := 24) (tgt := 39) B d_Program_has_24 rfl (fun h24 => ?_) (fun h24 => ?_)
        · skip
          refine mv_iload_n (pc := 39) B d_Program_has_39 rfl 2 rfl ?_
          refine mv_aload_n (pc := 40) B d_Program_has_40 rfl 0 rfl ?_
          refine mv_getR (pc := 41) (ci := 7) (C := R_Program) (T := F_Program) (N := 19) B 3 rfl rfl (by decide) i_Program (B.2.2.2.1 _ k_323) rfl (hq _ 3 34 rfl) d_Program_has_41 ?_
          refine mv_iload_n (pc := 44) B d_Program_has_44 rfl 1 rfl ?_
          refine mv_iald (pc := 45) B rfl (i32_in (by omega) (by omega)) d_Program_has_45 ?_
          refine mv_icmp_ge (pc := 46) (tgt := 53) B d_Program_has_46 rfl (fun h46 => ?_) (fun h46 => ?_)
          · skip
            rw [Int32.le_iff_toInt_le] at h46
            try simp only [Int32.reduceToInt] at h46
            refine mv_iconst (pc := 53) (v := 0) B d_Program_has_53 (by decide) ?_
            exact mv_iret (pc := 54) B hr rfl d_Program_has_54 (Nat.le_refl _) (Nat.le_refl _) ⟨_, rfl, rfl, by first | exact Or.inr ⟨rfl, by omega, by omega, h13, Or.inl ⟨h24, h28⟩⟩ | exact Or.inr ⟨rfl, by omega, by omega, h13, Or.inr ⟨h24, by omega⟩⟩ | exact Or.inl ⟨rfl, fun q => q.2.2.2.elim (fun z => h28 z.2) (fun z => z.1 h24)⟩ | exact Or.inl ⟨rfl, fun q => q.2.2.2.elim (fun z => h24 z.1) (fun z => absurd z.2 (by omega))⟩⟩
          · skip
            rw [Int32.le_iff_toInt_le] at h46
            try simp only [Int32.reduceToInt] at h46
            refine mv_iconst (pc := 49) (v := 1) B d_Program_has_49 (by decide) ?_
            refine mv_goto (pc := 50) (tgt := 54) B d_Program_has_50 rfl ?_
            exact mv_iret (pc := 54) B hr rfl d_Program_has_54 (Nat.le_refl _) (Nat.le_refl _) ⟨_, rfl, rfl, by first | exact Or.inr ⟨rfl, by omega, by omega, h13, Or.inl ⟨h24, h28⟩⟩ | exact Or.inr ⟨rfl, by omega, by omega, h13, Or.inr ⟨h24, by omega⟩⟩ | exact Or.inl ⟨rfl, fun q => q.2.2.2.elim (fun z => h28 z.2) (fun z => z.1 h24)⟩ | exact Or.inl ⟨rfl, fun q => q.2.2.2.elim (fun z => h24 z.1) (fun z => absurd z.2 (by omega))⟩⟩
        · skip
          refine mv_iload_n (pc := 27) B d_Program_has_27 rfl 2 rfl ?_
          refine mv_if_ne (pc := 28) (tgt := 35) B d_Program_has_28 rfl (fun h28 => ?_) (fun h28 => ?_)
          · skip
            refine mv_iconst (pc := 35) (v := 0) B d_Program_has_35 (by decide) ?_
            refine mv_goto (pc := 36) (tgt := 54) B d_Program_has_36 rfl ?_
            exact mv_iret (pc := 54) B hr rfl d_Program_has_54 (Nat.le_refl _) (Nat.le_refl _) ⟨_, rfl, rfl, by first | exact Or.inr ⟨rfl, by omega, by omega, h13, Or.inl ⟨h24, h28⟩⟩ | exact Or.inr ⟨rfl, by omega, by omega, h13, Or.inr ⟨h24, by omega⟩⟩ | exact Or.inl ⟨rfl, fun q => q.2.2.2.elim (fun z => h28 z.2) (fun z => z.1 h24)⟩ | exact Or.inl ⟨rfl, fun q => q.2.2.2.elim (fun z => h24 z.1) (fun z => absurd z.2 (by omega))⟩⟩
          · skip
            refine mv_iconst (pc := 31) (v := 1) B d_Program_has_31 (by decide) ?_
            refine mv_goto (pc := 32) (tgt := 54) B d_Program_has_32 rfl ?_
            exact mv_iret (pc := 54) B hr rfl d_Program_has_54 (Nat.le_refl _) (Nat.le_refl _) ⟨_, rfl, rfl, by first | exact Or.inr ⟨rfl, by omega, by omega, h13, Or.inl ⟨h24, h28⟩⟩ | exact Or.inr ⟨rfl, by omega, by omega, h13, Or.inr ⟨h24, by omega⟩⟩ | exact Or.inl ⟨rfl, fun q => q.2.2.2.elim (fun z => h28 z.2) (fun z => z.1 h24)⟩ | exact Or.inl ⟨rfl, fun q => q.2.2.2.elim (fun z => h24 z.1) (fun z => absurd z.2 (by omega))⟩⟩
      · skip
        rw [Int32.le_iff_toInt_le] at h13
        try simp only [Int32.reduceToInt] at h13
        refine mv_iconst (pc := 16) (v := 0) B d_Program_has_16 (by decide) ?_
        exact mv_iret (pc := 17) B hr rfl d_Program_has_17 (Nat.le_refl _) (Nat.le_refl _) ⟨_, rfl, rfl, Or.inl ⟨rfl, fun q => by first | exact absurd q.1 (by omega) | exact absurd q.2.1 (by omega) | exact absurd q.2.2.1 (by omega)⟩⟩
set_option maxHeartbeats 4000000 in
set_option maxRecDepth 100000 in
theorem c_kh_Program_has_b (l : Launch) {dA : FieldType → ClassId} {D : va_G} {al : Nat → Nat} {ext : mv_Sh} {sk sv : Nat → Nat} (hi : mv_inj (mg dA D al ext)) (σ : mv_H) (t9 i9 : Int32) (hq : Ph 48 (mv_r σ)) (g1 : (mv_i σ 48 1).toInt ≤ 64) : mv_C l y_Program_has (Cond.code y_Program_has b_Program_has 3 (Option.some Jvm.ClassFile.FieldType.boolean) :: ma) ({ frames := 0, cells := 0, slots := 0, locals := 0 }) (mg dA D al ext) (mK sk sv) [.ref (al 48), .int t9, .int i9] σ (mv_Ri (fun v σ1 => σ1 = σ ∧ ((v = 0 ∧ ¬ HSq (mv_i σ 48 1) (mv_a σ 50 t9.toNatClampNeg) t9 i9) ∨ (v = 1 ∧ HSq (mv_i σ 48 1) (mv_a σ 50 t9.toNatClampNeg) t9 i9)))) := by
  refine mv_C.ofV (cc := b_Program_has) (nL := 3) (ret := (Option.some Jvm.ClassFile.FieldType.boolean)) (by decide +kernel) rfl hi (Nat.le_of_ble_eq_true rfl) ?_
  intro p e s m below meth c B hNs hr hnm hno
  refine mv_iload_n (pc := 0) B d_Program_has_0 rfl 1 rfl ?_
  refine mv_if_lt (pc := 1) (tgt := 16) B d_Program_has_1 rfl (fun h1 => ?_) (fun h1 => ?_)
  · skip
    rw [Int32.lt_iff_toInt_lt] at h1
    simp only [Int32.reduceToInt] at h1
    refine mv_iconst (pc := 16) (v := 0) B d_Program_has_16 (by decide) ?_
    exact mv_iret (pc := 17) B hr rfl d_Program_has_17 (Nat.le_refl _) (Nat.le_refl _) ⟨_, rfl, rfl, Or.inl ⟨rfl, fun q => by first | exact absurd q.1 (by omega) | exact absurd q.2.1 (by omega) | exact absurd q.2.2.1 (by omega)⟩⟩
  · skip
    rw [Int32.lt_iff_toInt_lt] at h1
    simp only [Int32.reduceToInt] at h1
    refine mv_iload_n (pc := 4) B d_Program_has_4 rfl 1 rfl ?_
    refine mv_aload_n (pc := 5) B d_Program_has_5 rfl 0 rfl ?_
    refine mv_getI (pc := 6) (ci := 7) (C := R_Program) (T := F_Program) (N := 19) B 1 rfl rfl (by decide) i_Program (B.2.2.2.1 _ k_315) rfl d_Program_has_6 ?_
    refine mv_icmp_ge (pc := 9) (tgt := 16) B d_Program_has_9 rfl (fun h9 => ?_) (fun h9 => ?_)
    · skip
      rw [Int32.le_iff_toInt_le] at h9
      try simp only [Int32.reduceToInt] at h9
      refine mv_iconst (pc := 16) (v := 0) B d_Program_has_16 (by decide) ?_
      exact mv_iret (pc := 17) B hr rfl d_Program_has_17 (Nat.le_refl _) (Nat.le_refl _) ⟨_, rfl, rfl, Or.inl ⟨rfl, fun q => by first | exact absurd q.1 (by omega) | exact absurd q.2.1 (by omega) | exact absurd q.2.2.1 (by omega)⟩⟩
    · skip
      rw [Int32.le_iff_toInt_le] at h9
      try simp only [Int32.reduceToInt] at h9
      refine mv_iload_n (pc := 12) B d_Program_has_12 rfl 2 rfl ?_
      refine mv_if_ge (pc := 13) (tgt := 18) B d_Program_has_13 rfl (fun h13 => ?_) (fun h13 => ?_)
      · skip
        rw [Int32.le_iff_toInt_le] at h13
        try simp only [Int32.reduceToInt] at h13
        refine mv_aload_n (pc := 18) B d_Program_has_18 rfl 0 rfl ?_
        refine mv_getR (pc := 19) (ci := 7) (C := R_Program) (T := F_Program) (N := 19) B 3 rfl rfl (by decide) i_Program (B.2.2.2.1 _ k_323) rfl (hq _ 3 50 rfl) d_Program_has_19 ?_
        refine mv_iload_n (pc := 22) B d_Program_has_22 rfl 1 rfl ?_
        refine mv_iald (pc := 23) B rfl (i32_in (by omega) (by omega)) d_Program_has_23 ?_
        refine mv_if_ne (pc := 24) (tgt := 39) B d_Program_has_24 rfl (fun h24 => ?_) (fun h24 => ?_)
        · skip
          refine mv_iload_n (pc := 39) B d_Program_has_39 rfl 2 rfl ?_
          refine mv_aload_n (pc := 40) B d_Program_has_40 rfl 0 rfl ?_
          refine mv_getR (pc := 41) (ci := 7) (C := R_Program) (T := F_Program) (N := 19) B 3 rfl rfl (by decide) i_Program (B.2.2.2.1 _ k_323) rfl (hq _ 3 50 rfl) d_Program_has_41 ?_
          refine mv_iload_n (pc := 44) B d_Program_has_44 rfl 1 rfl ?_
          refine mv_iald (pc := 45) B rfl (i32_in (by omega) (by omega)) d_Program_has_45 ?_
          refine mv_icmp_ge (pc := 46) (tgt := 53) B d_Program_has_46 rfl (fun h46 => ?_) (fun h46 => ?_)
          · skip
            rw [Int32.le_iff_toInt_le] at h46
            try simp only [Int32.reduceToInt] at h46
            refine mv_iconst (pc := 53) (v := 0) B d_Program_has_53 (by decide) ?_
            exact mv_iret (pc := 54) B hr rfl d_Program_has_54 (Nat.le_refl _) (Nat.le_refl _) ⟨_, rfl, rfl, by first | exact Or.inr ⟨rfl, by omega, by omega, h13, Or.inl ⟨h24, h28⟩⟩ | exact Or.inr ⟨rfl, by omega, by omega, h13, Or.inr ⟨h24, by omega⟩⟩ | exact Or.inl ⟨rfl, fun q => q.2.2.2.elim (fun z => h28 z.2) (fun z => z.1 h24)⟩ | exact Or.inl ⟨rfl, fun q => q.2.2.2.elim (fun z => h24 z.1) (fun z => absurd z.2 (by omega))⟩⟩
          · skip
            rw [Int32.le_iff_toInt_le] at h46
            try simp only [Int32.reduceToInt] at h46
            refine mv_iconst (pc := 49) (v := 1) B d_Program_has_49 (by decide) ?_
            refine mv_goto (pc := 50) (tgt := 54) B d_Program_has_50 rfl ?_
            exact mv_iret (pc := 54) B hr rfl d_Program_has_54 (Nat.le_refl _) (Nat.le_refl _) ⟨_, rfl, rfl, by first | exact Or.inr ⟨rfl, by omega, by omega, h13, Or.inl ⟨h24, h28⟩⟩ | exact Or.inr ⟨rfl, by omega, by omega, h13, Or.inr ⟨h24, by omega⟩⟩ | exact Or.inl ⟨rfl, fun q => q.2.2.2.elim (fun z => h28 z.2) (fun z => z.1 h24)⟩ | exact Or.inl ⟨rfl, fun q => q.2.2.2.elim (fun z => h24 z.1) (fun z => absurd z.2 (by omega))⟩⟩
        · skip
          refine mv_iload_n (pc := 27) B d_Program_has_27 rfl 2 rfl ?_
          refine mv_if_ne (pc := 28) (tgt := 35) B d_Program_has_28 rfl (fun h28 => ?_) (fun h28 => ?_)
          · skip
            refine mv_iconst (pc := 35) (v := 0) B d_Program_has_35 (by decide) ?_
            refine mv_goto (pc := 36) (tgt := 54) B d_Program_has_36 rfl ?_
            exact mv_iret (pc := 54) B hr rfl d_Program_has_54 (Nat.le_refl _) (Nat.le_refl _) ⟨_, rfl, rfl, by first | exact Or.inr ⟨rfl, by omega, by omega, h13, Or.inl ⟨h24, h28⟩⟩ | exact Or.inr ⟨rfl, by omega, by omega, h13, Or.inr ⟨h24, by omega⟩⟩ | exact Or.inl ⟨rfl, fun q => q.2.2.2.elim (fun z => h28 z.2) (fun z => z.1 h24)⟩ | exact Or.inl ⟨rfl, fun q => q.2.2.2.elim (fun z => h24 z.1) (fun z => absurd z.2 (by omega))⟩⟩
          · skip
            refine mv_iconst (pc := 31) (v := 1) B d_Program_has_31 (by decide) ?_
            refine mv_goto (pc := 32) (tgt := 54) B d_Program_has_32 rfl ?_
            exact mv_iret (pc := 54) B hr rfl d_Program_has_54 (Nat.le_refl _) (Nat.le_refl _) ⟨_, rfl, rfl, by first | exact Or.inr ⟨rfl, by omega, by omega, h13, Or.inl ⟨h24, h28⟩⟩ | exact Or.inr ⟨rfl, by omega, by omega, h13, Or.inr ⟨h24, by omega⟩⟩ | exact Or.inl ⟨rfl, fun q => q.2.2.2.elim (fun z => h28 z.2) (fun z => z.1 h24)⟩ | exact Or.inl ⟨rfl, fun q => q.2.2.2.elim (fun z => h24 z.1) (fun z => absurd z.2 (by omega))⟩⟩
      · skip
        rw [Int32.le_iff_toInt_le] at h13
        try simp only [Int32.reduceToInt] at h13
        refine mv_iconst (pc := 16) (v := 0) B d_Program_has_16 (by decide) ?_
        exact mv_iret (pc := 17) B hr rfl d_Program_has_17 (Nat.le_refl _) (Nat.le_refl _) ⟨_, rfl, rfl, Or.inl ⟨rfl, fun q => by first | exact absurd q.1 (by omega) | exact absurd q.2.1 (by omega) | exact absurd q.2.2.1 (by omega)⟩⟩
set_option maxHeartbeats 4000000 in
set_option maxRecDepth 100000 in
theorem c_kh_Program_has_c (l : Launch) {dA : FieldType → ClassId} {D : va_G} {al : Nat → Nat} {sk sv : Nat → Nat} (hi : mv_inj (mg dA D al me)) (σ : mv_H) (t9 i9 : Int32) (hq : Ph 145 (mv_r σ)) (g1 : (mv_i σ 145 1).toInt ≤ 64) : mv_C l y_Program_has (Cond.code y_Program_has b_Program_has 3 (Option.some Jvm.ClassFile.FieldType.boolean) :: ma) ({ frames := 0, cells := 0, slots := 0, locals := 0 }) (mg dA D al me) (mK sk sv) [.ref (al 145), .int t9, .int i9] σ (mv_Ri (fun v σ1 => σ1 = σ ∧ ((v = 0 ∧ ¬ HSq (mv_i σ 145 1) (mv_a σ 147 t9.toNatClampNeg) t9 i9) ∨ (v = 1 ∧ HSq (mv_i σ 145 1) (mv_a σ 147 t9.toNatClampNeg) t9 i9)))) := by
  refine mv_C.ofV (cc := b_Program_has) (nL := 3) (ret := (Option.some Jvm.ClassFile.FieldType.boolean)) (by decide +kernel) rfl hi (Nat.le_of_ble_eq_true rfl) ?_
  intro p e s m below meth c B hNs hr hnm hno
  refine mv_iload_n (pc := 0) B d_Program_has_0 rfl 1 rfl ?_
  refine mv_if_lt (pc := 1) (tgt := 16) B d_Program_has_1 rfl (fun h1 => ?_) (fun h1 => ?_)
  · skip
    rw [Int32.lt_iff_toInt_lt] at h1
    simp only [Int32.reduceToInt] at h1
    refine mv_iconst (pc := 16) (v := 0) B d_Program_has_16 (by decide) ?_
    exact mv_iret (pc := 17) B hr rfl d_Program_has_17 (Nat.le_refl _) (Nat.le_refl _) ⟨_, rfl, rfl, Or.inl ⟨rfl, fun q => by first | exact absurd q.1 (by omega) | exact absurd q.2.1 (by omega) | exact absurd q.2.2.1 (by omega)⟩⟩
  · skip
    rw [Int32.lt_iff_toInt_lt] at h1
    simp only [Int32.reduceToInt] at h1
    refine mv_iload_n (pc := 4) B d_Program_has_4 rfl 1 rfl ?_
    refine mv_aload_n (pc := 5) B d_Program_has_5 rfl 0 rfl ?_
    refine mv_getI (pc := 6) (ci := 7) (C := R_Program) (T := F_Program) (N := 19) B 1 rfl rfl (by decide) i_Program (B.2.2.2.1 _ k_315) rfl d_Program_has_6 ?_
    refine mv_icmp_ge (pc := 9) (tgt := 16) B d_Program_has_9 rfl (fun h9 => ?_) (fun h9 => ?_)
    · skip
      rw [Int32.le_iff_toInt_le] at h9
      try simp only [Int32.reduceToInt] at h9
      refine mv_iconst (pc := 16) (v := 0) B d_Program_has_16 (by decide) ?_
      exact mv_iret (pc := 17) B hr rfl d_Program_has_17 (Nat.le_refl _) (Nat.le_refl _) ⟨_, rfl, rfl, Or.inl ⟨rfl, fun q => by first | exact absurd q.1 (by omega) | exact absurd q.2.1 (by omega) | exact absurd q.2.2.1 (by omega)⟩⟩
    · skip
      rw [Int32.le_iff_toInt_le] at h9
      try simp only [Int32.reduceToInt] at h9
      refine mv_iload_n (pc := 12) B d_Program_has_12 rfl 2 rfl ?_
      refine mv_if_ge (pc := 13) (tgt := 18) B d_Program_has_13 rfl (fun h13 => ?_) (fun h13 => ?_)
      · skip
        rw [Int32.le_iff_toInt_le] at h13
        try simp only [Int32.reduceToInt] at h13
        refine mv_aload_n (pc := 18) B d_Program_has_18 rfl 0 rfl ?_
        refine mv_getR (pc := 19) (ci := 7) (C := R_Program) (T := F_Program) (N := 19) B 3 rfl rfl (by decide) i_Program (B.2.2.2.1 _ k_323) rfl (hq _ 3 147 rfl) d_Program_has_19 ?_
        refine mv_iload_n (pc := 22) B d_Program_has_22 rfl 1 rfl ?_
        refine mv_iald (pc := 23) B rfl (i32_in (by omega) (by omega)) d_Program_has_23 ?_
        refine mv_if_ne (pc := 24) (tgt := 39) B d_Program_has_24 rfl (fun h24 => ?_) (fun h24 => ?_)
        · skip
          refine mv_iload_n (pc := 39) B d_Program_has_39 rfl 2 rfl ?_
          refine mv_aload_n (pc := 40) B d_Program_has_40 rfl 0 rfl ?_
          refine mv_getR (pc := 41) (ci := 7) (C := R_Program) (T := F_Program) (N := 19) B 3 rfl rfl (by decide) i_Program (B.2.2.2.1 _ k_323) rfl (hq _ 3 147 rfl) d_Program_has_41 ?_
          refine mv_iload_n (pc := 44) B d_Program_has_44 rfl 1 rfl ?_
          refine mv_iald (pc := 45) B rfl (i32_in (by omega) (by omega)) d_Program_has_45 ?_
          refine mv_icmp_ge (pc := 46) (tgt := 53) B d_Program_has_46 rfl (fun h46 => ?_) (fun h46 => ?_)
          · skip
            rw [Int32.le_iff_toInt_le] at h46
            try simp only [Int32.reduceToInt] at h46
            refine mv_iconst (pc := 53) (v := 0) B d_Program_has_53 (by decide) ?_
            exact mv_iret (pc := 54) B hr rfl d_Program_has_54 (Nat.le_refl _) (Nat.le_refl _) ⟨_, rfl, rfl, by first | exact Or.inr ⟨rfl, by omega, by omega, h13, Or.inl ⟨h24, h28⟩⟩ | exact Or.inr ⟨rfl, by omega, by omega, h13, Or.inr ⟨h24, by omega⟩⟩ | exact Or.inl ⟨rfl, fun q => q.2.2.2.elim (fun z => h28 z.2) (fun z => z.1 h24)⟩ | exact Or.inl ⟨rfl, fun q => q.2.2.2.elim (fun z => h24 z.1) (fun z => absurd z.2 (by omega))⟩⟩
          · skip
            rw [Int32.le_iff_toInt_le] at h46
            try simp only [Int32.reduceToInt] at h46
            refine mv_iconst (pc := 49) (v := 1) B d_Program_has_49 (by decide) ?_
            refine mv_goto (pc := 50) (tgt := 54) B d_Program_has_50 rfl ?_
            exact mv_iret (pc := 54) B hr rfl d_Program_has_54 (Nat.le_refl _) (Nat.le_refl _) ⟨_, rfl, rfl, by first | exact Or.inr ⟨rfl, by omega, by omega, h13, Or.inl ⟨h24, h28⟩⟩ | exact Or.inr ⟨rfl, by omega, by omega, h13, Or.inr ⟨h24, by omega⟩⟩ | exact Or.inl ⟨rfl, fun q => q.2.2.2.elim (fun z => h28 z.2) (fun z => z.1 h24)⟩ | exact Or.inl ⟨rfl, fun q => q.2.2.2.elim (fun z => h24 z.1) (fun z => absurd z.2 (by omega))⟩⟩
        · skip
          refine mv_iload_n (pc := 27) B d_Program_has_27 rfl 2 rfl ?_
          refine mv_if_ne (pc := 28) (tgt := 35) B d_Program_has_28 rfl (fun h28 => ?_) (fun h28 => ?_)
          · skip
            refine mv_iconst (pc := 35) (v := 0) B d_Program_has_35 (by decide) ?_
            refine mv_goto (pc := 36) (tgt := 54) B d_Program_has_36 rfl ?_
            exact mv_iret (pc := 54) B hr rfl d_Program_has_54 (Nat.le_refl _) (Nat.le_refl _) ⟨_, rfl, rfl, by first | exact Or.inr ⟨rfl, by omega, by omega, h13, Or.inl ⟨h24, h28⟩⟩ | exact Or.inr ⟨rfl, by omega, by omega, h13, Or.inr ⟨h24, by omega⟩⟩ | exact Or.inl ⟨rfl, fun q => q.2.2.2.elim (fun z => h28 z.2) (fun z => z.1 h24)⟩ | exact Or.inl ⟨rfl, fun q => q.2.2.2.elim (fun z => h24 z.1) (fun z => absurd z.2 (by omega))⟩⟩
          · skip
            refine mv_iconst (pc := 31) (v := 1) B d_Program_has_31 (by decide) ?_
            refine mv_goto (pc := 32) (tgt := 54) B d_Program_has_32 rfl ?_
            exact mv_iret (pc := 54) B hr rfl d_Program_has_54 (Nat.le_refl _) (Nat.le_refl _) ⟨_, rfl, rfl, by first | exact Or.inr ⟨rfl, by omega, by omega, h13, Or.inl ⟨h24, h28⟩⟩ | exact Or.inr ⟨rfl, by omega, by omega, h13, Or.inr ⟨h24, by omega⟩⟩ | exact Or.inl ⟨rfl, fun q => q.2.2.2.elim (fun z => h28 z.2) (fun z => z.1 h24)⟩ | exact Or.inl ⟨rfl, fun q => q.2.2.2.elim (fun z => h24 z.1) (fun z => absurd z.2 (by omega))⟩⟩
      · skip
        rw [Int32.le_iff_toInt_le] at h13
        try simp only [Int32.reduceToInt] at h13
        refine mv_iconst (pc := 16) (v := 0) B d_Program_has_16 (by decide) ?_
        exact mv_iret (pc := 17) B hr rfl d_Program_has_17 (Nat.le_refl _) (Nat.le_refl _) ⟨_, rfl, rfl, Or.inl ⟨rfl, fun q => by first | exact absurd q.1 (by omega) | exact absurd q.2.1 (by omega) | exact absurd q.2.2.1 (by omega)⟩⟩
set_option maxHeartbeats 4000000 in
set_option maxRecDepth 100000 in
theorem c_kh_Loom_poke_a (l : Launch) {dA : FieldType → ClassId} {D : va_G} {al : Nat → Nat} {ext : mv_Sh} {sk sv : Nat → Nat} (hi : mv_inj (mg dA D al ext)) (σ : mv_H) (hlt : l.stackTraces = false) (t9 i9 : Int32) (w9 : Int64) (k9 : Nat) (hC : LC ext σ 32 32768 512 k9) : mv_C l y_Loom_poke (Cond.code y_Loom_poke b_Loom_poke 5 (Option.none : Option Jvm.ClassFile.FieldType) :: ma) ({ frames := 6, cells := 1, slots := 6, locals := 81 }) (mg dA D al ext) (mKt sk sv) [.ref (al 0), .int t9, .int i9, .long w9] σ (mv_Tv (fun σ1 => LC ext σ1 32 32768 512 k9 ∧ GF σ σ1 ∧ GPr σ σ1 ∧ HSq (mv_i σ 32 1) (mv_a σ 34 t9.toNatClampNeg) t9 i9) (fun X σ1 => X = "java/util/NoSuchElementException" ∧ σ1 = σ ∧ ¬ HSq (mv_i σ 32 1) (mv_a σ 34 t9.toNatClampNeg) t9 i9)) := by
  refine mv_C.ofV (cc := b_Loom_poke) (nL := 5) (ret := (Option.none : Option Jvm.ClassFile.FieldType)) (by decide +kernel) rfl hi (Nat.le_of_ble_eq_true rfl) ?_
  intro p e s m below meth c B hNs hr hnm hno
  have hC9 := hC
  obtain ⟨hPP, hI, hR, hW, ⟨th, sl, hO, ho0, ho1, ho2⟩, hLS⟩ := hC
  have hT9 := hO.1
  obtain ⟨hT1, hT2, hT3, hT4, hT5, hT6, hT7, hT8⟩ := hO.1
  refine mv_aload_n (pc := 0) B d_Loom_poke_0 rfl 0 rfl ?_
  refine mv_getR (pc := 1) (ci := 0) (C := R_Loom) (T := F_Loom) (N := 10) B 9 rfl rfl (by decide) i_Loom (B.2.2.2.1 _ k_495) rfl (hR.1 _ 9 _ rfl) d_Loom_poke_1 ?_
  refine mv_getR (pc := 4) (ci := 9) (C := R_Machine) (T := F_Machine) (N := 13) B 0 rfl rfl (by decide) i_Machine (B.2.2.2.1 _ k_441) rfl hR.2.2 d_Loom_poke_4 ?_
  refine mv_iload_n (pc := 7) B d_Loom_poke_7 rfl 1 rfl ?_
  refine mv_iload_n (pc := 8) B d_Loom_poke_8 rfl 2 rfl ?_
  refine mv_callVi (pc := 9) (n := 2) (ci := 7) (C := R_Program) B (mK_ok sk sv) hNs.1 rfl rfl (mv_C.twoi (c_Program_has_a l hi _ _ _ hR.2.1 (by omega)) (c_kh_Program_has_a l hi _ _ _ hR.2.1 (by omega))) rfl (ma_goodc kc_Program_has) (B.2.2.2.1 _ k_1774) (B.2.2.2.1 _ k_1775) (B.2.2.2.1 _ k_1776) (B.2.2.2.1 _ k_8) ⟨by decide +kernel, by decide +kernel, by decide +kernel⟩ rfl d_Loom_poke_9 rfl (Nat.le_of_ble_eq_true rfl) ⟨by decide, by decide⟩ ⟨by decide, by decide⟩ ⟨by decide, by decide⟩ (mv_noH hno _) (fun v9 σ9 h9 => ?_)
  obtain ⟨⟨e9, z9⟩, υ9, ⟨-, y9⟩, -⟩ := h9
  have e9 := e9.symm
  subst e9
  refine mv_if_ne (pc := 12) (tgt := 23) B d_Loom_poke_12 rfl (fun h12 => ?_) (fun h12 => ?_)
  · skip
    have hye := (y9.resolve_left (fun z => h12 z.1)).2
    have z8 := z9.resolve_left h12
    obtain ⟨-, z1, z2, z3, z4⟩ := z8
    obtain ⟨tn, etn⟩ : ∃ tn : Nat, t9.toInt = tn := ⟨t9.toInt.toNat, by omega⟩
    have hcl : t9.toNatClampNeg = tn := by rw [Int32.toNatClampNeg, etn]; rfl
    obtain ⟨cw, fw, q1, q2, q3, q4⟩ := hT7 tn (by omega)
    rw [hcl] at z4
    have z5 : fw + i9.toInt < 65600 := by
      rcases z4 with ⟨-, z4⟩ | ⟨-, z4⟩
      · rw [z4]; show (fw : Int) + 0 < 65600; omega
      · rw [q1] at z4; omega
    refine mv_aload_n (pc := 23) B d_Loom_poke_23 rfl 0 rfl ?_
    refine mv_getR (pc := 24) (ci := 0) (C := R_Loom) (T := F_Loom) (N := 10) B 9 rfl rfl (by decide) i_Loom (B.2.2.2.1 _ k_495) rfl (hR.1 _ 9 _ rfl) d_Loom_poke_24 ?_
    refine mv_iload_n (pc := 27) B d_Loom_poke_27 rfl 1 rfl ?_
    refine mv_iload_n (pc := 28) B d_Loom_poke_28 rfl 2 rfl ?_
    refine mv_lload_n (pc := 29) B d_Loom_poke_29 rfl 3 rfl ?_
    refine mv_callVv (pc := 30) (n := 3) (ci := 9) (C := R_Machine) B (mK_ok sk sv) hNs.1 rfl rfl (c_Machine_put_a l hi _ _ _ _ hR th sl hT9 tn etn (by omega) z3 (by rw [q2]; omega) (by rw [q2]; omega)) rfl (ma_goodc kc_Machine_put) (B.2.2.2.1 _ k_1778) (B.2.2.2.1 _ k_1601) (B.2.2.2.1 _ k_1602) (B.2.2.2.1 _ k_11) ⟨by decide +kernel, by decide +kernel, by decide +kernel⟩ rfl d_Loom_poke_30 rfl (Nat.le_of_ble_eq_true rfl) ⟨by decide, by decide⟩ ⟨by decide, by decide⟩ ⟨by decide, by decide⟩ (mv_noH hno _) (fun σ30 h30 => ?_)
    exact mv_vret (pc := 33) B hr d_Loom_poke_33 (Nat.le_of_ble_eq_true rfl) (Nat.le_of_ble_eq_true rfl) (Or.inl ⟨rfl, hC9.fm (h30.up (fun _ _ z => absurd z id) (fun _ z => absurd z id) (fun o z => Or.inl z)), GF.fm (h30.up (fun _ _ z => absurd z id) (fun _ z => absurd z id) (fun o z => Or.inl z)), GPr.fm (h30.up (fun _ _ z => absurd z id) (fun _ z => absurd z id) (fun o z => Or.inl z)), hye⟩)
  · skip
    have hnp := (y9.resolve_right (fun z => by rw [h12] at z; exact absurd z.1 (by decide))).2
    exact mv_throw0 (pc := 15) (ik := 131) (ic := 133) B hlt hNs.2.1 (X := "java/util/NoSuchElementException") (by decide +kernel) (B.2.2.2.1 _ k_1751) (B.2.2.2.1 _ k_36) (B.2.2.2.1 _ k_1752) rfl (fun s9 hv9 a9 b9 c9 d9 => have hm9 := mt_ma B.2.2.2.1 hv9; mt_w_nse hm9 (hm9 _ k_1760) a9 b9 c9 d9) d_Loom_poke_15 d_Loom_poke_18 d_Loom_poke_19 d_Loom_poke_22 (mv_noH hno _) ⟨by decide, by decide⟩ ⟨by decide, by decide⟩ ⟨by decide, by decide⟩ (fun a9 => Or.inr ⟨_, a9, rfl, rfl, rfl, hnp⟩)
set_option maxHeartbeats 4000000 in
set_option maxRecDepth 100000 in
theorem c_kh_Loom_poke_b (l : Launch) {dA : FieldType → ClassId} {D : va_G} {al : Nat → Nat} {ext : mv_Sh} {sk sv : Nat → Nat} (hi : mv_inj (mg dA D al ext)) (σ : mv_H) (hlt : l.stackTraces = false) (t9 i9 : Int32) (w9 : Int64) (k9 : Nat) (hC : LC ext σ 48 32768 512 k9) : mv_C l y_Loom_poke (Cond.code y_Loom_poke b_Loom_poke 5 (Option.none : Option Jvm.ClassFile.FieldType) :: ma) ({ frames := 6, cells := 1, slots := 6, locals := 81 }) (mg dA D al ext) (mKt sk sv) [.ref (al 0), .int t9, .int i9, .long w9] σ (mv_Tv (fun σ1 => LC ext σ1 48 32768 512 k9 ∧ GF σ σ1 ∧ GPr σ σ1 ∧ HSq (mv_i σ 48 1) (mv_a σ 50 t9.toNatClampNeg) t9 i9) (fun X σ1 => X = "java/util/NoSuchElementException" ∧ σ1 = σ ∧ ¬ HSq (mv_i σ 48 1) (mv_a σ 50 t9.toNatClampNeg) t9 i9)) := by
  refine mv_C.ofV (cc := b_Loom_poke) (nL := 5) (ret := (Option.none : Option Jvm.ClassFile.FieldType)) (by decide +kernel) rfl hi (Nat.le_of_ble_eq_true rfl) ?_
  intro p e s m below meth c B hNs hr hnm hno
  have hC9 := hC
  obtain ⟨hPP, hI, hR, hW, ⟨th, sl, hO, ho0, ho1, ho2⟩, hLS⟩ := hC
  have hT9 := hO.1
  obtain ⟨hT1, hT2, hT3, hT4, hT5, hT6, hT7, hT8⟩ := hO.1
  refine mv_aload_n (pc := 0) B d_Loom_poke_0 rfl 0 rfl ?_
  refine mv_getR (pc := 1) (ci := 0) (C := R_Loom) (T := F_Loom) (N := 10) B 9 rfl rfl (by decide) i_Loom (B.2.2.2.1 _ k_495) rfl (hR.1 _ 9 _ rfl) d_Loom_poke_1 ?_
  refine mv_getR (pc := 4) (ci := 9) (C := R_Machine) (T := F_Machine) (N := 13) B 0 rfl rfl (by decide) i_Machine (B.2.2.2.1 _ k_441) rfl hR.2.2 d_Loom_poke_4 ?_
  refine mv_iload_n (pc := 7) B d_Loom_poke_7 rfl 1 rfl ?_
  refine mv_iload_n (pc := 8) B d_Loom_poke_8 rfl 2 rfl ?_
  refine mv_callVi (pc := 9) (n := 2) (ci := 7) (C := R_Program) B (mK_ok sk sv) hNs.1 rfl rfl (mv_C.twoi (c_Program_has_b l hi _ _ _ hR.2.1 (by omega)) (c_kh_Program_has_b l hi _ _ _ hR.2.1 (by omega))) rfl (ma_goodc kc_Program_has) (B.2.2.2.1 _ k_1774) (B.2.2.2.1 _ k_1775) (B.2.2.2.1 _ k_1776) (B.2.2.2.1 _ k_8) ⟨by decide +kernel, by decide +kernel, by decide +kernel⟩ rfl d_Loom_poke_9 rfl (Nat.le_of_ble_eq_true rfl) ⟨by decide, by decide⟩ ⟨by decide, by decide⟩ ⟨by decide, by decide⟩ (mv_noH hno _) (fun v9 σ9 h9 => ?_)
  obtain ⟨⟨e9, z9⟩, υ9, ⟨-, y9⟩, -⟩ := h9
  have e9 := e9.symm
  subst e9
  refine mv_if_ne (pc := 12) (tgt := 23) B d_Loom_poke_12 rfl (fun h12 => ?_) (fun h12 => ?_)
  · skip
    have hye := (y9.resolve_left (fun z => h12 z.1)).2
    have z8 := z9.resolve_left h12
    obtain ⟨-, z1, z2, z3, z4⟩ := z8
    obtain ⟨tn, etn⟩ : ∃ tn : Nat, t9.toInt = tn := ⟨t9.toInt.toNat, by omega⟩
    have hcl : t9.toNatClampNeg = tn := by rw [Int32.toNatClampNeg, etn]; rfl
    obtain ⟨cw, fw, q1, q2, q3, q4⟩ := hT7 tn (by omega)
    rw [hcl] at z4
    have z5 : fw + i9.toInt < 65600 := by
      rcases z4 with ⟨-, z4⟩ | ⟨-, z4⟩
      · rw [z4]; show (fw : Int) + 0 < 65600; omega
      · rw [q1] at z4; omega
    refine mv_aload_n (pc := 23) B d_Loom_poke_23 rfl 0 rfl ?_
    refine mv_getR (pc := 24) (ci := 0) (C := R_Loom) (T := F_Loom) (N := 10) B 9 rfl rfl (by decide) i_Loom (B.2.2.2.1 _ k_495) rfl (hR.1 _ 9 _ rfl) d_Loom_poke_24 ?_
    refine mv_iload_n (pc := 27) B d_Loom_poke_27 rfl 1 rfl ?_
    refine mv_iload_n (pc := 28) B d_Loom_poke_28 rfl 2 rfl ?_
    refine mv_lload_n (pc := 29) B d_Loom_poke_29 rfl 3 rfl ?_
    refine mv_callVv (pc := 30) (n := 3) (ci := 9) (C := R_Machine) B (mK_ok sk sv) hNs.1 rfl rfl (c_Machine_put_b l hi _ _ _ _ hR th sl hT9 tn etn (by omega) z3 (by rw [q2]; omega) (by rw [q2]; omega)) rfl (ma_goodc kc_Machine_put) (B.2.2.2.1 _ k_1778) (B.2.2.2.1 _ k_1601) (B.2.2.2.1 _ k_1602) (B.2.2.2.1 _ k_11) ⟨by decide +kernel, by decide +kernel, by decide +kernel⟩ rfl d_Loom_poke_30 rfl (Nat.le_of_ble_eq_true rfl) ⟨by decide, by decide⟩ ⟨by decide, by decide⟩ ⟨by decide, by decide⟩ (mv_noH hno _) (fun σ30 h30 => ?_)
    exact mv_vret (pc := 33) B hr d_Loom_poke_33 (Nat.le_of_ble_eq_true rfl) (Nat.le_of_ble_eq_true rfl) (Or.inl ⟨rfl, hC9.fm (h30.up (fun _ _ z => absurd z id) (fun _ z => absurd z id) (fun o z => Or.inl z)), GF.fm (h30.up (fun _ _ z => absurd z id) (fun _ z => absurd z id) (fun o z => Or.inl z)), GPr.fm (h30.up (fun _ _ z => absurd z id) (fun _ z => absurd z id) (fun o z => Or.inl z)), hye⟩)
  · skip
    have hnp := (y9.resolve_right (fun z => by rw [h12] at z; exact absurd z.1 (by decide))).2
    exact mv_throw0 (pc := 15) (ik := 131) (ic := 133) B hlt hNs.2.1 (X := "java/util/NoSuchElementException") (by decide +kernel) (B.2.2.2.1 _ k_1751) (B.2.2.2.1 _ k_36) (B.2.2.2.1 _ k_1752) rfl (fun s9 hv9 a9 b9 c9 d9 => have hm9 := mt_ma B.2.2.2.1 hv9; mt_w_nse hm9 (hm9 _ k_1760) a9 b9 c9 d9) d_Loom_poke_15 d_Loom_poke_18 d_Loom_poke_19 d_Loom_poke_22 (mv_noH hno _) ⟨by decide, by decide⟩ ⟨by decide, by decide⟩ ⟨by decide, by decide⟩ (fun a9 => Or.inr ⟨_, a9, rfl, rfl, rfl, hnp⟩)
set_option maxHeartbeats 4000000 in
set_option maxRecDepth 100000 in
theorem c_kh_Loom_poke_c (l : Launch) {dA : FieldType → ClassId} {D : va_G} {al : Nat → Nat} {sk sv : Nat → Nat} (hi : mv_inj (mg dA D al me)) (σ : mv_H) (hlt : l.stackTraces = false) (t9 i9 : Int32) (w9 : Int64) (k9 : Nat) (hC : LC me σ 145 8192 48 k9) : mv_C l y_Loom_poke (Cond.code y_Loom_poke b_Loom_poke 5 (Option.none : Option Jvm.ClassFile.FieldType) :: ma) ({ frames := 6, cells := 1, slots := 6, locals := 81 }) (mg dA D al me) (mKt sk sv) [.ref (al 0), .int t9, .int i9, .long w9] σ (mv_Tv (fun σ1 => LC me σ1 145 8192 48 k9 ∧ GF σ σ1 ∧ GPr σ σ1 ∧ HSq (mv_i σ 145 1) (mv_a σ 147 t9.toNatClampNeg) t9 i9) (fun X σ1 => X = "java/util/NoSuchElementException" ∧ σ1 = σ ∧ ¬ HSq (mv_i σ 145 1) (mv_a σ 147 t9.toNatClampNeg) t9 i9)) := by
  refine mv_C.ofV (cc := b_Loom_poke) (nL := 5) (ret := (Option.none : Option Jvm.ClassFile.FieldType)) (by decide +kernel) rfl hi (Nat.le_of_ble_eq_true rfl) ?_
  intro p e s m below meth c B hNs hr hnm hno
  have hC9 := hC
  obtain ⟨hPP, hI, hR, hW, ⟨th, sl, hO, ho0, ho1, ho2⟩, hLS⟩ := hC
  have hT9 := hO.1
  obtain ⟨hT1, hT2, hT3, hT4, hT5, hT6, hT7, hT8⟩ := hO.1
  refine mv_aload_n (pc := 0) B d_Loom_poke_0 rfl 0 rfl ?_
  refine mv_getR (pc := 1) (ci := 0) (C := R_Loom) (T := F_Loom) (N := 10) B 9 rfl rfl (by decide) i_Loom (B.2.2.2.1 _ k_495) rfl (hR.1 _ 9 _ rfl) d_Loom_poke_1 ?_
  refine mv_getR (pc := 4) (ci := 9) (C := R_Machine) (T := F_Machine) (N := 13) B 0 rfl rfl (by decide) i_Machine (B.2.2.2.1 _ k_441) rfl hR.2.2 d_Loom_poke_4 ?_
  refine mv_iload_n (pc := 7) B d_Loom_poke_7 rfl 1 rfl ?_
  refine mv_iload_n (pc := 8) B d_Loom_poke_8 rfl 2 rfl ?_
  refine mv_callVi (pc := 9) (n := 2) (ci := 7) (C := R_Program) B (mK_ok sk sv) hNs.1 rfl rfl (mv_C.twoi (c_Program_has_c l hi _ _ _ hR.2.1 (by omega)) (c_kh_Program_has_c l hi _ _ _ hR.2.1 (by omega))) rfl (ma_goodc kc_Program_has) (B.2.2.2.1 _ k_1774) (B.2.2.2.1 _ k_1775) (B.2.2.2.1 _ k_1776) (B.2.2.2.1 _ k_8) ⟨by decide +kernel, by decide +kernel, by decide +kernel⟩ rfl d_Loom_poke_9 rfl (Nat.le_of_ble_eq_true rfl) ⟨by decide, by decide⟩ ⟨by decide, by decide⟩ ⟨by decide, by decide⟩ (mv_noH hno _) (fun v9 σ9 h9 => ?_)
  obtain ⟨⟨e9, z9⟩, υ9, ⟨-, y9⟩, -⟩ := h9
  have e9 := e9.symm
  subst e9
  refine mv_if_ne (pc := 12) (tgt := 23) B d_Loom_poke_12 rfl (fun h12 => ?_) (fun h12 => ?_)
  · skip
    have hye := (y9.resolve_left (fun z => h12 z.1)).2
    have z8 := z9.resolve_left h12
    obtain ⟨-, z1, z2, z3, z4⟩ := z8
    obtain ⟨tn, etn⟩ : ∃ tn : Nat, t9.toInt = tn := ⟨t9.toInt.toNat, by omega⟩
    have hcl : t9.toNatClampNeg = tn := by rw [Int32.toNatClampNeg, etn]; rfl
    obtain ⟨cw, fw, q1, q2, q3, q4⟩ := hT7 tn (by omega)
    rw [hcl] at z4
    have z5 : fw + i9.toInt < 65600 := by
      rcases z4 with ⟨-, z4⟩ | ⟨-, z4⟩
      · rw [z4]; show (fw : Int) + 0 < 65600; omega
      · rw [q1] at z4; omega
    refine mv_aload_n (pc := 23) B d_Loom_poke_23 rfl 0 rfl ?_
    refine mv_getR (pc := 24) (ci := 0) (C := R_Loom) (T := F_Loom) (N := 10) B 9 rfl rfl (by decide) i_Loom (B.2.2.2.1 _ k_495) rfl (hR.1 _ 9 _ rfl) d_Loom_poke_24 ?_
    refine mv_iload_n (pc := 27) B d_Loom_poke_27 rfl 1 rfl ?_
    refine mv_iload_n (pc := 28) B d_Loom_poke_28 rfl 2 rfl ?_
    refine mv_lload_n (pc := 29) B d_Loom_poke_29 rfl 3 rfl ?_
    refine mv_callVv (pc := 30) (n := 3) (ci := 9) (C := R_Machine) B (mK_ok sk sv) hNs.1 rfl rfl (c_Machine_put_c l hi _ _ _ _ hR th sl hT9 tn etn (by omega) z3 (by rw [q2]; omega) (by rw [q2]; omega)) rfl (ma_goodc kc_Machine_put) (B.2.2.2.1 _ k_1778) (B.2.2.2.1 _ k_1601) (B.2.2.2.1 _ k_1602) (B.2.2.2.1 _ k_11) ⟨by decide +kernel, by decide +kernel, by decide +kernel⟩ rfl d_Loom_poke_30 rfl (Nat.le_of_ble_eq_true rfl) ⟨by decide, by decide⟩ ⟨by decide, by decide⟩ ⟨by decide, by decide⟩ (mv_noH hno _) (fun σ30 h30 => ?_)
    exact mv_vret (pc := 33) B hr d_Loom_poke_33 (Nat.le_of_ble_eq_true rfl) (Nat.le_of_ble_eq_true rfl) (Or.inl ⟨rfl, hC9.fm (h30.up (fun _ _ z => absurd z id) (fun _ z => absurd z id) (fun o z => Or.inl z)), GF.fm (h30.up (fun _ _ z => absurd z id) (fun _ z => absurd z id) (fun o z => Or.inl z)), GPr.fm (h30.up (fun _ _ z => absurd z id) (fun _ z => absurd z id) (fun o z => Or.inl z)), hye⟩)
  · skip
    have hnp := (y9.resolve_right (fun z => by rw [h12] at z; exact absurd z.1 (by decide))).2
    exact mv_throw0 (pc := 15) (ik := 131) (ic := 133) B hlt hNs.2.1 (X := "java/util/NoSuchElementException") (by decide +kernel) (B.2.2.2.1 _ k_1751) (B.2.2.2.1 _ k_36) (B.2.2.2.1 _ k_1752) rfl (fun s9 hv9 a9 b9 c9 d9 => have hm9 := mt_ma B.2.2.2.1 hv9; mt_w_nse hm9 (hm9 _ k_1760) a9 b9 c9 d9) d_Loom_poke_15 d_Loom_poke_18 d_Loom_poke_19 d_Loom_poke_22 (mv_noH hno _) ⟨by decide, by decide⟩ ⟨by decide, by decide⟩ ⟨by decide, by decide⟩ (fun a9 => Or.inr ⟨_, a9, rfl, rfl, rfl, hnp⟩)
set_option maxHeartbeats 4000000 in
set_option maxRecDepth 100000 in
theorem c_kh_Model_set (l : Launch) {dA : FieldType → ClassId} {D : va_G} {al : Nat → Nat} {ext : mv_Sh} {sk sv : Nat → Nat} (hi : mv_inj (mg dA D al ext)) (σ : mv_H) (hmr : mh (mv_r σ)) (r9 v9 : Int32) (hr0 : 0 ≤ r9.toInt ∧ r9.toInt < 32) : mv_C l y_Model_set (Cond.code y_Model_set b_Model_set 3 (Option.none : Option Jvm.ClassFile.FieldType) :: ma) ({ frames := 0, cells := 0, slots := 0, locals := 0 }) (mg dA D al ext) (mK sk sv) [.ref (al 70), .int r9, .int v9] σ (mv_Rv (fun σ1 => SM σ σ1 ∧ mv_i σ1 = mv_i σ)) := by
  refine mv_C.ofV (cc := b_Model_set) (nL := 3) (ret := (Option.none : Option Jvm.ClassFile.FieldType)) (by decide +kernel) rfl hi (Nat.le_of_ble_eq_true rfl) ?_
  intro p e s m below meth c B hNs hr hnm hno
  refine mv_iload_n (pc := 0) B d_Model_set_0 rfl 1 rfl ?_
  refine mv_if_eq (pc := 1) (tgt := 11) B d_Model_set_1 rfl (fun h1 => ?_) (fun h1 => ?_)
  · skip
    exact mv_vret (pc := 11) B hr d_Model_set_11 (Nat.le_refl _) (Nat.le_refl _) ⟨rfl, by first | exact Fx.rf | exact SM.x Fx.rf, rfl⟩
  · skip
    refine mv_aload_n (pc := 4) B d_Model_set_4 rfl 0 rfl ?_
    refine mv_getR (pc := 5) (ci := 11) (C := R_Model) (T := F_Model) (N := 16) B 7 rfl rfl (by decide) i_Model (B.2.2.2.1 _ k_2052) rfl (hmr _ 7 _ rfl) d_Model_set_5 ?_
    refine mv_iload_n (pc := 8) B d_Model_set_8 rfl 1 rfl ?_
    refine mv_iload_n (pc := 9) B d_Model_set_9 rfl 2 rfl ?_
    refine mv_iast (pc := 10) B rfl (i32_in hr0.1 hr0.2) d_Model_set_10 ?_
    exact mv_vret (pc := 11) B hr d_Model_set_11 (Nat.le_refl _) (Nat.le_refl _) ⟨rfl, by first | exact Fx.rf | exact SM.x Fx.rf, rfl⟩
set_option maxHeartbeats 4000000 in
set_option maxRecDepth 100000 in
theorem c_kh_Model_there_x (l : Launch) {dA : FieldType → ClassId} {D : va_G} {al : Nat → Nat} {ext : mv_Sh} {sk sv : Nat → Nat} (hi : mv_inj (mg dA D al ext)) (σ : mv_H) (hM : MI 74 108 σ) (t9 i9 : Int32) : mv_C l y_Model_there (Cond.code y_Model_there b_Model_there 4 (Option.some Jvm.ClassFile.FieldType.boolean) :: ma) ({ frames := 1, cells := 0, slots := 0, locals := 21 }) (mg dA D al ext) (mK sk sv) [.ref (al 70), .int t9, .int i9] σ (mv_Ri (fun v σ1 => σ1 = σ ∧ ((v = 0 ∧ ¬ THq 74 σ t9 i9) ∨ (v = 1 ∧ THq 74 σ t9 i9)))) := by
  refine mv_C.ofV (cc := b_Model_there) (nL := 4) (ret := (Option.some Jvm.ClassFile.FieldType.boolean)) (by decide +kernel) rfl hi (Nat.le_of_ble_eq_true rfl) ?_
  intro p e s m below meth c B hNs hr hnm hno
  have hN : 74 = 74 ∨ 74 = 108 := by decide
  have hM0 := hM
  obtain ⟨-, -, -, th, n, k, g1, g2, g3, g4, g5, g6, hTA, g8⟩ := hM0
  clear g3 g4 g5 g6 g8 hTA
  have j70 : ∀ (n9 : Int32) (ht0 : 0 ≤ t9.toInt) (ht1 : t9.toInt < (thM 74 σ).toInt) (hi0 : 0 ≤ i9.toInt) (hn : n9 = thN 74 σ t9), mv_V p l e ({ frames := 1, cells := 0, slots := 0, locals := 21 }) s m ([.ref (al 70), .int t9, .int i9] : List Value).toArray below meth c (mg dA D al ext) 4 0 0 (mv_Q (mg dA D al ext) below s 0 0 (mv_Ri (fun v σ1 => σ1 = σ ∧ ((v = 0 ∧ ¬ THq 74 σ t9 i9) ∨ (v = 1 ∧ THq 74 σ t9 i9))))) σ 70 [(0, .ref (al 70)), (1, .int t9), (2, .int i9)] [.int n9] := by
    intro n9 ht0 ht1 hi0 hn
    refine mv_istore_n (pc := 70) B d_Model_there_70 rfl (by decide) rfl ?_
    refine mv_iload_n (pc := 71) B d_Model_there_71 rfl 0 rfl ?_
    refine mv_if_ne (pc := 72) (tgt := 87) B d_Model_there_72 rfl (fun h72 => ?_) (fun h72 => ?_)
    · skip
      refine mv_iload_n (pc := 87) B d_Model_there_87 rfl 3 rfl ?_
      refine mv_iload_n (pc := 88) B d_Model_there_88 rfl 0 rfl ?_
      refine mv_icmp_ge (pc := 89) (tgt := 96) B d_Model_there_89 rfl (fun h89 => ?_) (fun h89 => ?_)
      · skip
        refine mv_iconst (pc := 96) (v := 0) B d_Model_there_96 (by decide) ?_
        exact mv_iret (pc := 97) B hr rfl d_Model_there_97 (Nat.le_refl _) (Nat.le_refl _) ⟨_, rfl, rfl, by first | exact Or.inr ⟨rfl, ht0, ht1, hi0, by rw [← hn]; exact Or.inl ⟨h72, h76⟩⟩ | exact Or.inr ⟨rfl, ht0, ht1, hi0, by rw [← hn]; exact Or.inr ⟨h72, Int32.lt_iff_toInt_lt.mp (Int32.not_le.mp h89)⟩⟩ | exact Or.inl ⟨rfl, fun q => by have q4 := q.2.2.2; rw [← hn] at q4; exact q4.elim (fun z => h76 z.2) (fun z => z.1 h72)⟩ | exact Or.inl ⟨rfl, fun q => by have q4 := q.2.2.2; rw [← hn] at q4; exact q4.elim (fun z => h72 z.1) (fun z => absurd z.2 (by have := Int32.le_iff_toInt_le.mp h89; omega))⟩⟩
      · skip
        refine mv_iconst (pc := 92) (v := 1) B d_Model_there_92 (by decide) ?_
        refine mv_goto (pc := 93) (tgt := 97) B d_Model_there_93 rfl ?_
        exact mv_iret (pc := 97) B hr rfl d_Model_there_97 (Nat.le_refl _) (Nat.le_refl _) ⟨_, rfl, rfl, by first | exact Or.inr ⟨rfl, ht0, ht1, hi0, by rw [← hn]; exact Or.inl ⟨h72, h76⟩⟩ | exact Or.inr ⟨rfl, ht0, ht1, hi0, by rw [← hn]; exact Or.inr ⟨h72, Int32.lt_iff_toInt_lt.mp (Int32.not_le.mp h89)⟩⟩ | exact Or.inl ⟨rfl, fun q => by have q4 := q.2.2.2; rw [← hn] at q4; exact q4.elim (fun z => h76 z.2) (fun z => z.1 h72)⟩ | exact Or.inl ⟨rfl, fun q => by have q4 := q.2.2.2; rw [← hn] at q4; exact q4.elim (fun z => h72 z.1) (fun z => absurd z.2 (by have := Int32.le_iff_toInt_le.mp h89; omega))⟩⟩
    · skip
      refine mv_iload_n (pc := 75) B d_Model_there_75 rfl 3 rfl ?_
      refine mv_if_ne (pc := 76) (tgt := 83) B d_Model_there_76 rfl (fun h76 => ?_) (fun h76 => ?_)
      · skip
        refine mv_iconst (pc := 83) (v := 0) B d_Model_there_83 (by decide) ?_
        refine mv_goto (pc := 84) (tgt := 97) B d_Model_there_84 rfl ?_
        exact mv_iret (pc := 97) B hr rfl d_Model_there_97 (Nat.le_refl _) (Nat.le_refl _) ⟨_, rfl, rfl, by first | exact Or.inr ⟨rfl, ht0, ht1, hi0, by rw [← hn]; exact Or.inl ⟨h72, h76⟩⟩ | exact Or.inr ⟨rfl, ht0, ht1, hi0, by rw [← hn]; exact Or.inr ⟨h72, Int32.lt_iff_toInt_lt.mp (Int32.not_le.mp h89)⟩⟩ | exact Or.inl ⟨rfl, fun q => by have q4 := q.2.2.2; rw [← hn] at q4; exact q4.elim (fun z => h76 z.2) (fun z => z.1 h72)⟩ | exact Or.inl ⟨rfl, fun q => by have q4 := q.2.2.2; rw [← hn] at q4; exact q4.elim (fun z => h72 z.1) (fun z => absurd z.2 (by have := Int32.le_iff_toInt_le.mp h89; omega))⟩⟩
      · skip
        refine mv_iconst (pc := 79) (v := 1) B d_Model_there_79 (by decide) ?_
        refine mv_goto (pc := 80) (tgt := 97) B d_Model_there_80 rfl ?_
        exact mv_iret (pc := 97) B hr rfl d_Model_there_97 (Nat.le_refl _) (Nat.le_refl _) ⟨_, rfl, rfl, by first | exact Or.inr ⟨rfl, ht0, ht1, hi0, by rw [← hn]; exact Or.inl ⟨h72, h76⟩⟩ | exact Or.inr ⟨rfl, ht0, ht1, hi0, by rw [← hn]; exact Or.inr ⟨h72, Int32.lt_iff_toInt_lt.mp (Int32.not_le.mp h89)⟩⟩ | exact Or.inl ⟨rfl, fun q => by have q4 := q.2.2.2; rw [← hn] at q4; exact q4.elim (fun z => h76 z.2) (fun z => z.1 h72)⟩ | exact Or.inl ⟨rfl, fun q => by have q4 := q.2.2.2; rw [← hn] at q4; exact q4.elim (fun z => h72 z.1) (fun z => absurd z.2 (by have := Int32.le_iff_toInt_le.mp h89; omega))⟩⟩
  refine mv_iload_n (pc := 0) B d_Model_there_0 rfl 1 rfl ?_
  refine mv_if_lt (pc := 1) (tgt := 30) B d_Model_there_1 rfl (fun h1 => ?_) (fun h1 => ?_)
  · skip
    have h1 : t9.toInt < 0 := Int32.lt_iff_toInt_lt.mp h1
    refine mv_iconst (pc := 30) (v := 0) B d_Model_there_30 (by decide) ?_
    exact mv_iret (pc := 31) B hr rfl d_Model_there_31 (Nat.le_refl _) (Nat.le_refl _) ⟨_, rfl, rfl, Or.inl ⟨rfl, fun q => by first | exact absurd q.1 (by omega) | exact ht1 q.2.1 | exact h27 q.2.2.1⟩⟩
  · skip
    have ht0 : 0 ≤ t9.toInt := Int.not_lt.mp (fun z => h1 (Int32.lt_iff_toInt_lt.mpr z))
    refine mv_iload_n (pc := 4) B d_Model_there_4 rfl 1 rfl ?_
    refine mv_aload_n (pc := 5) B d_Model_there_5 rfl 0 rfl ?_
    refine mv_getI (pc := 6) (ci := 11) (C := R_Model) (T := F_Model) (N := 16) B 11 rfl rfl (by decide) i_Model (B.2.2.2.1 _ k_2056) rfl d_Model_there_6 ?_
    refine mv_if_eq (pc := 9) (tgt := 16) B d_Model_there_9 rfl (fun h9 => ?_) (fun h9 => ?_)
    · skip
      refine mv_aload_n (pc := 16) B d_Model_there_16 rfl 0 rfl ?_
      refine mv_getR (pc := 17) (ci := 11) (C := R_Model) (T := F_Model) (N := 16) B 9 rfl rfl (by decide) i_Model (B.2.2.2.1 _ k_2054) rfl hM.2.1 d_Model_there_17 ?_
      refine mv_getI (pc := 20) (ci := 12) (C := R_Book) (T := F_Book) (N := 65) B 17 rfl rfl (by decide) i_Book (B.2.2.2.1 _ k_1861) rfl d_Model_there_20 ?_
      refine mv_icmp_ge (pc := 23) (tgt := 30) B d_Model_there_23 rfl (fun h23 => ?_) (fun h23 => ?_)
      · skip
        have ht1 : ¬ t9.toInt < (thM 74 σ).toInt := by
          have h23 := Int32.le_iff_toInt_le.mp h23
          unfold thM
          first | (rw [if_pos h9]; omega) | (rw [if_neg h9]; omega)
        refine mv_iconst (pc := 30) (v := 0) B d_Model_there_30 (by decide) ?_
        exact mv_iret (pc := 31) B hr rfl d_Model_there_31 (Nat.le_refl _) (Nat.le_refl _) ⟨_, rfl, rfl, Or.inl ⟨rfl, fun q => by first | exact absurd q.1 (by omega) | exact ht1 q.2.1 | exact h27 q.2.2.1⟩⟩
      · skip
        have ht1 : t9.toInt < (thM 74 σ).toInt := by
          have h23 := Int32.lt_iff_toInt_lt.mp (Int32.not_le.mp h23)
          unfold thM
          first | (rw [if_pos h9]; exact h23) | (rw [if_neg h9]; exact h23)
        have h23b := Int32.lt_iff_toInt_lt.mp (Int32.not_le.mp h23)
        refine mv_iload_n (pc := 26) B d_Model_there_26 rfl 2 rfl ?_
        refine mv_if_ge (pc := 27) (tgt := 32) B d_Model_there_27 rfl (fun h27 => ?_) (fun h27 => ?_)
        · skip
          have hi0 : 0 ≤ i9.toInt := Int32.le_iff_toInt_le.mp h27
          refine mv_aload_n (pc := 32) B d_Model_there_32 rfl 0 rfl ?_
          refine mv_getI (pc := 33) (ci := 11) (C := R_Model) (T := F_Model) (N := 16) B 11 rfl rfl (by decide) i_Model (B.2.2.2.1 _ k_2056) rfl d_Model_there_33 ?_
          refine mv_if_eq (pc := 36) (tgt := 62) B d_Model_there_36 rfl (fun h36 => ?_) (fun h36 => ?_)
          · skip
            refine mv_aload_n (pc := 62) B d_Model_there_62 rfl 0 rfl ?_
            refine mv_getR (pc := 63) (ci := 11) (C := R_Model) (T := F_Model) (N := 16) B 9 rfl rfl (by decide) i_Model (B.2.2.2.1 _ k_2054) rfl hM.2.1 d_Model_there_63 ?_
            refine mv_iload_n (pc := 66) B d_Model_there_66 rfl 1 rfl ?_
            refine mv_callVi (pc := 67) (n := 1) (ci := 12) (C := R_Book) B (mK_ok sk sv) hNs rfl rfl (c_Book_cellsOf_x l hi _ _ hM.1 ht0 (by rw [g1] at h23b; omega)) rfl (ma_goodc kc_Book_cellsOf) (B.2.2.2.1 _ k_2419) (B.2.2.2.1 _ k_2420) (B.2.2.2.1 _ k_2421) (B.2.2.2.1 _ k_13) ⟨by decide +kernel, by decide +kernel, by decide +kernel⟩ rfl d_Model_there_67 rfl (Nat.le_of_ble_eq_true rfl) ⟨by decide, by decide⟩ ⟨by decide, by decide⟩ ⟨by decide, by decide⟩ (mv_noH hno _) (fun v67 σ67 h67 => ?_)
            obtain ⟨e67, z67⟩ := h67
            have e67 := e67.symm
            subst e67
            refine mv_lpick [0, 1, 2] rfl ?_
            exact j70 _ ht0 ht1 hi0 (by unfold thN; first | (rw [if_neg h9, if_pos h40]; done) | (rw [if_neg h9, if_neg h40, if_pos h49]; done) | (rw [if_neg h9, if_neg h40, if_neg h49]; done) | (rw [if_pos h9]; rcases z67 with z | z; (rw [if_pos z.1]; exact z.2); (rw [if_neg z.1]; exact z.2)))
          · skip
            exact absurd h9 h36
        · skip
          have h27 : ¬ 0 ≤ i9.toInt := fun z => h27 (Int32.le_iff_toInt_le.mpr z)
          refine mv_iconst (pc := 30) (v := 0) B d_Model_there_30 (by decide) ?_
          exact mv_iret (pc := 31) B hr rfl d_Model_there_31 (Nat.le_refl _) (Nat.le_refl _) ⟨_, rfl, rfl, Or.inl ⟨rfl, fun q => by first | exact absurd q.1 (by omega) | exact ht1 q.2.1 | exact h27 q.2.2.1⟩⟩
    · skip
      refine mv_iconst (pc := 12) (v := 3) B d_Model_there_12 (by decide) ?_
      refine mv_goto (pc := 13) (tgt := 23) B d_Model_there_13 rfl ?_
      refine mv_icmp_ge (pc := 23) (tgt := 30) B d_Model_there_23 rfl (fun h23 => ?_) (fun h23 => ?_)
      · skip
        have ht1 : ¬ t9.toInt < (thM 74 σ).toInt := by
          have h23 := Int32.le_iff_toInt_le.mp h23
          unfold thM
          first | (rw [if_pos h9]; omega) | (rw [if_neg h9]; omega)
        refine mv_iconst (pc := 30) (v := 0) B d_Model_there_30 (by decide) ?_
        exact mv_iret (pc := 31) B hr rfl d_Model_there_31 (Nat.le_refl _) (Nat.le_refl _) ⟨_, rfl, rfl, Or.inl ⟨rfl, fun q => by first | exact absurd q.1 (by omega) | exact ht1 q.2.1 | exact h27 q.2.2.1⟩⟩
      · skip
        have ht1 : t9.toInt < (thM 74 σ).toInt := by
          have h23 := Int32.lt_iff_toInt_lt.mp (Int32.not_le.mp h23)
          unfold thM
          first | (rw [if_pos h9]; exact h23) | (rw [if_neg h9]; exact h23)
        have h23b := Int32.lt_iff_toInt_lt.mp (Int32.not_le.mp h23)
        refine mv_iload_n (pc := 26) B d_Model_there_26 rfl 2 rfl ?_
        refine mv_if_ge (pc := 27) (tgt := 32) B d_Model_there_27 rfl (fun h27 => ?_) (fun h27 => ?_)
        · skip
          have hi0 : 0 ≤ i9.toInt := Int32.le_iff_toInt_le.mp h27
          refine mv_aload_n (pc := 32) B d_Model_there_32 rfl 0 rfl ?_
          refine mv_getI (pc := 33) (ci := 11) (C := R_Model) (T := F_Model) (N := 16) B 11 rfl rfl (by decide) i_Model (B.2.2.2.1 _ k_2056) rfl d_Model_there_33 ?_
          refine mv_if_eq (pc := 36) (tgt := 62) B d_Model_there_36 rfl (fun h36 => ?_) (fun h36 => ?_)
          · skip
            exact absurd h36 h9
          · skip
            refine mv_iload_n (pc := 39) B d_Model_there_39 rfl 1 rfl ?_
            refine mv_if_ne (pc := 40) (tgt := 47) B d_Model_there_40 rfl (fun h40 => ?_) (fun h40 => ?_)
            · skip
              refine mv_iload_n (pc := 47) B d_Model_there_47 rfl 1 rfl ?_
              refine mv_iconst (pc := 48) (v := 1) B d_Model_there_48 (by decide) ?_
              refine mv_icmp_ne (pc := 49) (tgt := 57) B d_Model_there_49 rfl (fun h49 => ?_) (fun h49 => ?_)
              · skip
                refine mv_ldc (pc := 57) (v := 32768) B (B.2.2.2.1 _ k_1815) d_Model_there_57 ?_
                refine mv_goto (pc := 59) (tgt := 70) B d_Model_there_59 rfl ?_
                refine mv_lpick [0, 1, 2] rfl ?_
                exact j70 _ ht0 ht1 hi0 (by unfold thN; first | (rw [if_neg h9, if_pos h40]; done) | (rw [if_neg h9, if_neg h40, if_pos h49]; done) | (rw [if_neg h9, if_neg h40, if_neg h49]; done) | (rw [if_pos h9]; rcases z67 with z | z; (rw [if_pos z.1]; exact z.2); (rw [if_neg z.1]; exact z.2)))
              · skip
                refine mv_bipush (pc := 52) (v := 32) B d_Model_there_52 (by decide) ?_
                refine mv_goto (pc := 54) (tgt := 70) B d_Model_there_54 rfl ?_
                refine mv_lpick [0, 1, 2] rfl ?_
                exact j70 _ ht0 ht1 hi0 (by unfold thN; first | (rw [if_neg h9, if_pos h40]; done) | (rw [if_neg h9, if_neg h40, if_pos h49]; done) | (rw [if_neg h9, if_neg h40, if_neg h49]; done) | (rw [if_pos h9]; rcases z67 with z | z; (rw [if_pos z.1]; exact z.2); (rw [if_neg z.1]; exact z.2)))
            · skip
              refine mv_iconst (pc := 43) (v := 0) B d_Model_there_43 (by decide) ?_
              refine mv_goto (pc := 44) (tgt := 70) B d_Model_there_44 rfl ?_
              refine mv_lpick [0, 1, 2] rfl ?_
              exact j70 _ ht0 ht1 hi0 (by unfold thN; first | (rw [if_neg h9, if_pos h40]; done) | (rw [if_neg h9, if_neg h40, if_pos h49]; done) | (rw [if_neg h9, if_neg h40, if_neg h49]; done) | (rw [if_pos h9]; rcases z67 with z | z; (rw [if_pos z.1]; exact z.2); (rw [if_neg z.1]; exact z.2)))
        · skip
          have h27 : ¬ 0 ≤ i9.toInt := fun z => h27 (Int32.le_iff_toInt_le.mpr z)
          refine mv_iconst (pc := 30) (v := 0) B d_Model_there_30 (by decide) ?_
          exact mv_iret (pc := 31) B hr rfl d_Model_there_31 (Nat.le_refl _) (Nat.le_refl _) ⟨_, rfl, rfl, Or.inl ⟨rfl, fun q => by first | exact absurd q.1 (by omega) | exact ht1 q.2.1 | exact h27 q.2.2.1⟩⟩
set_option maxHeartbeats 4000000 in
set_option maxRecDepth 100000 in
theorem c_kh_Model_there_y (l : Launch) {dA : FieldType → ClassId} {D : va_G} {al : Nat → Nat} {ext : mv_Sh} {sk sv : Nat → Nat} (hi : mv_inj (mg dA D al ext)) (σ : mv_H) (hM : MI 108 74 σ) (t9 i9 : Int32) : mv_C l y_Model_there (Cond.code y_Model_there b_Model_there 4 (Option.some Jvm.ClassFile.FieldType.boolean) :: ma) ({ frames := 1, cells := 0, slots := 0, locals := 21 }) (mg dA D al ext) (mK sk sv) [.ref (al 70), .int t9, .int i9] σ (mv_Ri (fun v σ1 => σ1 = σ ∧ ((v = 0 ∧ ¬ THq 108 σ t9 i9) ∨ (v = 1 ∧ THq 108 σ t9 i9)))) := by
  refine mv_C.ofV (cc := b_Model_there) (nL := 4) (ret := (Option.some Jvm.ClassFile.FieldType.boolean)) (by decide +kernel) rfl hi (Nat.le_of_ble_eq_true rfl) ?_
  intro p e s m below meth c B hNs hr hnm hno
  have hN : 108 = 74 ∨ 108 = 108 := by decide
  have hM0 := hM
  obtain ⟨-, -, -, th, n, k, g1, g2, g3, g4, g5, g6, hTA, g8⟩ := hM0
  clear g3 g4 g5 g6 g8 hTA
  have j70 : ∀ (n9 : Int32) (ht0 : 0 ≤ t9.toInt) (ht1 : t9.toInt < (thM 108 σ).toInt) (hi0 : 0 ≤ i9.toInt) (hn : n9 = thN 108 σ t9), mv_V p l e ({ frames := 1, cells := 0, slots := 0, locals := 21 }) s m ([.ref (al 70), .int t9, .int i9] : List Value).toArray below meth c (mg dA D al ext) 4 0 0 (mv_Q (mg dA D al ext) below s 0 0 (mv_Ri (fun v σ1 => σ1 = σ ∧ ((v = 0 ∧ ¬ THq 108 σ t9 i9) ∨ (v = 1 ∧ THq 108 σ t9 i9))))) σ 70 [(0, .ref (al 70)), (1, .int t9), (2, .int i9)] [.int n9] := by
    intro n9 ht0 ht1 hi0 hn
    refine mv_istore_n (pc := 70) B d_Model_there_70 rfl (by decide) rfl ?_
    refine mv_iload_n (pc := 71) B d_Model_there_71 rfl 0 rfl ?_
    refine mv_if_ne (pc := 72) (tgt := 87) B d_Model_there_72 rfl (fun h72 => ?_) (fun h72 => ?_)
    · skip
      refine mv_iload_n (pc := 87) B d_Model_there_87 rfl 3 rfl ?_
      refine mv_iload_n (pc := 88) B d_Model_there_88 rfl 0 rfl ?_
      refine mv_icmp_ge (pc := 89) (tgt := 96) B d_Model_there_89 rfl (fun h89 => ?_) (fun h89 => ?_)
      · skip
        refine mv_iconst (pc := 96) (v := 0) B d_Model_there_96 (by decide) ?_
        exact mv_iret (pc := 97) B hr rfl d_Model_there_97 (Nat.le_refl _) (Nat.le_refl _) ⟨_, rfl, rfl, by first | exact Or.inr ⟨rfl, ht0, ht1, hi0, by rw [← hn]; exact Or.inl ⟨h72, h76⟩⟩ | exact Or.inr ⟨rfl, ht0, ht1, hi0, by rw [← hn]; exact Or.inr ⟨h72, Int32.lt_iff_toInt_lt.mp (Int32.not_le.mp h89)⟩⟩ | exact Or.inl ⟨rfl, fun q => by have q4 := q.2.2.2; rw [← hn] at q4; exact q4.elim (fun z => h76 z.2) (fun z => z.1 h72)⟩ | exact Or.inl ⟨rfl, fun q => by have q4 := q.2.2.2; rw [← hn] at q4; exact q4.elim (fun z => h72 z.1) (fun z => absurd z.2 (by have := Int32.le_iff_toInt_le.mp h89; omega))⟩⟩
      · skip
        refine mv_iconst (pc := 92) (v := 1) B d_Model_there_92 (by decide) ?_
        refine mv_goto (pc := 93) (tgt := 97) B d_Model_there_93 rfl ?_
        exact mv_iret (pc := 97) B hr rfl d_Model_there_97 (Nat.le_refl _) (Nat.le_refl _) ⟨_, rfl, rfl, by first | exact Or.inr ⟨rfl, ht0, ht1, hi0, by rw [← hn]; exact Or.inl ⟨h72, h76⟩⟩ | exact Or.inr ⟨rfl, ht0, ht1, hi0, by rw [← hn]; exact Or.inr ⟨h72, Int32.lt_iff_toInt_lt.mp (Int32.not_le.mp h89)⟩⟩ | exact Or.inl ⟨rfl, fun q => by have q4 := q.2.2.2; rw [← hn] at q4; exact q4.elim (fun z => h76 z.2) (fun z => z.1 h72)⟩ | exact Or.inl ⟨rfl, fun q => by have q4 := q.2.2.2; rw [← hn] at q4; exact q4.elim (fun z => h72 z.1) (fun z => absurd z.2 (by have := Int32.le_iff_toInt_le.mp h89; omega))⟩⟩
    · skip
      refine mv_iload_n (pc := 75) B d_Model_there_75 rfl 3 rfl ?_
      refine mv_if_ne (pc := 76) (tgt := 83) B d_Model_there_76 rfl (fun h76 => ?_) (fun h76 => ?_)
      · skip
        refine mv_iconst (pc := 83) (v := 0) B d_Model_there_83 (by decide) ?_
        refine mv_goto (pc := 84) (tgt := 97) B d_Model_there_84 rfl ?_
        exact mv_iret (pc := 97) B hr rfl d_Model_there_97 (Nat.le_refl _) (Nat.le_refl _) ⟨_, rfl, rfl, by first | exact Or.inr ⟨rfl, ht0, ht1, hi0, by rw [← hn]; exact Or.inl ⟨h72, h76⟩⟩ | exact Or.inr ⟨rfl, ht0, ht1, hi0, by rw [← hn]; exact Or.inr ⟨h72, Int32.lt_iff_toInt_lt.mp (Int32.not_le.mp h89)⟩⟩ | exact Or.inl ⟨rfl, fun q => by have q4 := q.2.2.2; rw [← hn] at q4; exact q4.elim (fun z => h76 z.2) (fun z => z.1 h72)⟩ | exact Or.inl ⟨rfl, fun q => by have q4 := q.2.2.2; rw [← hn] at q4; exact q4.elim (fun z => h72 z.1) (fun z => absurd z.2 (by have := Int32.le_iff_toInt_le.mp h89; omega))⟩⟩
      · skip
        refine mv_iconst (pc := 79) (v := 1) B d_Model_there_79 (by decide) ?_
        refine mv_goto (pc := 80) (tgt := 97) B d_Model_there_80 rfl ?_
        exact mv_iret (pc := 97) B hr rfl d_Model_there_97 (Nat.le_refl _) (Nat.le_refl _) ⟨_, rfl, rfl, by first | exact Or.inr ⟨rfl, ht0, ht1, hi0, by rw [← hn]; exact Or.inl ⟨h72, h76⟩⟩ | exact Or.inr ⟨rfl, ht0, ht1, hi0, by rw [← hn]; exact Or.inr ⟨h72, Int32.lt_iff_toInt_lt.mp (Int32.not_le.mp h89)⟩⟩ | exact Or.inl ⟨rfl, fun q => by have q4 := q.2.2.2; rw [← hn] at q4; exact q4.elim (fun z => h76 z.2) (fun z => z.1 h72)⟩ | exact Or.inl ⟨rfl, fun q => by have q4 := q.2.2.2; rw [← hn] at q4; exact q4.elim (fun z => h72 z.1) (fun z => absurd z.2 (by have := Int32.le_iff_toInt_le.mp h89; omega))⟩⟩
  refine mv_iload_n (pc := 0) B d_Model_there_0 rfl 1 rfl ?_
  refine mv_if_lt (pc := 1) (tgt := 30) B d_Model_there_1 rfl (fun h1 => ?_) (fun h1 => ?_)
  · skip
    have h1 : t9.toInt < 0 := Int32.lt_iff_toInt_lt.mp h1
    refine mv_iconst (pc := 30) (v := 0) B d_Model_there_30 (by decide) ?_
    exact mv_iret (pc := 31) B hr rfl d_Model_there_31 (Nat.le_refl _) (Nat.le_refl _) ⟨_, rfl, rfl, Or.inl ⟨rfl, fun q => by first | exact absurd q.1 (by omega) | exact ht1 q.2.1 | exact h27 q.2.2.1⟩⟩
  · skip
    have ht0 : 0 ≤ t9.toInt := Int.not_lt.mp (fun z => h1 (Int32.lt_iff_toInt_lt.mpr z))
    refine mv_iload_n (pc := 4) B d_Model_there_4 rfl 1 rfl ?_
    refine mv_aload_n (pc := 5) B d_Model_there_5 rfl 0 rfl ?_
    refine mv_getI (pc := 6) (ci := 11) (C := R_Model) (T := F_Model) (N := 16) B 11 rfl rfl (by decide) i_Model (B.2.2.2.1 _ k_2056) rfl d_Model_there_6 ?_
    refine mv_if_eq (pc := 9) (tgt := 16) B d_Model_there_9 rfl (fun h9 => ?_) (fun h9 => ?_)
    · skip
      refine mv_aload_n (pc := 16) B d_Model_there_16 rfl 0 rfl ?_
      refine mv_getR (pc := 17) (ci := 11) (C := R_Model) (T := F_Model) (N := 16) B 9 rfl rfl (by decide) i_Model (B.2.2.2.1 _ k_2054) rfl hM.2.1 d_Model_there_17 ?_
      refine mv_getI (pc := 20) (ci := 12) (C := R_Book) (T := F_Book) (N := 65) B 17 rfl rfl (by decide) i_Book (B.2.2.2.1 _ k_1861) rfl d_Model_there_20 ?_
      refine mv_icmp_ge (pc := 23) (tgt := 30) B d_Model_there_23 rfl (fun h23 => ?_) (fun h23 => ?_)
      · skip
        have ht1 : ¬ t9.toInt < (thM 108 σ).toInt := by
          have h23 := Int32.le_iff_toInt_le.mp h23
          unfold thM
          first | (rw [if_pos h9]; omega) | (rw [if_neg h9]; omega)
        refine mv_iconst (pc := 30) (v := 0) B d_Model_there_30 (by decide) ?_
        exact mv_iret (pc := 31) B hr rfl d_Model_there_31 (Nat.le_refl _) (Nat.le_refl _) ⟨_, rfl, rfl, Or.inl ⟨rfl, fun q => by first | exact absurd q.1 (by omega) | exact ht1 q.2.1 | exact h27 q.2.2.1⟩⟩
      · skip
        have ht1 : t9.toInt < (thM 108 σ).toInt := by
          have h23 := Int32.lt_iff_toInt_lt.mp (Int32.not_le.mp h23)
          unfold thM
          first | (rw [if_pos h9]; exact h23) | (rw [if_neg h9]; exact h23)
        have h23b := Int32.lt_iff_toInt_lt.mp (Int32.not_le.mp h23)
        refine mv_iload_n (pc := 26) B d_Model_there_26 rfl 2 rfl ?_
        refine mv_if_ge (pc := 27) (tgt := 32) B d_Model_there_27 rfl (fun h27 => ?_) (fun h27 => ?_)
        · skip
          have hi0 : 0 ≤ i9.toInt := Int32.le_iff_toInt_le.mp h27
          refine mv_aload_n (pc := 32) B d_Model_there_32 rfl 0 rfl ?_
          refine mv_getI (pc := 33) (ci := 11) (C := R_Model) (T := F_Model) (N := 16) B 11 rfl rfl (by decide) i_Model (B.2.2.2.1 _ k_2056) rfl d_Model_there_33 ?_
          refine mv_if_eq (pc := 36) (tgt := 62) B d_Model_there_36 rfl (fun h36 => ?_) (fun h36 => ?_)
          · skip
            refine mv_aload_n (pc := 62) B d_Model_there_62 rfl 0 rfl ?_
            refine mv_getR (pc := 63) (ci := 11) (C := R_Model) (T := F_Model) (N := 16) B 9 rfl rfl (by decide) i_Model (B.2.2.2.1 _ k_2054) rfl hM.2.1 d_Model_there_63 ?_
            refine mv_iload_n (pc := 66) B d_Model_there_66 rfl 1 rfl ?_
            refine mv_callVi (pc := 67) (n := 1) (ci := 12) (C := R_Book) B (mK_ok sk sv) hNs rfl rfl (c_Book_cellsOf_y l hi _ _ hM.1 ht0 (by rw [g1] at h23b; omega)) rfl (ma_goodc kc_Book_cellsOf) (B.2.2.2.1 _ k_2419) (B.2.2.2.1 _ k_2420) (B.2.2.2.1 _ k_2421) (B.2.2.2.1 _ k_13) ⟨by decide +kernel, by decide +kernel, by decide +kernel⟩ rfl d_Model_there_67 rfl (Nat.le_of_ble_eq_true rfl) ⟨by decide, by decide⟩ ⟨by decide, by decide⟩ ⟨by decide, by decide⟩ (mv_noH hno _) (fun v67 σ67 h67 => ?_)
            obtain ⟨e67, z67⟩ := h67
            have e67 := e67.symm
            subst e67
            refine mv_lpick [0, 1, 2] rfl ?_
            exact j70 _ ht0 ht1 hi0 (by unfold thN; first | (rw [if_neg h9, if_pos h40]; done) | (rw [if_neg h9, if_neg h40, if_pos h49]; done) | (rw [if_neg h9, if_neg h40, if_neg h49]; done) | (rw [if_pos h9]; rcases z67 with z | z; (rw [if_pos z.1]; exact z.2); (rw [if_neg z.1]; exact z.2)))
          · skip
            exact absurd h9 h36
        · skip
          have h27 : ¬ 0 ≤ i9.toInt := fun z => h27 (Int32.le_iff_toInt_le.mpr z)
          refine mv_iconst (pc := 30) (v := 0) B d_Model_there_30 (by decide) ?_
          exact mv_iret (pc := 31) B hr rfl d_Model_there_31 (Nat.le_refl _) (Nat.le_refl _) ⟨_, rfl, rfl, Or.inl ⟨rfl, fun q => by first | exact absurd q.1 (by omega) | exact ht1 q.2.1 | exact h27 q.2.2.1⟩⟩
    · skip
      refine mv_iconst (pc := 12) (v := 3) B d_Model_there_12 (by decide) ?_
      refine mv_goto (pc := 13) (tgt := 23) B d_Model_there_13 rfl ?_
      refine mv_icmp_ge (pc := 23) (tgt := 30) B d_Model_there_23 rfl (fun h23 => ?_) (fun h23 => ?_)
      · skip
        have ht1 : ¬ t9.toInt < (thM 108 σ).toInt := by
          have h23 := Int32.le_iff_toInt_le.mp h23
          unfold thM
          first | (rw [if_pos h9]; omega) | (rw [if_neg h9]; omega)
        refine mv_iconst (pc := 30) (v := 0) B d_Model_there_30 (by decide) ?_
        exact mv_iret (pc := 31) B hr rfl d_Model_there_31 (Nat.le_refl _) (Nat.le_refl _) ⟨_, rfl, rfl, Or.inl ⟨rfl, fun q => by first | exact absurd q.1 (by omega) | exact ht1 q.2.1 | exact h27 q.2.2.1⟩⟩
      · skip
        have ht1 : t9.toInt < (thM 108 σ).toInt := by
          have h23 := Int32.lt_iff_toInt_lt.mp (Int32.not_le.mp h23)
          unfold thM
          first | (rw [if_pos h9]; exact h23) | (rw [if_neg h9]; exact h23)
        have h23b := Int32.lt_iff_toInt_lt.mp (Int32.not_le.mp h23)
        refine mv_iload_n (pc := 26) B d_Model_there_26 rfl 2 rfl ?_
        refine mv_if_ge (pc := 27) (tgt := 32) B d_Model_there_27 rfl (fun h27 => ?_) (fun h27 => ?_)
        · skip
          have hi0 : 0 ≤ i9.toInt := Int32.le_iff_toInt_le.mp h27
          refine mv_aload_n (pc := 32) B d_Model_there_32 rfl 0 rfl ?_
          refine mv_getI (pc := 33) (ci := 11) (C := R_Model) (T := F_Model) (N := 16) B 11 rfl rfl (by decide) i_Model (B.2.2.2.1 _ k_2056) rfl d_Model_there_33 ?_
          refine mv_if_eq (pc := 36) (tgt := 62) B d_Model_there_36 rfl (fun h36 => ?_) (fun h36 => ?_)
          · skip
            exact absurd h36 h9
          · skip
            refine mv_iload_n (pc := 39) B d_Model_there_39 rfl 1 rfl ?_
            refine mv_if_ne (pc := 40) (tgt := 47) B d_Model_there_40 rfl (fun h40 => ?_) (fun h40 => ?_)
            · skip
              refine mv_iload_n (pc := 47) B d_Model_there_47 rfl 1 rfl ?_
              refine mv_iconst (pc := 48) (v := 1) B d_Model_there_48 (by decide) ?_
              refine mv_icmp_ne (pc := 49) (tgt := 57) B d_Model_there_49 rfl (fun h49 => ?_) (fun h49 => ?_)
              · skip
                refine mv_ldc (pc := 57) (v := 32768) B (B.2.2.2.1 _ k_1815) d_Model_there_57 ?_
                refine mv_goto (pc := 59) (tgt := 70) B d_Model_there_59 rfl ?_
                refine mv_lpick [0, 1, 2] rfl ?_
                exact j70 _ ht0 ht1 hi0 (by unfold thN; first | (rw [if_neg h9, if_pos h40]; done) | (rw [if_neg h9, if_neg h40, if_pos h49]; done) | (rw [if_neg h9, if_neg h40, if_neg h49]; done) | (rw [if_pos h9]; rcases z67 with z | z; (rw [if_pos z.1]; exact z.2); (rw [if_neg z.1]; exact z.2)))
              · skip
                refine mv_bipush (pc := 52) (v := 32) B d_Model_there_52 (by decide) ?_
                refine mv_goto (pc := 54) (tgt := 70) B d_Model_there_54 rfl ?_
                refine mv_lpick [0, 1, 2] rfl ?_
                exact j70 _ ht0 ht1 hi0 (by unfold thN; first | (rw [if_neg h9, if_pos h40]; done) | (rw [if_neg h9, if_neg h40, if_pos h49]; done) | (rw [if_neg h9, if_neg h40, if_neg h49]; done) | (rw [if_pos h9]; rcases z67 with z | z; (rw [if_pos z.1]; exact z.2); (rw [if_neg z.1]; exact z.2)))
            · skip
              refine mv_iconst (pc := 43) (v := 0) B d_Model_there_43 (by decide) ?_
              refine mv_goto (pc := 44) (tgt := 70) B d_Model_there_44 rfl ?_
              refine mv_lpick [0, 1, 2] rfl ?_
              exact j70 _ ht0 ht1 hi0 (by unfold thN; first | (rw [if_neg h9, if_pos h40]; done) | (rw [if_neg h9, if_neg h40, if_pos h49]; done) | (rw [if_neg h9, if_neg h40, if_neg h49]; done) | (rw [if_pos h9]; rcases z67 with z | z; (rw [if_pos z.1]; exact z.2); (rw [if_neg z.1]; exact z.2)))
        · skip
          have h27 : ¬ 0 ≤ i9.toInt := fun z => h27 (Int32.le_iff_toInt_le.mpr z)
          refine mv_iconst (pc := 30) (v := 0) B d_Model_there_30 (by decide) ?_
          exact mv_iret (pc := 31) B hr rfl d_Model_there_31 (Nat.le_refl _) (Nat.le_refl _) ⟨_, rfl, rfl, Or.inl ⟨rfl, fun q => by first | exact absurd q.1 (by omega) | exact ht1 q.2.1 | exact h27 q.2.2.1⟩⟩
set_option maxHeartbeats 4000000 in
set_option maxRecDepth 100000 in
theorem c_kh_Model_poke_x (l : Launch) {dA : FieldType → ClassId} {D : va_G} {al : Nat → Nat} {ext : mv_Sh} {sk sv : Nat → Nat} (hi : mv_inj (mg dA D al ext)) (σ : mv_H) (hM : MI 74 108 σ) (t9 i9 : Int32) (w0 : Int64) : mv_C l y_Model_poke (Cond.code y_Model_poke b_Model_poke 5 (Option.none : Option Jvm.ClassFile.FieldType) :: ma) ({ frames := 2, cells := 0, slots := 0, locals := 46 }) (mg dA D al ext) (mK sk sv) [.ref (al 70), .int t9, .int i9, .long w0] σ (mv_Rv (fun σ1 => QF 74 σ σ1 ∧ ((mv_i σ1 70 2 = 1 ∧ ¬ THq 74 σ t9 i9) ∨ (mv_i σ1 70 2 = 0 ∧ THq 74 σ t9 i9)))) := by
  refine mv_C.ofV (cc := b_Model_poke) (nL := 5) (ret := (Option.none : Option Jvm.ClassFile.FieldType)) (by decide +kernel) rfl hi (Nat.le_of_ble_eq_true rfl) ?_
  intro p e s m below meth c B hNs hr hnm hno
  have hN : 74 = 74 ∨ 74 = 108 := by decide
  refine mv_aload_n (pc := 0) B d_Model_poke_0 rfl 0 rfl ?_
  refine mv_aload_n (pc := 1) B d_Model_poke_1 rfl 0 rfl ?_
  refine mv_iload_n (pc := 2) B d_Model_poke_2 rfl 1 rfl ?_
  refine mv_iload_n (pc := 3) B d_Model_poke_3 rfl 2 rfl ?_
  refine mv_callVi (pc := 4) (n := 2) (ci := 11) (C := R_Model) B (mK_ok sk sv) hNs rfl rfl (mv_C.twoi (c_Model_there_x l hi _ hM _ _) (c_kh_Model_there_x l hi _ hM _ _)) rfl (ma_goodc kc_Model_there) (B.2.2.2.1 _ k_2415) (B.2.2.2.1 _ k_2417) (B.2.2.2.1 _ ks_124) (B.2.2.2.1 _ k_12) ⟨by decide +kernel, by decide +kernel, by decide +kernel⟩ rfl d_Model_poke_4 rfl (Nat.le_of_ble_eq_true rfl) ⟨by decide, by decide⟩ ⟨by decide, by decide⟩ ⟨by decide, by decide⟩ (mv_noH hno _) (fun v4 σ4 h4 => ?_)
  obtain ⟨⟨e4, z4⟩, υ4, ⟨-, y4⟩, -⟩ := h4
  have e4 := e4.symm
  subst e4
  refine mv_if_eq (pc := 7) (tgt := 14) B d_Model_poke_7 rfl (fun h7 => ?_) (fun h7 => ?_)
  · skip
    refine mv_iconst (pc := 14) (v := 1) B d_Model_poke_14 (by decide) ?_
    refine mv_putI (pc := 15) (ci := 11) (C := R_Model) (T := F_Model) (N := 16) B 2 rfl rfl (by decide) i_Model t_Model_ok n_Model (B.2.2.2.1 _ k_2047) rfl rfl rfl rfl d_Model_poke_15 ?_
    refine mv_gen (fun S18 eS18 => ?_)
    have hF : QF 74 σ S18 := by rw [eS18]; exact QF.si Fx.rf (by decide)
    have hM := hM.qf hF hN
    first | have x18 : mv_i S18 70 2 = 0 := by rw [eS18, mv_si_s] | have x18 : mv_i S18 70 2 = 1 := by rw [eS18, mv_si_s]
    try have hTP : TP9 74 S18 t9 i9 := (z4.resolve_left h7).2.th eS18 hN
    clear eS18
    refine mv_aload_n (pc := 18) B d_Model_poke_18 rfl 0 rfl ?_
    refine mv_getI (pc := 19) (ci := 11) (C := R_Model) (T := F_Model) (N := 16) B 2 rfl rfl (by decide) i_Model (B.2.2.2.1 _ k_2047) rfl d_Model_poke_19 ?_
    refine mv_if_le (pc := 22) (tgt := 26) B d_Model_poke_22 rfl (fun h22 => ?_) (fun h22 => ?_)
    · skip
      exact absurd h22 (by rw [x18]; decide)
    · skip
      exact mv_vret (pc := 25) B hr d_Model_poke_25 (Nat.le_refl _) (Nat.le_refl _) ⟨rfl, hF, Or.inl ⟨x18, (y4.resolve_right (fun z => by rw [h7] at z; exact absurd z.1 (by decide))).2⟩⟩
  · skip
    refine mv_iconst (pc := 10) (v := 0) B d_Model_poke_10 (by decide) ?_
    refine mv_goto (pc := 11) (tgt := 15) B d_Model_poke_11 rfl ?_
    refine mv_putI (pc := 15) (ci := 11) (C := R_Model) (T := F_Model) (N := 16) B 2 rfl rfl (by decide) i_Model t_Model_ok n_Model (B.2.2.2.1 _ k_2047) rfl rfl rfl rfl d_Model_poke_15 ?_
    refine mv_gen (fun S18 eS18 => ?_)
    have hF : QF 74 σ S18 := by rw [eS18]; exact QF.si Fx.rf (by decide)
    have hM := hM.qf hF hN
    first | have x18 : mv_i S18 70 2 = 0 := by rw [eS18, mv_si_s] | have x18 : mv_i S18 70 2 = 1 := by rw [eS18, mv_si_s]
    try have hTP : TP9 74 S18 t9 i9 := (z4.resolve_left h7).2.th eS18 hN
    clear eS18
    refine mv_aload_n (pc := 18) B d_Model_poke_18 rfl 0 rfl ?_
    refine mv_getI (pc := 19) (ci := 11) (C := R_Model) (T := F_Model) (N := 16) B 2 rfl rfl (by decide) i_Model (B.2.2.2.1 _ k_2047) rfl d_Model_poke_19 ?_
    refine mv_if_le (pc := 22) (tgt := 26) B d_Model_poke_22 rfl (fun h22 => ?_) (fun h22 => ?_)
    · skip
      refine mv_aload_n (pc := 26) B d_Model_poke_26 rfl 0 rfl ?_
      refine mv_getI (pc := 27) (ci := 11) (C := R_Model) (T := F_Model) (N := 16) B 11 rfl rfl (by decide) i_Model (B.2.2.2.1 _ k_2056) rfl d_Model_poke_27 ?_
      refine mv_if_ne (pc := 30) (tgt := 46) B d_Model_poke_30 rfl (fun h30 => ?_) (fun h30 => ?_)
      · skip
        have hsh := (hTP.2.2.resolve_right (fun z => h30 z.1)).2
        refine mv_iload_n (pc := 46) B d_Model_poke_46 rfl 1 rfl ?_
        refine mv_if_ne (pc := 47) (tgt := 59) B d_Model_poke_47 rfl (fun h47 => ?_) (fun h47 => ?_)
        · skip
          refine mv_iload_n (pc := 59) B d_Model_poke_59 rfl 1 rfl ?_
          refine mv_iconst (pc := 60) (v := 1) B d_Model_poke_60 (by decide) ?_
          refine mv_icmp_ne (pc := 61) (tgt := 74) B d_Model_poke_61 rfl (fun h61 => ?_) (fun h61 => ?_)
          · skip
            have hb : i9.toInt < 32768 := by
              rcases hsh with z | z | z
              · exact absurd z.1 h47
              · exact absurd z.1 h61
              · exact z.2.2
            refine mv_aload_n (pc := 74) B d_Model_poke_74 rfl 0 rfl ?_
            refine mv_getR (pc := 75) (ci := 11) (C := R_Model) (T := F_Model) (N := 16) B 8 rfl rfl (by decide) i_Model (B.2.2.2.1 _ k_2053) rfl (hM.1 _ 8 _ rfl) d_Model_poke_75 ?_
            refine mv_iload_n (pc := 78) B d_Model_poke_78 rfl 2 rfl ?_
            refine mv_lload_n (pc := 79) B d_Model_poke_79 rfl 3 rfl ?_
            refine mv_l2i (pc := 80) B d_Model_poke_80 ?_
            refine mv_i2b (pc := 81) B d_Model_poke_81 ?_
            refine mv_bast (pc := 82) B rfl (i32_in hTP.2.1 hb) d_Model_poke_82 ?_
            exact mv_vret (pc := 83) B hr d_Model_poke_83 (Nat.le_refl _) (Nat.le_refl _) ⟨rfl, by first | exact hF.tr h40.qf | exact hF.si (by decide) | exact hF.tr h68.qf | exact hF.tr (SM.qf (SM.m Fx.rf)), Or.inr ⟨by first | exact (h40.1 70 2 (by omega)).trans x18 | exact (congrFun (congrFun i68 70) 2).trans x18 | exact x18 | exact (mv_si_o _ _ (by omega)).trans x18, (y4.resolve_left (fun z => h7 z.1)).2⟩⟩
          · skip
            have hset : i9.toInt < 32 := by
              rcases hsh with z | z | z
              · exact absurd z.1 h47
              · exact z.2
              · exact absurd h61 z.2.1
            refine mv_aload_n (pc := 64) B d_Model_poke_64 rfl 0 rfl ?_
            refine mv_iload_n (pc := 65) B d_Model_poke_65 rfl 2 rfl ?_
            refine mv_lload_n (pc := 66) B d_Model_poke_66 rfl 3 rfl ?_
            refine mv_l2i (pc := 67) B d_Model_poke_67 ?_
            refine mv_callVv (pc := 68) (n := 2) (ci := 11) (C := R_Model) B (mK_ok sk sv) hNs rfl rfl (c_kh_Model_set l hi _ hM.1 _ _ ⟨hTP.2.1, hset⟩) rfl (ma_goodc kc_Model_set) (B.2.2.2.1 _ k_2430) (B.2.2.2.1 _ k_2432) (B.2.2.2.1 _ ks_125) (B.2.2.2.1 _ k_12) ⟨by decide +kernel, by decide +kernel, by decide +kernel⟩ rfl d_Model_poke_68 rfl (Nat.le_of_ble_eq_true rfl) ⟨by decide, by decide⟩ ⟨by decide, by decide⟩ ⟨by decide, by decide⟩ (mv_noH hno _) (fun σ68 h68 => ?_)
            obtain ⟨h68, i68⟩ := h68
            refine mv_goto (pc := 71) (tgt := 83) B d_Model_poke_71 rfl ?_
            exact mv_vret (pc := 83) B hr d_Model_poke_83 (Nat.le_refl _) (Nat.le_refl _) ⟨rfl, by first | exact hF.tr h40.qf | exact hF.si (by decide) | exact hF.tr h68.qf | exact hF.tr (SM.qf (SM.m Fx.rf)), Or.inr ⟨by first | exact (h40.1 70 2 (by omega)).trans x18 | exact (congrFun (congrFun i68 70) 2).trans x18 | exact x18 | exact (mv_si_o _ _ (by omega)).trans x18, (y4.resolve_left (fun z => h7 z.1)).2⟩⟩
        · skip
          refine mv_aload_n (pc := 50) B d_Model_poke_50 rfl 0 rfl ?_
          refine mv_lload_n (pc := 51) B d_Model_poke_51 rfl 3 rfl ?_
          refine mv_l2i (pc := 52) B d_Model_poke_52 ?_
          refine mv_putI (pc := 53) (ci := 11) (C := R_Model) (T := F_Model) (N := 16) B 6 rfl rfl (by decide) i_Model t_Model_ok n_Model (B.2.2.2.1 _ k_2051) rfl rfl rfl rfl d_Model_poke_53 ?_
          refine mv_goto (pc := 56) (tgt := 83) B d_Model_poke_56 rfl ?_
          exact mv_vret (pc := 83) B hr d_Model_poke_83 (Nat.le_refl _) (Nat.le_refl _) ⟨rfl, by first | exact hF.tr h40.qf | exact hF.si (by decide) | exact hF.tr h68.qf | exact hF.tr (SM.qf (SM.m Fx.rf)), Or.inr ⟨by first | exact (h40.1 70 2 (by omega)).trans x18 | exact (congrFun (congrFun i68 70) 2).trans x18 | exact x18 | exact (mv_si_o _ _ (by omega)).trans x18, (y4.resolve_left (fun z => h7 z.1)).2⟩⟩
      · skip
        have hin := hTP.in hM h30
        refine mv_aload_n (pc := 33) B d_Model_poke_33 rfl 0 rfl ?_
        refine mv_getR (pc := 34) (ci := 11) (C := R_Model) (T := F_Model) (N := 16) B 9 rfl rfl (by decide) i_Model (B.2.2.2.1 _ k_2054) rfl hM.2.1 d_Model_poke_34 ?_
        refine mv_iload_n (pc := 37) B d_Model_poke_37 rfl 1 rfl ?_
        refine mv_iload_n (pc := 38) B d_Model_poke_38 rfl 2 rfl ?_
        refine mv_lload_n (pc := 39) B d_Model_poke_39 rfl 3 rfl ?_
        refine mv_callVv (pc := 40) (n := 3) (ci := 12) (C := R_Book) B (mK_ok sk sv) hNs rfl rfl (c_Book_poke_x l hi _ _ _ _ hM.1 hin.1.1 hin.1.2 hin.2) rfl (ma_goodc kc_Book_poke) (B.2.2.2.1 _ k_2423) (B.2.2.2.1 _ k_2424) (B.2.2.2.1 _ k_2425) (B.2.2.2.1 _ k_13) ⟨by decide +kernel, by decide +kernel, by decide +kernel⟩ rfl d_Model_poke_40 rfl (Nat.le_of_ble_eq_true rfl) ⟨by decide, by decide⟩ ⟨by decide, by decide⟩ ⟨by decide, by decide⟩ (mv_noH hno _) (fun σ40 h40 => ?_)
        refine mv_goto (pc := 43) (tgt := 83) B d_Model_poke_43 rfl ?_
        exact mv_vret (pc := 83) B hr d_Model_poke_83 (Nat.le_refl _) (Nat.le_refl _) ⟨rfl, by first | exact hF.tr h40.qf | exact hF.si (by decide) | exact hF.tr h68.qf | exact hF.tr (SM.qf (SM.m Fx.rf)), Or.inr ⟨by first | exact (h40.1 70 2 (by omega)).trans x18 | exact (congrFun (congrFun i68 70) 2).trans x18 | exact x18 | exact (mv_si_o _ _ (by omega)).trans x18, (y4.resolve_left (fun z => h7 z.1)).2⟩⟩
    · skip
      exact absurd (by rw [x18]; decide) h22
set_option maxHeartbeats 4000000 in
set_option maxRecDepth 100000 in
theorem c_kh_Model_poke_y (l : Launch) {dA : FieldType → ClassId} {D : va_G} {al : Nat → Nat} {ext : mv_Sh} {sk sv : Nat → Nat} (hi : mv_inj (mg dA D al ext)) (σ : mv_H) (hM : MI 108 74 σ) (t9 i9 : Int32) (w0 : Int64) : mv_C l y_Model_poke (Cond.code y_Model_poke b_Model_poke 5 (Option.none : Option Jvm.ClassFile.FieldType) :: ma) ({ frames := 2, cells := 0, slots := 0, locals := 46 }) (mg dA D al ext) (mK sk sv) [.ref (al 70), .int t9, .int i9, .long w0] σ (mv_Rv (fun σ1 => QF 108 σ σ1 ∧ ((mv_i σ1 70 2 = 1 ∧ ¬ THq 108 σ t9 i9) ∨ (mv_i σ1 70 2 = 0 ∧ THq 108 σ t9 i9)))) := by
  refine mv_C.ofV (cc := b_Model_poke) (nL := 5) (ret := (Option.none : Option Jvm.ClassFile.FieldType)) (by decide +kernel) rfl hi (Nat.le_of_ble_eq_true rfl) ?_
  intro p e s m below meth c B hNs hr hnm hno
  have hN : 108 = 74 ∨ 108 = 108 := by decide
  refine mv_aload_n (pc := 0) B d_Model_poke_0 rfl 0 rfl ?_
  refine mv_aload_n (pc := 1) B d_Model_poke_1 rfl 0 rfl ?_
  refine mv_iload_n (pc := 2) B d_Model_poke_2 rfl 1 rfl ?_
  refine mv_iload_n (pc := 3) B d_Model_poke_3 rfl 2 rfl ?_
  refine mv_callVi (pc := 4) (n := 2) (ci := 11) (C := R_Model) B (mK_ok sk sv) hNs rfl rfl (mv_C.twoi (c_Model_there_y l hi _ hM _ _) (c_kh_Model_there_y l hi _ hM _ _)) rfl (ma_goodc kc_Model_there) (B.2.2.2.1 _ k_2415) (B.2.2.2.1 _ k_2417) (B.2.2.2.1 _ ks_124) (B.2.2.2.1 _ k_12) ⟨by decide +kernel, by decide +kernel, by decide +kernel⟩ rfl d_Model_poke_4 rfl (Nat.le_of_ble_eq_true rfl) ⟨by decide, by decide⟩ ⟨by decide, by decide⟩ ⟨by decide, by decide⟩ (mv_noH hno _) (fun v4 σ4 h4 => ?_)
  obtain ⟨⟨e4, z4⟩, υ4, ⟨-, y4⟩, -⟩ := h4
  have e4 := e4.symm
  subst e4
  refine mv_if_eq (pc := 7) (tgt := 14) B d_Model_poke_7 rfl (fun h7 => ?_) (fun h7 => ?_)
  · skip
    refine mv_iconst (pc := 14) (v := 1) B d_Model_poke_14 (by decide) ?_
    refine mv_putI (pc := 15) (ci := 11) (C := R_Model) (T := F_Model) (N := 16) B 2 rfl rfl (by decide) i_Model t_Model_ok n_Model (B.2.2.2.1 _ k_2047) rfl rfl rfl rfl d_Model_poke_15 ?_
    refine mv_gen (fun S18 eS18 => ?_)
    have hF : QF 108 σ S18 := by rw [eS18]; exact QF.si Fx.rf (by decide)
    have hM := hM.qf hF hN
    first | have x18 : mv_i S18 70 2 = 0 := by rw [eS18, mv_si_s] | have x18 : mv_i S18 70 2 = 1 := by rw [eS18, mv_si_s]
    try have hTP : TP9 108 S18 t9 i9 := (z4.resolve_left h7).2.th eS18 hN
    clear eS18
    refine mv_aload_n (pc := 18) B d_Model_poke_18 rfl 0 rfl ?_
    refine mv_getI (pc := 19) (ci := 11) (C := R_Model) (T := F_Model) (N := 16) B 2 rfl rfl (by decide) i_Model (B.2.2.2.1 _ k_2047) rfl d_Model_poke_19 ?_
    refine mv_if_le (pc := 22) (tgt := 26) B d_Model_poke_22 rfl (fun h22 => ?_) (fun h22 => ?_)
    · skip
      exact absurd h22 (by rw [x18]; decide)
    · skip
      exact mv_vret (pc := 25) B hr d_Model_poke_25 (Nat.le_refl _) (Nat.le_refl _) ⟨rfl, hF, Or.inl ⟨x18, (y4.resolve_right (fun z => by rw [h7] at z; exact absurd z.1 (by decide))).2⟩⟩
  · skip
    refine mv_iconst (pc := 10) (v := 0) B d_Model_poke_10 (by decide) ?_
    refine mv_goto (pc := 11) (tgt := 15) B d_Model_poke_11 rfl ?_
    refine mv_putI (pc := 15) (ci := 11) (C := R_Model) (T := F_Model) (N := 16) B 2 rfl rfl (by decide) i_Model t_Model_ok n_Model (B.2.2.2.1 _ k_2047) rfl rfl rfl rfl d_Model_poke_15 ?_
    refine mv_gen (fun S18 eS18 => ?_)
    have hF : QF 108 σ S18 := by rw [eS18]; exact QF.si Fx.rf (by decide)
    have hM := hM.qf hF hN
    first | have x18 : mv_i S18 70 2 = 0 := by rw [eS18, mv_si_s] | have x18 : mv_i S18 70 2 = 1 := by rw [eS18, mv_si_s]
    try have hTP : TP9 108 S18 t9 i9 := (z4.resolve_left h7).2.th eS18 hN
    clear eS18
    refine mv_aload_n (pc := 18) B d_Model_poke_18 rfl 0 rfl ?_
    refine mv_getI (pc := 19) (ci := 11) (C := R_Model) (T := F_Model) (N := 16) B 2 rfl rfl (by decide) i_Model (B.2.2.2.1 _ k_2047) rfl d_Model_poke_19 ?_
    refine mv_if_le (pc := 22) (tgt := 26) B d_Model_poke_22 rfl (fun h22 => ?_) (fun h22 => ?_)
    · skip
      refine mv_aload_n (pc := 26) B d_Model_poke_26 rfl 0 rfl ?_
      refine mv_getI (pc := 27) (ci := 11) (C := R_Model) (T := F_Model) (N := 16) B 11 rfl rfl (by decide) i_Model (B.2.2.2.1 _ k_2056) rfl d_Model_poke_27 ?_
      refine mv_if_ne (pc := 30) (tgt := 46) B d_Model_poke_30 rfl (fun h30 => ?_) (fun h30 => ?_)
      · skip
        have hsh := (hTP.2.2.resolve_right (fun z => h30 z.1)).2
        refine mv_iload_n (pc := 46) B d_Model_poke_46 rfl 1 rfl ?_
        refine mv_if_ne (pc := 47) (tgt := 59) B d_Model_poke_47 rfl (fun h47 => ?_) (fun h47 => ?_)
        · skip
          refine mv_iload_n (pc := 59) B d_Model_poke_59 rfl 1 rfl ?_
          refine mv_iconst (pc := 60) (v := 1) B d_Model_poke_60 (by decide) ?_
          refine mv_icmp_ne (pc := 61) (tgt := 74) B d_Model_poke_61 rfl (fun h61 => ?_) (fun h61 => ?_)
          · skip
            have hb : i9.toInt < 32768 := by
              rcases hsh with z | z | z
              · exact absurd z.1 h47
              · exact absurd z.1 h61
              · exact z.2.2
            refine mv_aload_n (pc := 74) B d_Model_poke_74 rfl 0 rfl ?_
            refine mv_getR (pc := 75) (ci := 11) (C := R_Model) (T := F_Model) (N := 16) B 8 rfl rfl (by decide) i_Model (B.2.2.2.1 _ k_2053) rfl (hM.1 _ 8 _ rfl) d_Model_poke_75 ?_
            refine mv_iload_n (pc := 78) B d_Model_poke_78 rfl 2 rfl ?_
            refine mv_lload_n (pc := 79) B d_Model_poke_79 rfl 3 rfl ?_
            refine mv_l2i (pc := 80) B d_Model_poke_80 ?_
            refine mv_i2b (pc := 81) B d_Model_poke_81 ?_
            refine mv_bast (pc := 82) B rfl (i32_in hTP.2.1 hb) d_Model_poke_82 ?_
            exact mv_vret (pc := 83) B hr d_Model_poke_83 (Nat.le_refl _) (Nat.le_refl _) ⟨rfl, by first | exact hF.tr h40.qf | exact hF.si (by decide) | exact hF.tr h68.qf | exact hF.tr (SM.qf (SM.m Fx.rf)), Or.inr ⟨by first | exact (h40.1 70 2 (by omega)).trans x18 | exact (congrFun (congrFun i68 70) 2).trans x18 | exact x18 | exact (mv_si_o _ _ (by omega)).trans x18, (y4.resolve_left (fun z => h7 z.1)).2⟩⟩
          · skip
            have hset : i9.toInt < 32 := by
              rcases hsh with z | z | z
              · exact absurd z.1 h47
              · exact z.2
              · exact absurd h61 z.2.1
            refine mv_aload_n (pc := 64) B d_Model_poke_64 rfl 0 rfl ?_
            refine mv_iload_n (pc := 65) B d_Model_poke_65 rfl 2 rfl ?_
            refine mv_lload_n (pc := 66) B d_Model_poke_66 rfl 3 rfl ?_
            refine mv_l2i (pc := 67) B d_Model_poke_67 ?_
            refine mv_callVv (pc := 68) (n := 2) (ci := 11) (C := R_Model) B (mK_ok sk sv) hNs rfl rfl (c_kh_Model_set l hi _ hM.1 _ _ ⟨hTP.2.1, hset⟩) rfl (ma_goodc kc_Model_set) (B.2.2.2.1 _ k_2430) (B.2.2.2.1 _ k_2432) (B.2.2.2.1 _ ks_125) (B.2.2.2.1 _ k_12) ⟨by decide +kernel, by decide +kernel, by decide +kernel⟩ rfl d_Model_poke_68 rfl (Nat.le_of_ble_eq_true rfl) ⟨by decide, by decide⟩ ⟨by decide, by decide⟩ ⟨by decide, by decide⟩ (mv_noH hno _) (fun σ68 h68 => ?_)
            obtain ⟨h68, i68⟩ := h68
            refine mv_goto (pc := 71) (tgt := 83) B d_Model_poke_71 rfl ?_
            exact mv_vret (pc := 83) B hr d_Model_poke_83 (Nat.le_refl _) (Nat.le_refl _) ⟨rfl, by first | exact hF.tr h40.qf | exact hF.si (by decide) | exact hF.tr h68.qf | exact hF.tr (SM.qf (SM.m Fx.rf)), Or.inr ⟨by first | exact (h40.1 70 2 (by omega)).trans x18 | exact (congrFun (congrFun i68 70) 2).trans x18 | exact x18 | exact (mv_si_o _ _ (by omega)).trans x18, (y4.resolve_left (fun z => h7 z.1)).2⟩⟩
        · skip
          refine mv_aload_n (pc := 50) B d_Model_poke_50 rfl 0 rfl ?_
          refine mv_lload_n (pc := 51) B d_Model_poke_51 rfl 3 rfl ?_
          refine mv_l2i (pc := 52) B d_Model_poke_52 ?_
          refine mv_putI (pc := 53) (ci := 11) (C := R_Model) (T := F_Model) (N := 16) B 6 rfl rfl (by decide) i_Model t_Model_ok n_Model (B.2.2.2.1 _ k_2051) rfl rfl rfl rfl d_Model_poke_53 ?_
          refine mv_goto (pc := 56) (tgt := 83) B d_Model_poke_56 rfl ?_
          exact mv_vret (pc := 83) B hr d_Model_poke_83 (Nat.le_refl _) (Nat.le_refl _) ⟨rfl, by first | exact hF.tr h40.qf | exact hF.si (by decide) | exact hF.tr h68.qf | exact hF.tr (SM.qf (SM.m Fx.rf)), Or.inr ⟨by first | exact (h40.1 70 2 (by omega)).trans x18 | exact (congrFun (congrFun i68 70) 2).trans x18 | exact x18 | exact (mv_si_o _ _ (by omega)).trans x18, (y4.resolve_left (fun z => h7 z.1)).2⟩⟩
      · skip
        have hin := hTP.in hM h30
        refine mv_aload_n (pc := 33) B d_Model_poke_33 rfl 0 rfl ?_
        refine mv_getR (pc := 34) (ci := 11) (C := R_Model) (T := F_Model) (N := 16) B 9 rfl rfl (by decide) i_Model (B.2.2.2.1 _ k_2054) rfl hM.2.1 d_Model_poke_34 ?_
        refine mv_iload_n (pc := 37) B d_Model_poke_37 rfl 1 rfl ?_
        refine mv_iload_n (pc := 38) B d_Model_poke_38 rfl 2 rfl ?_
        refine mv_lload_n (pc := 39) B d_Model_poke_39 rfl 3 rfl ?_
        refine mv_callVv (pc := 40) (n := 3) (ci := 12) (C := R_Book) B (mK_ok sk sv) hNs rfl rfl (c_Book_poke_y l hi _ _ _ _ hM.1 hin.1.1 hin.1.2 hin.2) rfl (ma_goodc kc_Book_poke) (B.2.2.2.1 _ k_2423) (B.2.2.2.1 _ k_2424) (B.2.2.2.1 _ k_2425) (B.2.2.2.1 _ k_13) ⟨by decide +kernel, by decide +kernel, by decide +kernel⟩ rfl d_Model_poke_40 rfl (Nat.le_of_ble_eq_true rfl) ⟨by decide, by decide⟩ ⟨by decide, by decide⟩ ⟨by decide, by decide⟩ (mv_noH hno _) (fun σ40 h40 => ?_)
        refine mv_goto (pc := 43) (tgt := 83) B d_Model_poke_43 rfl ?_
        exact mv_vret (pc := 83) B hr d_Model_poke_83 (Nat.le_refl _) (Nat.le_refl _) ⟨rfl, by first | exact hF.tr h40.qf | exact hF.si (by decide) | exact hF.tr h68.qf | exact hF.tr (SM.qf (SM.m Fx.rf)), Or.inr ⟨by first | exact (h40.1 70 2 (by omega)).trans x18 | exact (congrFun (congrFun i68 70) 2).trans x18 | exact x18 | exact (mv_si_o _ _ (by omega)).trans x18, (y4.resolve_left (fun z => h7 z.1)).2⟩⟩
    · skip
      exact absurd (by rw [x18]; decide) h22
