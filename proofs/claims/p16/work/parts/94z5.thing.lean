/-! thing, exactly -/
def WHq (w : Int32) : Prop := w = 0 ∨ w = 1
theorem wh_of {w : Int32} (h1 : ¬ w < 0) (h2 : w ≤ 1) : WHq w := by
  have a : ¬ w.toInt < 0 := fun z => h1 (Int32.lt_iff_toInt_lt.mpr z)
  have b : w.toInt ≤ 1 := Int32.le_iff_toInt_le.mp h2
  rcases (show w.toInt = 0 ∨ w.toInt = 1 by omega) with z | z
  · exact Or.inl (Int32.toInt_inj.mp z)
  · exact Or.inr (Int32.toInt_inj.mp z)
theorem wh_no1 {w : Int32} (h : w < 0) : ¬ WHq w := fun q => by
  rcases q with q | q <;> subst q <;> exact absurd h (by decide)
theorem wh_no2 {w : Int32} (h : ¬ w ≤ 1) : ¬ WHq w := fun q => by
  rcases q with q | q <;> subst q <;> exact absurd (by decide) h
/-- what thing tells: the class, the reference -/
def tgC (r1 r2 : Nat → Int32) (t w : Int32) : Int32 := if w = 0 then r1 t.toNatClampNeg else r2 t.toNatClampNeg
def tgR (B : Nat) (σ : mv_H) (t w : Int32) : Int32 := if mv_i σ 70 11 = 0 then (if w = 0 then mv_a σ (B + 3) t.toNatClampNeg else thN B σ t) else (if w = 0 then (if t = 2 then 8 else 32) else thN B σ t)

set_option maxHeartbeats 4000000 in
set_option maxRecDepth 100000 in
theorem c_kt_Loom_thing_a (l : Launch) {dA : FieldType → ClassId} {D : va_G} {al : Nat → Nat} {ext : mv_Sh} {sk sv : Nat → Nat} (hi : mv_inj (mg dA D al ext)) (σ : mv_H) (hlt : l.stackTraces = false) (t9 i9 : Int32) (k9 : Nat) (hC : LC ext σ 32 32768 512 k9) : mv_C l y_Loom_thing (Cond.code y_Loom_thing b_Loom_thing 4 (Option.some Jvm.ClassFile.FieldType.int) :: ma) ({ frames := 6, cells := 1, slots := 6, locals := 81 }) (mg dA D al ext) (mKt sk sv) [.ref (al 0), .int t9, .int i9] σ (mv_Ti (fun v σ1 => σ1 = σ ∧ WHq i9 ∧ (0 ≤ t9.toInt ∧ t9.toInt < (mv_i σ 32 1).toInt) ∧ v = tgC (mv_a σ 33) (mv_a σ 34) t9 i9) (fun X σ1 => σ1 = σ ∧ ((X = "java/lang/IllegalArgumentException" ∧ ¬ WHq i9) ∨ (X = "java/util/NoSuchElementException" ∧ WHq i9 ∧ ¬ (0 ≤ t9.toInt ∧ t9.toInt < (mv_i σ 32 1).toInt))))) := by
  refine mv_C.ofV (cc := b_Loom_thing) (nL := 4) (ret := (Option.some Jvm.ClassFile.FieldType.int)) (by decide +kernel) rfl hi (Nat.le_of_ble_eq_true rfl) ?_
  intro p e s m below meth c B hNs hr hnm hno
  obtain ⟨hPP, hI, hR, hW, ⟨th, sl, hO, ho0, ho1, ho2⟩, hLS⟩ := hC
  obtain ⟨hT1, hT2, hT3, hT4, hT5, hT6, hT7, hT8⟩ := hO.1
  refine mv_iload_n (pc := 0) B d_Loom_thing_0 rfl 2 rfl ?_
  refine mv_if_eq (pc := 1) (tgt := 17) B d_Loom_thing_1 rfl (fun h1 => ?_) (fun h1 => ?_)
  · skip
    have hw : WHq i9 := Or.inl h1
    refine mv_aload_n (pc := 17) B d_Loom_thing_17 rfl 0 rfl ?_
    refine mv_getR (pc := 18) (ci := 0) (C := R_Loom) (T := F_Loom) (N := 10) B 9 rfl rfl (by decide) i_Loom (B.2.2.2.1 _ k_495) rfl (hR.1 _ 9 _ rfl) d_Loom_thing_18 ?_
    refine mv_getR (pc := 21) (ci := 9) (C := R_Machine) (T := F_Machine) (N := 13) B 0 rfl rfl (by decide) i_Machine (B.2.2.2.1 _ k_441) rfl hR.2.2 d_Loom_thing_21 ?_
    refine mv_astore_n (pc := 24) B d_Loom_thing_24 rfl (by decide) rfl ?_
    refine mv_iload_n (pc := 25) B d_Loom_thing_25 rfl 2 rfl ?_
    refine mv_if_lt (pc := 26) (tgt := 37) B d_Loom_thing_26 rfl (fun h26 => ?_) (fun h26 => ?_)
    · skip
      have h26 : t9.toInt < 0 := Int32.lt_iff_toInt_lt.mp h26
      exact mv_throw0 (pc := 37) (ik := 131) (ic := 133) B hlt hNs.2.1 (X := "java/util/NoSuchElementException") (by decide +kernel) (B.2.2.2.1 _ k_1751) (B.2.2.2.1 _ k_36) (B.2.2.2.1 _ k_1752) rfl (fun s9 hv9 a9 b9 c9 d9 => have hm9 := mt_ma B.2.2.2.1 hv9; mt_w_nse hm9 (hm9 _ k_1760) a9 b9 c9 d9) d_Loom_thing_37 d_Loom_thing_40 d_Loom_thing_41 d_Loom_thing_44 (mv_noH hno _) ⟨by decide, by decide⟩ ⟨by decide, by decide⟩ ⟨by decide, by decide⟩ (fun a9 => Or.inr ⟨_, a9, rfl, rfl, Or.inr ⟨rfl, hw, fun q => by first | exact absurd q.1 (by omega) | exact h34 q.2⟩⟩)
    · skip
      refine mv_iload_n (pc := 29) B d_Loom_thing_29 rfl 2 rfl ?_
      refine mv_aload_n (pc := 30) B d_Loom_thing_30 rfl 0 rfl ?_
      refine mv_getI (pc := 31) (ci := 7) (C := R_Program) (T := F_Program) (N := 19) B 1 rfl rfl (by decide) i_Program (B.2.2.2.1 _ k_317) rfl d_Loom_thing_31 ?_
      refine mv_icmp_lt (pc := 34) (tgt := 45) B d_Loom_thing_34 rfl (fun h34 => ?_) (fun h34 => ?_)
      · skip
        have z1 := Int32.lt_iff_toInt_lt.mp h34
        have z2 : ¬ t9.toInt < 0 := fun z => h26 (Int32.lt_iff_toInt_lt.mpr (by simpa using z))
        refine mv_iload_n (pc := 45) B d_Loom_thing_45 rfl 3 rfl ?_
        refine mv_if_ne (pc := 46) (tgt := 58) B d_Loom_thing_46 rfl (fun h46 => ?_) (fun h46 => ?_)
        · skip
          refine mv_aload_n (pc := 58) B d_Loom_thing_58 rfl 0 rfl ?_
          refine mv_getR (pc := 59) (ci := 7) (C := R_Program) (T := F_Program) (N := 19) B 3 rfl rfl (by decide) i_Program (B.2.2.2.1 _ k_325) rfl (hR.2.1 _ 3 34 rfl) d_Loom_thing_59 ?_
          refine mv_iload_n (pc := 62) B d_Loom_thing_62 rfl 2 rfl ?_
          refine mv_iald (pc := 63) B rfl (i32_in (show 0 ≤ t9.toInt by omega) (show t9.toInt < 64 by omega)) d_Loom_thing_63 ?_
          exact mv_iret (pc := 64) B hr rfl d_Loom_thing_64 (Nat.le_of_ble_eq_true rfl) (Nat.le_of_ble_eq_true rfl) (Or.inl ⟨_, rfl, rfl, hw, ⟨by omega, z1⟩, by unfold tgC; first | rw [if_pos h46] | rw [if_neg h46]⟩)
        · skip
          refine mv_aload_n (pc := 49) B d_Loom_thing_49 rfl 0 rfl ?_
          refine mv_getR (pc := 50) (ci := 7) (C := R_Program) (T := F_Program) (N := 19) B 2 rfl rfl (by decide) i_Program (B.2.2.2.1 _ k_322) rfl (hR.2.1 _ 2 33 rfl) d_Loom_thing_50 ?_
          refine mv_iload_n (pc := 53) B d_Loom_thing_53 rfl 2 rfl ?_
          refine mv_iald (pc := 54) B rfl (i32_in (show 0 ≤ t9.toInt by omega) (show t9.toInt < 64 by omega)) d_Loom_thing_54 ?_
          refine mv_goto (pc := 55) (tgt := 64) B d_Loom_thing_55 rfl ?_
          exact mv_iret (pc := 64) B hr rfl d_Loom_thing_64 (Nat.le_of_ble_eq_true rfl) (Nat.le_of_ble_eq_true rfl) (Or.inl ⟨_, rfl, rfl, hw, ⟨by omega, z1⟩, by unfold tgC; first | rw [if_pos h46] | rw [if_neg h46]⟩)
      · skip
        have h34 : ¬ t9.toInt < (mv_i σ 32 1).toInt := fun z => h34 (Int32.lt_iff_toInt_lt.mpr z)
        exact mv_throw0 (pc := 37) (ik := 131) (ic := 133) B hlt hNs.2.1 (X := "java/util/NoSuchElementException") (by decide +kernel) (B.2.2.2.1 _ k_1751) (B.2.2.2.1 _ k_36) (B.2.2.2.1 _ k_1752) rfl (fun s9 hv9 a9 b9 c9 d9 => have hm9 := mt_ma B.2.2.2.1 hv9; mt_w_nse hm9 (hm9 _ k_1760) a9 b9 c9 d9) d_Loom_thing_37 d_Loom_thing_40 d_Loom_thing_41 d_Loom_thing_44 (mv_noH hno _) ⟨by decide, by decide⟩ ⟨by decide, by decide⟩ ⟨by decide, by decide⟩ (fun a9 => Or.inr ⟨_, a9, rfl, rfl, Or.inr ⟨rfl, hw, fun q => by first | exact absurd q.1 (by omega) | exact h34 q.2⟩⟩)
  · skip
    refine mv_iload_n (pc := 4) B d_Loom_thing_4 rfl 2 rfl ?_
    refine mv_iconst (pc := 5) (v := 1) B d_Loom_thing_5 (by decide) ?_
    refine mv_icmp_eq (pc := 6) (tgt := 17) B d_Loom_thing_6 rfl (fun h6 => ?_) (fun h6 => ?_)
    · skip
      have hw : WHq i9 := Or.inr h6
      refine mv_aload_n (pc := 17) B d_Loom_thing_17 rfl 0 rfl ?_
      refine mv_getR (pc := 18) (ci := 0) (C := R_Loom) (T := F_Loom) (N := 10) B 9 rfl rfl (by decide) i_Loom (B.2.2.2.1 _ k_495) rfl (hR.1 _ 9 _ rfl) d_Loom_thing_18 ?_
      refine mv_getR (pc := 21) (ci := 9) (C := R_Machine) (T := F_Machine) (N := 13) B 0 rfl rfl (by decide) i_Machine (B.2.2.2.1 _ k_441) rfl hR.2.2 d_Loom_thing_21 ?_
      refine mv_astore_n (pc := 24) B d_Loom_thing_24 rfl (by decide) rfl ?_
      refine mv_iload_n (pc := 25) B d_Loom_thing_25 rfl 2 rfl ?_
      refine mv_if_lt (pc := 26) (tgt := 37) B d_Loom_thing_26 rfl (fun h26 => ?_) (fun h26 => ?_)
      · skip
        have h26 : t9.toInt < 0 := Int32.lt_iff_toInt_lt.mp h26
        exact mv_throw0 (pc := 37) (ik := 131) (ic := 133) B hlt hNs.2.1 (X := "java/util/NoSuchElementException") (by decide +kernel) (B.2.2.2.1 _ k_1751) (B.2.2.2.1 _ k_36) (B.2.2.2.1 _ k_1752) rfl (fun s9 hv9 a9 b9 c9 d9 => have hm9 := mt_ma B.2.2.2.1 hv9; mt_w_nse hm9 (hm9 _ k_1760) a9 b9 c9 d9) d_Loom_thing_37 d_Loom_thing_40 d_Loom_thing_41 d_Loom_thing_44 (mv_noH hno _) ⟨by decide, by decide⟩ ⟨by decide, by decide⟩ ⟨by decide, by decide⟩ (fun a9 => Or.inr ⟨_, a9, rfl, rfl, Or.inr ⟨rfl, hw, fun q => by first | exact absurd q.1 (by omega) | exact h34 q.2⟩⟩)
      · skip
        refine mv_iload_n (pc := 29) B d_Loom_thing_29 rfl 2 rfl ?_
        refine mv_aload_n (pc := 30) B d_Loom_thing_30 rfl 0 rfl ?_
        refine mv_getI (pc := 31) (ci := 7) (C := R_Program) (T := F_Program) (N := 19) B 1 rfl rfl (by decide) i_Program (B.2.2.2.1 _ k_317) rfl d_Loom_thing_31 ?_
        refine mv_icmp_lt (pc := 34) (tgt := 45) B d_Loom_thing_34 rfl (fun h34 => ?_) (fun h34 => ?_)
        · skip
          have z1 := Int32.lt_iff_toInt_lt.mp h34
          have z2 : ¬ t9.toInt < 0 := fun z => h26 (Int32.lt_iff_toInt_lt.mpr (by simpa using z))
          refine mv_iload_n (pc := 45) B d_Loom_thing_45 rfl 3 rfl ?_
          refine mv_if_ne (pc := 46) (tgt := 58) B d_Loom_thing_46 rfl (fun h46 => ?_) (fun h46 => ?_)
          · skip
            refine mv_aload_n (pc := 58) B d_Loom_thing_58 rfl 0 rfl ?_
            refine mv_getR (pc := 59) (ci := 7) (C := R_Program) (T := F_Program) (N := 19) B 3 rfl rfl (by decide) i_Program (B.2.2.2.1 _ k_325) rfl (hR.2.1 _ 3 34 rfl) d_Loom_thing_59 ?_
            refine mv_iload_n (pc := 62) B d_Loom_thing_62 rfl 2 rfl ?_
            refine mv_iald (pc := 63) B rfl (i32_in (show 0 ≤ t9.toInt by omega) (show t9.toInt < 64 by omega)) d_Loom_thing_63 ?_
            exact mv_iret (pc := 64) B hr rfl d_Loom_thing_64 (Nat.le_of_ble_eq_true rfl) (Nat.le_of_ble_eq_true rfl) (Or.inl ⟨_, rfl, rfl, hw, ⟨by omega, z1⟩, by unfold tgC; first | rw [if_pos h46] | rw [if_neg h46]⟩)
          · skip
            refine mv_aload_n (pc := 49) B d_Loom_thing_49 rfl 0 rfl ?_
            refine mv_getR (pc := 50) (ci := 7) (C := R_Program) (T := F_Program) (N := 19) B 2 rfl rfl (by decide) i_Program (B.2.2.2.1 _ k_322) rfl (hR.2.1 _ 2 33 rfl) d_Loom_thing_50 ?_
            refine mv_iload_n (pc := 53) B d_Loom_thing_53 rfl 2 rfl ?_
            refine mv_iald (pc := 54) B rfl (i32_in (show 0 ≤ t9.toInt by omega) (show t9.toInt < 64 by omega)) d_Loom_thing_54 ?_
            refine mv_goto (pc := 55) (tgt := 64) B d_Loom_thing_55 rfl ?_
            exact mv_iret (pc := 64) B hr rfl d_Loom_thing_64 (Nat.le_of_ble_eq_true rfl) (Nat.le_of_ble_eq_true rfl) (Or.inl ⟨_, rfl, rfl, hw, ⟨by omega, z1⟩, by unfold tgC; first | rw [if_pos h46] | rw [if_neg h46]⟩)
        · skip
          have h34 : ¬ t9.toInt < (mv_i σ 32 1).toInt := fun z => h34 (Int32.lt_iff_toInt_lt.mpr z)
          exact mv_throw0 (pc := 37) (ik := 131) (ic := 133) B hlt hNs.2.1 (X := "java/util/NoSuchElementException") (by decide +kernel) (B.2.2.2.1 _ k_1751) (B.2.2.2.1 _ k_36) (B.2.2.2.1 _ k_1752) rfl (fun s9 hv9 a9 b9 c9 d9 => have hm9 := mt_ma B.2.2.2.1 hv9; mt_w_nse hm9 (hm9 _ k_1760) a9 b9 c9 d9) d_Loom_thing_37 d_Loom_thing_40 d_Loom_thing_41 d_Loom_thing_44 (mv_noH hno _) ⟨by decide, by decide⟩ ⟨by decide, by decide⟩ ⟨by decide, by decide⟩ (fun a9 => Or.inr ⟨_, a9, rfl, rfl, Or.inr ⟨rfl, hw, fun q => by first | exact absurd q.1 (by omega) | exact h34 q.2⟩⟩)
    · skip
      exact mv_throw0 (pc := 9) (ik := 71) (ic := 73) B hlt hNs.2.1 (X := "java/lang/IllegalArgumentException") (by decide +kernel) (B.2.2.2.1 _ k_1704) (B.2.2.2.1 _ k_19) (B.2.2.2.1 _ k_955) rfl (fun s9 hv9 a9 b9 c9 d9 => have hm9 := mt_ma B.2.2.2.1 hv9; mt_w_iae hm9 (hm9 _ k_1705) a9 b9 c9 d9) d_Loom_thing_9 d_Loom_thing_12 d_Loom_thing_13 d_Loom_thing_16 (mv_noH hno _) ⟨by decide, by decide⟩ ⟨by decide, by decide⟩ ⟨by decide, by decide⟩ (fun a9 => Or.inr ⟨_, a9, rfl, rfl, Or.inl ⟨rfl, fun q => q.elim h1 h6⟩⟩)
set_option maxHeartbeats 4000000 in
set_option maxRecDepth 100000 in
theorem c_kt_Loom_thing_b (l : Launch) {dA : FieldType → ClassId} {D : va_G} {al : Nat → Nat} {ext : mv_Sh} {sk sv : Nat → Nat} (hi : mv_inj (mg dA D al ext)) (σ : mv_H) (hlt : l.stackTraces = false) (t9 i9 : Int32) (k9 : Nat) (hC : LC ext σ 48 32768 512 k9) : mv_C l y_Loom_thing (Cond.code y_Loom_thing b_Loom_thing 4 (Option.some Jvm.ClassFile.FieldType.int) :: ma) ({ frames := 6, cells := 1, slots := 6, locals := 81 }) (mg dA D al ext) (mKt sk sv) [.ref (al 0), .int t9, .int i9] σ (mv_Ti (fun v σ1 => σ1 = σ ∧ WHq i9 ∧ (0 ≤ t9.toInt ∧ t9.toInt < (mv_i σ 48 1).toInt) ∧ v = tgC (mv_a σ 49) (mv_a σ 50) t9 i9) (fun X σ1 => σ1 = σ ∧ ((X = "java/lang/IllegalArgumentException" ∧ ¬ WHq i9) ∨ (X = "java/util/NoSuchElementException" ∧ WHq i9 ∧ ¬ (0 ≤ t9.toInt ∧ t9.toInt < (mv_i σ 48 1).toInt))))) := by
  refine mv_C.ofV (cc := b_Loom_thing) (nL := 4) (ret := (Option.some Jvm.ClassFile.FieldType.int)) (by decide +kernel) rfl hi (Nat.le_of_ble_eq_true rfl) ?_
  intro p e s m below meth c B hNs hr hnm hno
  obtain ⟨hPP, hI, hR, hW, ⟨th, sl, hO, ho0, ho1, ho2⟩, hLS⟩ := hC
  obtain ⟨hT1, hT2, hT3, hT4, hT5, hT6, hT7, hT8⟩ := hO.1
  refine mv_iload_n (pc := 0) B d_Loom_thing_0 rfl 2 rfl ?_
  refine mv_if_eq (pc := 1) (tgt := 17) B d_Loom_thing_1 rfl (fun h1 => ?_) (fun h1 => ?_)
  · skip
    have hw : WHq i9 := Or.inl h1
    refine mv_aload_n (pc := 17) B d_Loom_thing_17 rfl 0 rfl ?_
    refine mv_getR (pc := 18) (ci := 0) (C := R_Loom) (T := F_Loom) (N := 10) B 9 rfl rfl (by decide) i_Loom (B.2.2.2.1 _ k_495) rfl (hR.1 _ 9 _ rfl) d_Loom_thing_18 ?_
    refine mv_getR (pc := 21) (ci := 9) (C := R_Machine) (T := F_Machine) (N := 13) B 0 rfl rfl (by decide) i_Machine (B.2.2.2.1 _ k_441) rfl hR.2.2 d_Loom_thing_21 ?_
    refine mv_astore_n (pc := 24) B d_Loom_thing_24 rfl (by decide) rfl ?_
    refine mv_iload_n (pc := 25) B d_Loom_thing_25 rfl 2 rfl ?_
    refine mv_if_lt (pc := 26) (tgt := 37) B d_Loom_thing_26 rfl (fun h26 => ?_) (fun h26 => ?_)
    · skip
      have h26 : t9.toInt < 0 := Int32.lt_iff_toInt_lt.mp h26
      exact mv_throw0 (pc := 37) (ik := 131) (ic := 133) B hlt hNs.2.1 (X := "java/util/NoSuchElementException") (by decide +kernel) (B.2.2.2.1 _ k_1751) (B.2.2.2.1 _ k_36) (B.2.2.2.1 _ k_1752) rfl (fun s9 hv9 a9 b9 c9 d9 => have hm9 := mt_ma B.2.2.2.1 hv9; mt_w_nse hm9 (hm9 _ k_1760) a9 b9 c9 d9) d_Loom_thing_37 d_Loom_thing_40 d_Loom_thing_41 d_Loom_thing_44 (mv_noH hno _) ⟨by decide, by decide⟩ ⟨by decide, by decide⟩ ⟨by decide, by decide⟩ (fun a9 => Or.inr ⟨_, a9, rfl, rfl, Or.inr ⟨rfl, hw, fun q => by first | exact absurd q.1 (by omega) | exact h34 q.2⟩⟩)
    · skip
      refine mv_iload_n (pc := 29) B d_Loom_thing_29 rfl 2 rfl ?_
      refine mv_aload_n (pc := 30) B d_Loom_thing_30 rfl 0 rfl ?_
      refine mv_getI (pc := 31) (ci := 7) (C := R_Program) (T := F_Program) (N := 19) B 1 rfl rfl (by decide) i_Program (B.2.2.2.1 _ k_317) rfl d_Loom_thing_31 ?_
      refine mv_icmp_lt (pc := 34) (tgt := 45) B d_Loom_thing_34 rfl (fun h34 => ?_) (fun h34 => ?_)
      · skip
        have z1 := Int32.lt_iff_toInt_lt.mp h34
        have z2 : ¬ t9.toInt < 0 := fun z => h26 (Int32.lt_iff_toInt_lt.mpr (by simpa using z))
        refine mv_iload_n (pc := 45) B d_Loom_thing_45 rfl 3 rfl ?_
        refine mv_if_ne (pc := 46) (tgt := 58) B d_Loom_thing_46 rfl (fun h46 => ?_) (fun h46 => ?_)
        · skip
          refine mv_aload_n (pc := 58) B d_Loom_thing_58 rfl 0 rfl ?_
          refine mv_getR (pc := 59) (ci := 7) (C := R_Program) (T := F_Program) (N := 19) B 3 rfl rfl (by decide) i_Program (B.2.2.2.1 _ k_325) rfl (hR.2.1 _ 3 50 rfl) d_Loom_thing_59 ?_
          refine mv_iload_n (pc := 62) B d_Loom_thing_62 rfl 2 rfl ?_
          refine mv_iald (pc := 63) B rfl (i32_in (show 0 ≤ t9.toInt by omega) (show t9.toInt < 64 by omega)) d_Loom_thing_63 ?_
          exact mv_iret (pc := 64) B hr rfl d_Loom_thing_64 (Nat.le_of_ble_eq_true rfl) (Nat.le_of_ble_eq_true rfl) (Or.inl ⟨_, rfl, rfl, hw, ⟨by omega, z1⟩, by unfold tgC; first | rw [if_pos h46] | rw [if_neg h46]⟩)
        · skip
          refine mv_aload_n (pc := 49) B d_Loom_thing_49 rfl 0 rfl ?_
          refine mv_getR (pc := 50) (ci := 7) (C := R_Program) (T := F_Program) (N := 19) B 2 rfl rfl (by decide) i_Program (B.2.2.2.1 _ k_322) rfl (hR.2.1 _ 2 49 rfl) d_Loom_thing_50 ?_
          refine mv_iload_n (pc := 53) B d_Loom_thing_53 rfl 2 rfl ?_
          refine mv_iald (pc := 54) B rfl (i32_in (show 0 ≤ t9.toInt by omega) (show t9.toInt < 64 by omega)) d_Loom_thing_54 ?_
          refine mv_goto (pc := 55) (tgt := 64) B d_Loom_thing_55 rfl ?_
          exact mv_iret (pc := 64) B hr rfl d_Loom_thing_64 (Nat.le_of_ble_eq_true rfl) (Nat.le_of_ble_eq_true rfl) (Or.inl ⟨_, rfl, rfl, hw, ⟨by omega, z1⟩, by unfold tgC; first | rw [if_pos h46] | rw [if_neg h46]⟩)
      · skip
        have h34 : ¬ t9.toInt < (mv_i σ 48 1).toInt := fun z => h34 (Int32.lt_iff_toInt_lt.mpr z)
        exact mv_throw0 (pc := 37) (ik := 131) (ic := 133) B hlt hNs.2.1 (X := "java/util/NoSuchElementException") (by decide +kernel) (B.2.2.2.1 _ k_1751) (B.2.2.2.1 _ k_36) (B.2.2.2.1 _ k_1752) rfl (fun s9 hv9 a9 b9 c9 d9 => have hm9 := mt_ma B.2.2.2.1 hv9; mt_w_nse hm9 (hm9 _ k_1760) a9 b9 c9 d9) d_Loom_thing_37 d_Loom_thing_40 d_Loom_thing_41 d_Loom_thing_44 (mv_noH hno _) ⟨by decide, by decide⟩ ⟨by decide, by decide⟩ ⟨by decide, by decide⟩ (fun a9 => Or.inr ⟨_, a9, rfl, rfl, Or.inr ⟨rfl, hw, fun q => by first | exact absurd q.1 (by omega) | exact h34 q.2⟩⟩)
  · skip
    refine mv_iload_n (pc := 4) B d_Loom_thing_4 rfl 2 rfl ?_
    refine mv_iconst (pc := 5) (v := 1) B d_Loom_thing_5 (by decide) ?_
    refine mv_icmp_eq (pc := 6) (tgt := 17) B d_Loom_thing_6 rfl (fun h6 => ?_) (fun h6 => ?_)
    · skip
      have hw : WHq i9 := Or.inr h6
      refine mv_aload_n (pc := 17) B d_Loom_thing_17 rfl 0 rfl ?_
      refine mv_getR (pc := 18) (ci := 0) (C := R_Loom) (T := F_Loom) (N := 10) B 9 rfl rfl (by decide) i_Loom (B.2.2.2.1 _ k_495) rfl (hR.1 _ 9 _ rfl) d_Loom_thing_18 ?_
      refine mv_getR (pc := 21) (ci := 9) (C := R_Machine) (T := F_Machine) (N := 13) B 0 rfl rfl (by decide) i_Machine (B.2.2.2.1 _ k_441) rfl hR.2.2 d_Loom_thing_21 ?_
      refine mv_astore_n (pc := 24) B d_Loom_thing_24 rfl (by decide) rfl ?_
      refine mv_iload_n (pc := 25) B d_Loom_thing_25 rfl 2 rfl ?_
      refine mv_if_lt (pc := 26) (tgt := 37) B d_Loom_thing_26 rfl (fun h26 => ?_) (fun h26 => ?_)
      · skip
        have h26 : t9.toInt < 0 := Int32.lt_iff_toInt_lt.mp h26
        exact mv_throw0 (pc := 37) (ik := 131) (ic := 133) B hlt hNs.2.1 (X := "java/util/NoSuchElementException") (by decide +kernel) (B.2.2.2.1 _ k_1751) (B.2.2.2.1 _ k_36) (B.2.2.2.1 _ k_1752) rfl (fun s9 hv9 a9 b9 c9 d9 => have hm9 := mt_ma B.2.2.2.1 hv9; mt_w_nse hm9 (hm9 _ k_1760) a9 b9 c9 d9) d_Loom_thing_37 d_Loom_thing_40 d_Loom_thing_41 d_Loom_thing_44 (mv_noH hno _) ⟨by decide, by decide⟩ ⟨by decide, by decide⟩ ⟨by decide, by decide⟩ (fun a9 => Or.inr ⟨_, a9, rfl, rfl, Or.inr ⟨rfl, hw, fun q => by first | exact absurd q.1 (by omega) | exact h34 q.2⟩⟩)
      · skip
        refine mv_iload_n (pc := 29) B d_Loom_thing_29 rfl 2 rfl ?_
        refine mv_aload_n (pc := 30) B d_Loom_thing_30 rfl 0 rfl ?_
        refine mv_getI (pc := 31) (ci := 7) (C := R_Program) (T := F_Program) (N := 19) B 1 rfl rfl (by decide) i_Program (B.2.2.2.1 _ k_317) rfl d_Loom_thing_31 ?_
        refine mv_icmp_lt (pc := 34) (tgt := 45) B d_Loom_thing_34 rfl (fun h34 => ?_) (fun h34 => ?_)
        · skip
          have z1 := Int32.lt_iff_toInt_lt.mp h34
          have z2 : ¬ t9.toInt < 0 := fun z => h26 (Int32.lt_iff_toInt_lt.mpr (by simpa using z))
          refine mv_iload_n (pc := 45) B d_Loom_thing_45 rfl 3 rfl ?_
          refine mv_if_ne (pc := 46) (tgt := 58) B d_Loom_thing_46 rfl (fun h46 => ?_) (fun h46 => ?_)
          · skip
            refine mv_aload_n (pc := 58) B d_Loom_thing_58 rfl 0 rfl ?_
            refine mv_getR (pc := 59) (ci := 7) (C := R_Program) (T := F_Program) (N := 19) B 3 rfl rfl (by decide) i_Program (B.2.2.2.1 _ k_325) rfl (hR.2.1 _ 3 50 rfl) d_Loom_thing_59 ?_
            refine mv_iload_n (pc := 62) B d_Loom_thing_62 rfl 2 rfl ?_
            refine mv_iald (pc := 63) B rfl (i32_in (show 0 ≤ t9.toInt by omega) (show t9.toInt < 64 by omega)) d_Loom_thing_63 ?_
            exact mv_iret (pc := 64) B hr rfl d_Loom_thing_64 (Nat.le_of_ble_eq_true rfl) (Nat.le_of_ble_eq_true rfl) (Or.inl ⟨_, rfl, rfl, hw, ⟨by omega, z1⟩, by unfold tgC; first | rw [if_pos h46] | rw [if_neg h46]⟩)
          · skip
            refine mv_aload_n (pc := 49) B d_Loom_thing_49 rfl 0 rfl ?_
            refine mv_getR (pc := 50) (ci := 7) (C := R_Program) (T := F_Program) (N := 19) B 2 rfl rfl (by decide) i_Program (B.2.2.2.1 _ k_322) rfl (hR.2.1 _ 2 49 rfl) d_Loom_thing_50 ?_
            refine mv_iload_n (pc := 53) B d_Loom_thing_53 rfl 2 rfl ?_
            refine mv_iald (pc := 54) B rfl (i32_in (show 0 ≤ t9.toInt by omega) (show t9.toInt < 64 by omega)) d_Loom_thing_54 ?_
            refine mv_goto (pc := 55) (tgt := 64) B d_Loom_thing_55 rfl ?_
            exact mv_iret (pc := 64) B hr rfl d_Loom_thing_64 (Nat.le_of_ble_eq_true rfl) (Nat.le_of_ble_eq_true rfl) (Or.inl ⟨_, rfl, rfl, hw, ⟨by omega, z1⟩, by unfold tgC; first | rw [if_pos h46] | rw [if_neg h46]⟩)
        · skip
          have h34 : ¬ t9.toInt < (mv_i σ 48 1).toInt := fun z => h34 (Int32.lt_iff_toInt_lt.mpr z)
          exact mv_throw0 (pc := 37) (ik := 131) (ic := 133) B hlt hNs.2.1 (X := "java/util/NoSuchElementException") (by decide +kernel) (B.2.2.2.1 _ k_1751) (B.2.2.2.1 _ k_36) (B.2.2.2.1 _ k_1752) rfl (fun s9 hv9 a9 b9 c9 d9 => have hm9 := mt_ma B.2.2.2.1 hv9; mt_w_nse hm9 (hm9 _ k_1760) a9 b9 c9 d9) d_Loom_thing_37 d_Loom_thing_40 d_Loom_thing_41 d_Loom_thing_44 (mv_noH hno _) ⟨by decide, by decide⟩ ⟨by decide, by decide⟩ ⟨by decide, by decide⟩ (fun a9 => Or.inr ⟨_, a9, rfl, rfl, Or.inr ⟨rfl, hw, fun q => by first | exact absurd q.1 (by omega) | exact h34 q.2⟩⟩)
    · skip
      exact mv_throw0 (pc := 9) (ik := 71) (ic := 73) B hlt hNs.2.1 (X := "java/lang/IllegalArgumentException") (by decide +kernel) (B.2.2.2.1 _ k_1704) (B.2.2.2.1 _ k_19) (B.2.2.2.1 _ k_955) rfl (fun s9 hv9 a9 b9 c9 d9 => have hm9 := mt_ma B.2.2.2.1 hv9; mt_w_iae hm9 (hm9 _ k_1705) a9 b9 c9 d9) d_Loom_thing_9 d_Loom_thing_12 d_Loom_thing_13 d_Loom_thing_16 (mv_noH hno _) ⟨by decide, by decide⟩ ⟨by decide, by decide⟩ ⟨by decide, by decide⟩ (fun a9 => Or.inr ⟨_, a9, rfl, rfl, Or.inl ⟨rfl, fun q => q.elim h1 h6⟩⟩)
set_option maxHeartbeats 4000000 in
set_option maxRecDepth 100000 in
theorem c_kt_Loom_thing_c (l : Launch) {dA : FieldType → ClassId} {D : va_G} {al : Nat → Nat} {sk sv : Nat → Nat} (hi : mv_inj (mg dA D al me)) (σ : mv_H) (hlt : l.stackTraces = false) (t9 i9 : Int32) (k9 : Nat) (hC : LC me σ 145 8192 48 k9) : mv_C l y_Loom_thing (Cond.code y_Loom_thing b_Loom_thing 4 (Option.some Jvm.ClassFile.FieldType.int) :: ma) ({ frames := 6, cells := 1, slots := 6, locals := 81 }) (mg dA D al me) (mKt sk sv) [.ref (al 0), .int t9, .int i9] σ (mv_Ti (fun v σ1 => σ1 = σ ∧ WHq i9 ∧ (0 ≤ t9.toInt ∧ t9.toInt < (mv_i σ 145 1).toInt) ∧ v = tgC (mv_a σ 146) (mv_a σ 147) t9 i9) (fun X σ1 => σ1 = σ ∧ ((X = "java/lang/IllegalArgumentException" ∧ ¬ WHq i9) ∨ (X = "java/util/NoSuchElementException" ∧ WHq i9 ∧ ¬ (0 ≤ t9.toInt ∧ t9.toInt < (mv_i σ 145 1).toInt))))) := by
  refine mv_C.ofV (cc := b_Loom_thing) (nL := 4) (ret := (Option.some Jvm.ClassFile.FieldType.int)) (by decide +kernel) rfl hi (Nat.le_of_ble_eq_true rfl) ?_
  intro p e s m below meth c B hNs hr hnm hno
  obtain ⟨hPP, hI, hR, hW, ⟨th, sl, hO, ho0, ho1, ho2⟩, hLS⟩ := hC
  obtain ⟨hT1, hT2, hT3, hT4, hT5, hT6, hT7, hT8⟩ := hO.1
  refine mv_iload_n (pc := 0) B d_Loom_thing_0 rfl 2 rfl ?_
  refine mv_if_eq (pc := 1) (tgt := 17) B d_Loom_thing_1 rfl (fun h1 => ?_) (fun h1 => ?_)
  · skip
    have hw : WHq i9 := Or.inl h1
    refine mv_aload_n (pc := 17) B d_Loom_thing_17 rfl 0 rfl ?_
    refine mv_getR (pc := 18) (ci := 0) (C := R_Loom) (T := F_Loom) (N := 10) B 9 rfl rfl (by decide) i_Loom (B.2.2.2.1 _ k_495) rfl (hR.1 _ 9 _ rfl) d_Loom_thing_18 ?_
    refine mv_getR (pc := 21) (ci := 9) (C := R_Machine) (T := F_Machine) (N := 13) B 0 rfl rfl (by decide) i_Machine (B.2.2.2.1 _ k_441) rfl hR.2.2 d_Loom_thing_21 ?_
    refine mv_astore_n (pc := 24) B d_Loom_thing_24 rfl (by decide) rfl ?_
    refine mv_iload_n (pc := 25) B d_Loom_thing_25 rfl 2 rfl ?_
    refine mv_if_lt (pc := 26) (tgt := 37) B d_Loom_thing_26 rfl (fun h26 => ?_) (fun h26 => ?_)
    · skip
      have h26 : t9.toInt < 0 := Int32.lt_iff_toInt_lt.mp h26
      exact mv_throw0 (pc := 37) (ik := 131) (ic := 133) B hlt hNs.2.1 (X := "java/util/NoSuchElementException") (by decide +kernel) (B.2.2.2.1 _ k_1751) (B.2.2.2.1 _ k_36) (B.2.2.2.1 _ k_1752) rfl (fun s9 hv9 a9 b9 c9 d9 => have hm9 := mt_ma B.2.2.2.1 hv9; mt_w_nse hm9 (hm9 _ k_1760) a9 b9 c9 d9) d_Loom_thing_37 d_Loom_thing_40 d_Loom_thing_41 d_Loom_thing_44 (mv_noH hno _) ⟨by decide, by decide⟩ ⟨by decide, by decide⟩ ⟨by decide, by decide⟩ (fun a9 => Or.inr ⟨_, a9, rfl, rfl, Or.inr ⟨rfl, hw, fun q => by first | exact absurd q.1 (by omega) | exact h34 q.2⟩⟩)
    · skip
      refine mv_iload_n (pc := 29) B d_Loom_thing_29 rfl 2 rfl ?_
      refine mv_aload_n (pc := 30) B d_Loom_thing_30 rfl 0 rfl ?_
      refine mv_getI (pc := 31) (ci := 7) (C := R_Program) (T := F_Program) (N := 19) B 1 rfl rfl (by decide) i_Program (B.2.2.2.1 _ k_317) rfl d_Loom_thing_31 ?_
      refine mv_icmp_lt (pc := 34) (tgt := 45) B d_Loom_thing_34 rfl (fun h34 => ?_) (fun h34 => ?_)
      · skip
        have z1 := Int32.lt_iff_toInt_lt.mp h34
        have z2 : ¬ t9.toInt < 0 := fun z => h26 (Int32.lt_iff_toInt_lt.mpr (by simpa using z))
        refine mv_iload_n (pc := 45) B d_Loom_thing_45 rfl 3 rfl ?_
        refine mv_if_ne (pc := 46) (tgt := 58) B d_Loom_thing_46 rfl (fun h46 => ?_) (fun h46 => ?_)
        · skip
          refine mv_aload_n (pc := 58) B d_Loom_thing_58 rfl 0 rfl ?_
          refine mv_getR (pc := 59) (ci := 7) (C := R_Program) (T := F_Program) (N := 19) B 3 rfl rfl (by decide) i_Program (B.2.2.2.1 _ k_325) rfl (hR.2.1 _ 3 147 rfl) d_Loom_thing_59 ?_
          refine mv_iload_n (pc := 62) B d_Loom_thing_62 rfl 2 rfl ?_
          refine mv_iald (pc := 63) B rfl (i32_in (show 0 ≤ t9.toInt by omega) (show t9.toInt < 64 by omega)) d_Loom_thing_63 ?_
          exact mv_iret (pc := 64) B hr rfl d_Loom_thing_64 (Nat.le_of_ble_eq_true rfl) (Nat.le_of_ble_eq_true rfl) (Or.inl ⟨_, rfl, rfl, hw, ⟨by omega, z1⟩, by unfold tgC; first | rw [if_pos h46] | rw [if_neg h46]⟩)
        · skip
          refine mv_aload_n (pc := 49) B d_Loom_thing_49 rfl 0 rfl ?_
          refine mv_getR (pc := 50) (ci := 7) (C := R_Program) (T := F_Program) (N := 19) B 2 rfl rfl (by decide) i_Program (B.2.2.2.1 _ k_322) rfl (hR.2.1 _ 2 146 rfl) d_Loom_thing_50 ?_
          refine mv_iload_n (pc := 53) B d_Loom_thing_53 rfl 2 rfl ?_
          refine mv_iald (pc := 54) B rfl (i32_in (show 0 ≤ t9.toInt by omega) (show t9.toInt < 64 by omega)) d_Loom_thing_54 ?_
          refine mv_goto (pc := 55) (tgt := 64) B d_Loom_thing_55 rfl ?_
          exact mv_iret (pc := 64) B hr rfl d_Loom_thing_64 (Nat.le_of_ble_eq_true rfl) (Nat.le_of_ble_eq_true rfl) (Or.inl ⟨_, rfl, rfl, hw, ⟨by omega, z1⟩, by unfold tgC; first | rw [if_pos h46] | rw [if_neg h46]⟩)
      · skip
        have h34 : ¬ t9.toInt < (mv_i σ 145 1).toInt := fun z => h34 (Int32.lt_iff_toInt_lt.mpr z)
        exact mv_throw0 (pc := 37) (ik := 131) (ic := 133) B hlt hNs.2.1 (X := "java/util/NoSuchElementException") (by decide +kernel) (B.2.2.2.1 _ k_1751) (B.2.2.2.1 _ k_36) (B.2.2.2.1 _ k_1752) rfl (fun s9 hv9 a9 b9 c9 d9 => have hm9 := mt_ma B.2.2.2.1 hv9; mt_w_nse hm9 (hm9 _ k_1760) a9 b9 c9 d9) d_Loom_thing_37 d_Loom_thing_40 d_Loom_thing_41 d_Loom_thing_44 (mv_noH hno _) ⟨by decide, by decide⟩ ⟨by decide, by decide⟩ ⟨by decide, by decide⟩ (fun a9 => Or.inr ⟨_, a9, rfl, rfl, Or.inr ⟨rfl, hw, fun q => by first | exact absurd q.1 (by omega) | exact h34 q.2⟩⟩)
  · skip
    refine mv_iload_n (pc := 4) B d_Loom_thing_4 rfl 2 rfl ?_
    refine mv_iconst (pc := 5) (v := 1) B d_Loom_thing_5 (by decide) ?_
    refine mv_icmp_eq (pc := 6) (tgt := 17) B d_Loom_thing_6 rfl (fun h6 => ?_) (fun h6 => ?_)
    · skip
      have hw : WHq i9 := Or.inr h6
      refine mv_aload_n (pc := 17) B d_Loom_thing_17 rfl 0 rfl ?_
      refine mv_getR (pc := 18) (ci := 0) (C := R_Loom) (T := F_Loom) (N := 10) B 9 rfl rfl (by decide) i_Loom (B.2.2.2.1 _ k_495) rfl (hR.1 _ 9 _ rfl) d_Loom_thing_18 ?_
      refine mv_getR (pc := 21) (ci := 9) (C := R_Machine) (T := F_Machine) (N := 13) B 0 rfl rfl (by decide) i_Machine (B.2.2.2.1 _ k_441) rfl hR.2.2 d_Loom_thing_21 ?_
      refine mv_astore_n (pc := 24) B d_Loom_thing_24 rfl (by decide) rfl ?_
      refine mv_iload_n (pc := 25) B d_Loom_thing_25 rfl 2 rfl ?_
      refine mv_if_lt (pc := 26) (tgt := 37) B d_Loom_thing_26 rfl (fun h26 => ?_) (fun h26 => ?_)
      · skip
        have h26 : t9.toInt < 0 := Int32.lt_iff_toInt_lt.mp h26
        exact mv_throw0 (pc := 37) (ik := 131) (ic := 133) B hlt hNs.2.1 (X := "java/util/NoSuchElementException") (by decide +kernel) (B.2.2.2.1 _ k_1751) (B.2.2.2.1 _ k_36) (B.2.2.2.1 _ k_1752) rfl (fun s9 hv9 a9 b9 c9 d9 => have hm9 := mt_ma B.2.2.2.1 hv9; mt_w_nse hm9 (hm9 _ k_1760) a9 b9 c9 d9) d_Loom_thing_37 d_Loom_thing_40 d_Loom_thing_41 d_Loom_thing_44 (mv_noH hno _) ⟨by decide, by decide⟩ ⟨by decide, by decide⟩ ⟨by decide, by decide⟩ (fun a9 => Or.inr ⟨_, a9, rfl, rfl, Or.inr ⟨rfl, hw, fun q => by first | exact absurd q.1 (by omega) | exact h34 q.2⟩⟩)
      · skip
        refine mv_iload_n (pc := 29) B d_Loom_thing_29 rfl 2 rfl ?_
        refine mv_aload_n (pc := 30) B d_Loom_thing_30 rfl 0 rfl ?_
        refine mv_getI (pc := 31) (ci := 7) (C := R_Program) (T := F_Program) (N := 19) B 1 rfl rfl (by decide) i_Program (B.2.2.2.1 _ k_317) rfl d_Loom_thing_31 ?_
        refine mv_icmp_lt (pc := 34) (tgt := 45) B d_Loom_thing_34 rfl (fun h34 => ?_) (fun h34 => ?_)
        · skip
          have z1 := Int32.lt_iff_toInt_lt.mp h34
          have z2 : ¬ t9.toInt < 0 := fun z => h26 (Int32.lt_iff_toInt_lt.mpr (by simpa using z))
          refine mv_iload_n (pc := 45) B d_Loom_thing_45 rfl 3 rfl ?_
          refine mv_if_ne (pc := 46) (tgt := 58) B d_Loom_thing_46 rfl (fun h46 => ?_) (fun h46 => ?_)
          · skip
            refine mv_aload_n (pc := 58) B d_Loom_thing_58 rfl 0 rfl ?_
            refine mv_getR (pc := 59) (ci := 7) (C := R_Program) (T := F_Program) (N := 19) B 3 rfl rfl (by decide) i_Program (B.2.2.2.1 _ k_325) rfl (hR.2.1 _ 3 147 rfl) d_Loom_thing_59 ?_
            refine mv_iload_n (pc := 62) B d_Loom_thing_62 rfl 2 rfl ?_
            refine mv_iald (pc := 63) B rfl (i32_in (show 0 ≤ t9.toInt by omega) (show t9.toInt < 64 by omega)) d_Loom_thing_63 ?_
            exact mv_iret (pc := 64) B hr rfl d_Loom_thing_64 (Nat.le_of_ble_eq_true rfl) (Nat.le_of_ble_eq_true rfl) (Or.inl ⟨_, rfl, rfl, hw, ⟨by omega, z1⟩, by unfold tgC; first | rw [if_pos h46] | rw [if_neg h46]⟩)
          · skip
            refine mv_aload_n (pc := 49) B d_Loom_thing_49 rfl 0 rfl ?_
            refine mv_getR (pc := 50) (ci := 7) (C := R_Program) (T := F_Program) (N := 19) B 2 rfl rfl (by decide) i_Program (B.2.2.2.1 _ k_322) rfl (hR.2.1 _ 2 146 rfl) d_Loom_thing_50 ?_
            refine mv_iload_n (pc := 53) B d_Loom_thing_53 rfl 2 rfl ?_
            refine mv_iald (pc := 54) B rfl (i32_in (show 0 ≤ t9.toInt by omega) (show t9.toInt < 64 by omega)) d_Loom_thing_54 ?_
            refine mv_goto (pc := 55) (tgt := 64) B d_Loom_thing_55 rfl ?_
            exact mv_iret (pc := 64) B hr rfl d_Loom_thing_64 (Nat.le_of_ble_eq_true rfl) (Nat.le_of_ble_eq_true rfl) (Or.inl ⟨_, rfl, rfl, hw, ⟨by omega, z1⟩, by unfold tgC; first | rw [if_pos h46] | rw [if_neg h46]⟩)
        · skip
          have h34 : ¬ t9.toInt < (mv_i σ 145 1).toInt := fun z => h34 (Int32.lt_iff_toInt_lt.mpr z)
          exact mv_throw0 (pc := 37) (ik := 131) (ic := 133) B hlt hNs.2.1 (X := "java/util/NoSuchElementException") (by decide +kernel) (B.2.2.2.1 _ k_1751) (B.2.2.2.1 _ k_36) (B.2.2.2.1 _ k_1752) rfl (fun s9 hv9 a9 b9 c9 d9 => have hm9 := mt_ma B.2.2.2.1 hv9; mt_w_nse hm9 (hm9 _ k_1760) a9 b9 c9 d9) d_Loom_thing_37 d_Loom_thing_40 d_Loom_thing_41 d_Loom_thing_44 (mv_noH hno _) ⟨by decide, by decide⟩ ⟨by decide, by decide⟩ ⟨by decide, by decide⟩ (fun a9 => Or.inr ⟨_, a9, rfl, rfl, Or.inr ⟨rfl, hw, fun q => by first | exact absurd q.1 (by omega) | exact h34 q.2⟩⟩)
    · skip
      exact mv_throw0 (pc := 9) (ik := 71) (ic := 73) B hlt hNs.2.1 (X := "java/lang/IllegalArgumentException") (by decide +kernel) (B.2.2.2.1 _ k_1704) (B.2.2.2.1 _ k_19) (B.2.2.2.1 _ k_955) rfl (fun s9 hv9 a9 b9 c9 d9 => have hm9 := mt_ma B.2.2.2.1 hv9; mt_w_iae hm9 (hm9 _ k_1705) a9 b9 c9 d9) d_Loom_thing_9 d_Loom_thing_12 d_Loom_thing_13 d_Loom_thing_16 (mv_noH hno _) ⟨by decide, by decide⟩ ⟨by decide, by decide⟩ ⟨by decide, by decide⟩ (fun a9 => Or.inr ⟨_, a9, rfl, rfl, Or.inl ⟨rfl, fun q => q.elim h1 h6⟩⟩)
set_option maxHeartbeats 4000000 in
set_option maxRecDepth 100000 in
theorem c_kt_Book_widthOf_x (l : Launch) {dA : FieldType → ClassId} {D : va_G} {al : Nat → Nat} {ext : mv_Sh} {sk sv : Nat → Nat} (hi : mv_inj (mg dA D al ext)) (σ : mv_H) (t9 : Int32) (hmr : mh (mv_r σ)) (h0 : 0 ≤ t9.toInt) (h64 : t9.toInt < 64) : mv_C l y_Book_widthOf (Cond.code y_Book_widthOf b_Book_widthOf 2 (Option.some Jvm.ClassFile.FieldType.int) :: ma) ({ frames := 0, cells := 0, slots := 0, locals := 0 }) (mg dA D al ext) (mK sk sv) [.ref (al 74), .int t9] σ (mv_Ri (fun v σ1 => σ1 = σ ∧ v = mv_a σ 77 t9.toNatClampNeg)) := by
  refine mv_C.ofV (cc := b_Book_widthOf) (nL := 2) (ret := (Option.some Jvm.ClassFile.FieldType.int)) (by decide +kernel) rfl hi (Nat.le_of_ble_eq_true rfl) ?_
  intro p e s m below meth c B hNs hr hnm hno
  refine mv_aload_n (pc := 0) B d_Book_widthOf_0 rfl 0 rfl ?_
  refine mv_getR (pc := 1) (ci := 12) (C := R_Book) (T := F_Book) (N := 65) B 12 rfl rfl (by decide) i_Book (B.2.2.2.1 _ k_1855) rfl (hmr _ 12 _ rfl) d_Book_widthOf_1 ?_
  refine mv_iload_n (pc := 4) B d_Book_widthOf_4 rfl 1 rfl ?_
  refine mv_iald (pc := 5) B rfl (i32_in h0 (show t9.toInt < 4100 by omega)) d_Book_widthOf_5 ?_
  exact mv_iret (pc := 6) B hr rfl d_Book_widthOf_6 (Nat.le_refl _) (Nat.le_refl _) ⟨_, rfl, rfl, rfl⟩
set_option maxHeartbeats 4000000 in
set_option maxRecDepth 100000 in
theorem c_kt_Book_widthOf_y (l : Launch) {dA : FieldType → ClassId} {D : va_G} {al : Nat → Nat} {ext : mv_Sh} {sk sv : Nat → Nat} (hi : mv_inj (mg dA D al ext)) (σ : mv_H) (t9 : Int32) (hmr : mh (mv_r σ)) (h0 : 0 ≤ t9.toInt) (h64 : t9.toInt < 64) : mv_C l y_Book_widthOf (Cond.code y_Book_widthOf b_Book_widthOf 2 (Option.some Jvm.ClassFile.FieldType.int) :: ma) ({ frames := 0, cells := 0, slots := 0, locals := 0 }) (mg dA D al ext) (mK sk sv) [.ref (al 108), .int t9] σ (mv_Ri (fun v σ1 => σ1 = σ ∧ v = mv_a σ 111 t9.toNatClampNeg)) := by
  refine mv_C.ofV (cc := b_Book_widthOf) (nL := 2) (ret := (Option.some Jvm.ClassFile.FieldType.int)) (by decide +kernel) rfl hi (Nat.le_of_ble_eq_true rfl) ?_
  intro p e s m below meth c B hNs hr hnm hno
  refine mv_aload_n (pc := 0) B d_Book_widthOf_0 rfl 0 rfl ?_
  refine mv_getR (pc := 1) (ci := 12) (C := R_Book) (T := F_Book) (N := 65) B 12 rfl rfl (by decide) i_Book (B.2.2.2.1 _ k_1855) rfl (hmr _ 12 _ rfl) d_Book_widthOf_1 ?_
  refine mv_iload_n (pc := 4) B d_Book_widthOf_4 rfl 1 rfl ?_
  refine mv_iald (pc := 5) B rfl (i32_in h0 (show t9.toInt < 4100 by omega)) d_Book_widthOf_5 ?_
  exact mv_iret (pc := 6) B hr rfl d_Book_widthOf_6 (Nat.le_refl _) (Nat.le_refl _) ⟨_, rfl, rfl, rfl⟩
set_option maxHeartbeats 4000000 in
set_option maxRecDepth 100000 in
theorem c_kt_Model_thing_x (l : Launch) {dA : FieldType → ClassId} {D : va_G} {al : Nat → Nat} {ext : mv_Sh} {sk sv : Nat → Nat} (hi : mv_inj (mg dA D al ext)) (σ : mv_H) (hM : MI 74 108 σ) (t9 i9 : Int32) : mv_C l y_Model_thing (Cond.code y_Model_thing b_Model_thing 3 (Option.some Jvm.ClassFile.FieldType.int) :: ma) ({ frames := 2, cells := 0, slots := 0, locals := 44 }) (mg dA D al ext) (mK sk sv) [.ref (al 70), .int t9, .int i9] σ (mv_Ri (fun v σ1 => QF 74 σ σ1 ∧ ((mv_i σ1 70 2 = 1 ∧ ¬ WHq i9) ∨ (mv_i σ1 70 2 = 2 ∧ WHq i9 ∧ ¬ THq 74 σ t9 0) ∨ (mv_i σ1 70 2 = 0 ∧ WHq i9 ∧ THq 74 σ t9 0 ∧ v = tgR 74 σ t9 i9)))) := by
  refine mv_C.ofV (cc := b_Model_thing) (nL := 3) (ret := (Option.some Jvm.ClassFile.FieldType.int)) (by decide +kernel) rfl hi (Nat.le_of_ble_eq_true rfl) ?_
  intro p e s m below meth c B hNs hr hnm hno
  have hN : 74 = 74 ∨ 74 = 108 := by decide
  refine mv_aload_n (pc := 0) B d_Model_thing_0 rfl 0 rfl ?_
  refine mv_iload_n (pc := 1) B d_Model_thing_1 rfl 2 rfl ?_
  refine mv_if_lt (pc := 2) (tgt := 10) B d_Model_thing_2 rfl (fun h2 => ?_) (fun h2 => ?_)
  · skip
    refine mv_iconst (pc := 10) (v := 1) B d_Model_thing_10 (by decide) ?_
    refine mv_goto (pc := 11) (tgt := 28) B d_Model_thing_11 rfl ?_
    refine mv_putI (pc := 28) (ci := 11) (C := R_Model) (T := F_Model) (N := 16) B 2 rfl rfl (by decide) i_Model t_Model_ok n_Model (B.2.2.2.1 _ k_2047) rfl rfl rfl rfl d_Model_thing_28 ?_
    refine mv_gen (fun S31 eS31 => ?_)
    have hF : QF 74 σ S31 := by rw [eS31]; exact QF.si Fx.rf (by decide)
    have hM := hM.qf hF hN
    first | have x31 : mv_i S31 70 2 = 0 := by rw [eS31, mv_si_s] | have x31 : mv_i S31 70 2 = 1 := by rw [eS31, mv_si_s] | have x31 : mv_i S31 70 2 = 2 := by rw [eS31, mv_si_s]
    try have hTP : TP9 74 S31 t9 0 := (z17.resolve_left h20).2.th eS31 hN
    have r31 : mv_a S31 = mv_a σ := by rw [eS31]; rfl
    have e11 : mv_i S31 70 11 = mv_i σ 70 11 := hF.sh hN
    clear eS31
    refine mv_aload_n (pc := 31) B d_Model_thing_31 rfl 0 rfl ?_
    refine mv_getI (pc := 32) (ci := 11) (C := R_Model) (T := F_Model) (N := 16) B 2 rfl rfl (by decide) i_Model (B.2.2.2.1 _ k_2047) rfl d_Model_thing_32 ?_
    refine mv_if_le (pc := 35) (tgt := 40) B d_Model_thing_35 rfl (fun h35 => ?_) (fun h35 => ?_)
    · skip
      exact absurd h35 (by rw [x31]; decide)
    · skip
      refine mv_iconst (pc := 38) (v := 0) B d_Model_thing_38 (by decide) ?_
      exact mv_iret (pc := 39) B hr rfl d_Model_thing_39 (Nat.le_refl _) (Nat.le_refl _) ⟨_, rfl, hF, by first | exact Or.inl ⟨x31, wh_no1 h2⟩ | exact Or.inl ⟨x31, wh_no2 h7⟩ | exact Or.inr (Or.inl ⟨x31, wh_of h2 h7, (y17.resolve_right (fun z => by rw [h20] at z; exact absurd z.1 (by decide))).2⟩)⟩
  · skip
    refine mv_iload_n (pc := 5) B d_Model_thing_5 rfl 2 rfl ?_
    refine mv_iconst (pc := 6) (v := 1) B d_Model_thing_6 (by decide) ?_
    refine mv_icmp_le (pc := 7) (tgt := 14) B d_Model_thing_7 rfl (fun h7 => ?_) (fun h7 => ?_)
    · skip
      refine mv_aload_n (pc := 14) B d_Model_thing_14 rfl 0 rfl ?_
      refine mv_iload_n (pc := 15) B d_Model_thing_15 rfl 1 rfl ?_
      refine mv_iconst (pc := 16) (v := 0) B d_Model_thing_16 (by decide) ?_
      refine mv_callVi (pc := 17) (n := 2) (ci := 11) (C := R_Model) B (mK_ok sk sv) hNs rfl rfl (mv_C.twoi (c_Model_there_x l hi _ hM _ _) (c_kh_Model_there_x l hi _ hM _ _)) rfl (ma_goodc kc_Model_there) (B.2.2.2.1 _ k_2415) (B.2.2.2.1 _ k_2417) (B.2.2.2.1 _ ks_124) (B.2.2.2.1 _ k_12) ⟨by decide +kernel, by decide +kernel, by decide +kernel⟩ rfl d_Model_thing_17 rfl (Nat.le_of_ble_eq_true rfl) ⟨by decide, by decide⟩ ⟨by decide, by decide⟩ ⟨by decide, by decide⟩ (mv_noH hno _) (fun v17 σ17 h17 => ?_)
      obtain ⟨⟨e17, z17⟩, υ17, ⟨-, y17⟩, -⟩ := h17
      have e17 := e17.symm
      subst e17
      refine mv_if_ne (pc := 20) (tgt := 27) B d_Model_thing_20 rfl (fun h20 => ?_) (fun h20 => ?_)
      · skip
        refine mv_iconst (pc := 27) (v := 0) B d_Model_thing_27 (by decide) ?_
        refine mv_putI (pc := 28) (ci := 11) (C := R_Model) (T := F_Model) (N := 16) B 2 rfl rfl (by decide) i_Model t_Model_ok n_Model (B.2.2.2.1 _ k_2047) rfl rfl rfl rfl d_Model_thing_28 ?_
        refine mv_gen (fun S31 eS31 => ?_)
        have hF : QF 74 σ S31 := by rw [eS31]; exact QF.si Fx.rf (by decide)
        have hM := hM.qf hF hN
        first | have x31 : mv_i S31 70 2 = 0 := by rw [eS31, mv_si_s] | have x31 : mv_i S31 70 2 = 1 := by rw [eS31, mv_si_s] | have x31 : mv_i S31 70 2 = 2 := by rw [eS31, mv_si_s]
        try have hTP : TP9 74 S31 t9 0 := (z17.resolve_left h20).2.th eS31 hN
        have r31 : mv_a S31 = mv_a σ := by rw [eS31]; rfl
        have e11 : mv_i S31 70 11 = mv_i σ 70 11 := hF.sh hN
        clear eS31
        refine mv_aload_n (pc := 31) B d_Model_thing_31 rfl 0 rfl ?_
        refine mv_getI (pc := 32) (ci := 11) (C := R_Model) (T := F_Model) (N := 16) B 2 rfl rfl (by decide) i_Model (B.2.2.2.1 _ k_2047) rfl d_Model_thing_32 ?_
        refine mv_if_le (pc := 35) (tgt := 40) B d_Model_thing_35 rfl (fun h35 => ?_) (fun h35 => ?_)
        · skip
          refine mv_aload_n (pc := 40) B d_Model_thing_40 rfl 0 rfl ?_
          refine mv_getI (pc := 41) (ci := 11) (C := R_Model) (T := F_Model) (N := 16) B 11 rfl rfl (by decide) i_Model (B.2.2.2.1 _ k_2056) rfl d_Model_thing_41 ?_
          refine mv_if_ne (pc := 44) (tgt := 71) B d_Model_thing_44 rfl (fun h44 => ?_) (fun h44 => ?_)
          · skip
            refine mv_iload_n (pc := 71) B d_Model_thing_71 rfl 2 rfl ?_
            refine mv_if_ne (pc := 72) (tgt := 90) B d_Model_thing_72 rfl (fun h72 => ?_) (fun h72 => ?_)
            · skip
              refine mv_iload_n (pc := 90) B d_Model_thing_90 rfl 1 rfl ?_
              refine mv_if_ne (pc := 91) (tgt := 98) B d_Model_thing_91 rfl (fun h91 => ?_) (fun h91 => ?_)
              · skip
                refine mv_iload_n (pc := 98) B d_Model_thing_98 rfl 1 rfl ?_
                refine mv_iconst (pc := 99) (v := 1) B d_Model_thing_99 (by decide) ?_
                refine mv_icmp_ne (pc := 100) (tgt := 108) B d_Model_thing_100 rfl (fun h100 => ?_) (fun h100 => ?_)
                · skip
                  refine mv_ldc (pc := 108) (v := 32768) B (B.2.2.2.1 _ k_1815) d_Model_thing_108 ?_
                  exact mv_iret (pc := 110) B hr rfl d_Model_thing_110 (Nat.le_refl _) (Nat.le_refl _) ⟨_, rfl, hF, Or.inr (Or.inr ⟨x31, wh_of h2 h7, (y17.resolve_left (fun z => h20 z.1)).2, by unfold tgR; rw [if_neg (fun z => h44 (e11.trans z))]; first | (rw [if_pos h72, if_pos h77]; done) | (rw [if_pos h72, if_neg h77]; done) | (rw [if_neg h72]; unfold thN; rw [if_neg (fun z => h44 (e11.trans z)), if_pos h91]; done) | (rw [if_neg h72]; unfold thN; rw [if_neg (fun z => h44 (e11.trans z)), if_neg h91, if_pos h100]; done) | (rw [if_neg h72]; unfold thN; rw [if_neg (fun z => h44 (e11.trans z)), if_neg h91, if_neg h100]; done)⟩)⟩
                · skip
                  refine mv_bipush (pc := 103) (v := 32) B d_Model_thing_103 (by decide) ?_
                  refine mv_goto (pc := 105) (tgt := 110) B d_Model_thing_105 rfl ?_
                  exact mv_iret (pc := 110) B hr rfl d_Model_thing_110 (Nat.le_refl _) (Nat.le_refl _) ⟨_, rfl, hF, Or.inr (Or.inr ⟨x31, wh_of h2 h7, (y17.resolve_left (fun z => h20 z.1)).2, by unfold tgR; rw [if_neg (fun z => h44 (e11.trans z))]; first | (rw [if_pos h72, if_pos h77]; done) | (rw [if_pos h72, if_neg h77]; done) | (rw [if_neg h72]; unfold thN; rw [if_neg (fun z => h44 (e11.trans z)), if_pos h91]; done) | (rw [if_neg h72]; unfold thN; rw [if_neg (fun z => h44 (e11.trans z)), if_neg h91, if_pos h100]; done) | (rw [if_neg h72]; unfold thN; rw [if_neg (fun z => h44 (e11.trans z)), if_neg h91, if_neg h100]; done)⟩)⟩
              · skip
                refine mv_iconst (pc := 94) (v := 0) B d_Model_thing_94 (by decide) ?_
                refine mv_goto (pc := 95) (tgt := 110) B d_Model_thing_95 rfl ?_
                exact mv_iret (pc := 110) B hr rfl d_Model_thing_110 (Nat.le_refl _) (Nat.le_refl _) ⟨_, rfl, hF, Or.inr (Or.inr ⟨x31, wh_of h2 h7, (y17.resolve_left (fun z => h20 z.1)).2, by unfold tgR; rw [if_neg (fun z => h44 (e11.trans z))]; first | (rw [if_pos h72, if_pos h77]; done) | (rw [if_pos h72, if_neg h77]; done) | (rw [if_neg h72]; unfold thN; rw [if_neg (fun z => h44 (e11.trans z)), if_pos h91]; done) | (rw [if_neg h72]; unfold thN; rw [if_neg (fun z => h44 (e11.trans z)), if_neg h91, if_pos h100]; done) | (rw [if_neg h72]; unfold thN; rw [if_neg (fun z => h44 (e11.trans z)), if_neg h91, if_neg h100]; done)⟩)⟩
            · skip
              refine mv_iload_n (pc := 75) B d_Model_thing_75 rfl 1 rfl ?_
              refine mv_iconst (pc := 76) (v := 2) B d_Model_thing_76 (by decide) ?_
              refine mv_icmp_ne (pc := 77) (tgt := 85) B d_Model_thing_77 rfl (fun h77 => ?_) (fun h77 => ?_)
              · skip
                refine mv_bipush (pc := 85) (v := 32) B d_Model_thing_85 (by decide) ?_
                refine mv_goto (pc := 87) (tgt := 110) B d_Model_thing_87 rfl ?_
                exact mv_iret (pc := 110) B hr rfl d_Model_thing_110 (Nat.le_refl _) (Nat.le_refl _) ⟨_, rfl, hF, Or.inr (Or.inr ⟨x31, wh_of h2 h7, (y17.resolve_left (fun z => h20 z.1)).2, by unfold tgR; rw [if_neg (fun z => h44 (e11.trans z))]; first | (rw [if_pos h72, if_pos h77]; done) | (rw [if_pos h72, if_neg h77]; done) | (rw [if_neg h72]; unfold thN; rw [if_neg (fun z => h44 (e11.trans z)), if_pos h91]; done) | (rw [if_neg h72]; unfold thN; rw [if_neg (fun z => h44 (e11.trans z)), if_neg h91, if_pos h100]; done) | (rw [if_neg h72]; unfold thN; rw [if_neg (fun z => h44 (e11.trans z)), if_neg h91, if_neg h100]; done)⟩)⟩
              · skip
                refine mv_bipush (pc := 80) (v := 8) B d_Model_thing_80 (by decide) ?_
                refine mv_goto (pc := 82) (tgt := 110) B d_Model_thing_82 rfl ?_
                exact mv_iret (pc := 110) B hr rfl d_Model_thing_110 (Nat.le_refl _) (Nat.le_refl _) ⟨_, rfl, hF, Or.inr (Or.inr ⟨x31, wh_of h2 h7, (y17.resolve_left (fun z => h20 z.1)).2, by unfold tgR; rw [if_neg (fun z => h44 (e11.trans z))]; first | (rw [if_pos h72, if_pos h77]; done) | (rw [if_pos h72, if_neg h77]; done) | (rw [if_neg h72]; unfold thN; rw [if_neg (fun z => h44 (e11.trans z)), if_pos h91]; done) | (rw [if_neg h72]; unfold thN; rw [if_neg (fun z => h44 (e11.trans z)), if_neg h91, if_pos h100]; done) | (rw [if_neg h72]; unfold thN; rw [if_neg (fun z => h44 (e11.trans z)), if_neg h91, if_neg h100]; done)⟩)⟩
          · skip
            have hin := hTP.in hM h44
            refine mv_iload_n (pc := 47) B d_Model_thing_47 rfl 2 rfl ?_
            refine mv_if_ne (pc := 48) (tgt := 62) B d_Model_thing_48 rfl (fun h48 => ?_) (fun h48 => ?_)
            · skip
              refine mv_aload_n (pc := 62) B d_Model_thing_62 rfl 0 rfl ?_
              refine mv_getR (pc := 63) (ci := 11) (C := R_Model) (T := F_Model) (N := 16) B 9 rfl rfl (by decide) i_Model (B.2.2.2.1 _ k_2054) rfl hM.2.1 d_Model_thing_63 ?_
              refine mv_iload_n (pc := 66) B d_Model_thing_66 rfl 1 rfl ?_
              refine mv_callVi (pc := 67) (n := 1) (ci := 12) (C := R_Book) B (mK_ok sk sv) hNs rfl rfl (c_Book_cellsOf_x l hi _ _ hM.1 hin.1.1 hin.1.2) rfl (ma_goodc kc_Book_cellsOf) (B.2.2.2.1 _ k_2419) (B.2.2.2.1 _ k_2420) (B.2.2.2.1 _ k_2421) (B.2.2.2.1 _ k_13) ⟨by decide +kernel, by decide +kernel, by decide +kernel⟩ rfl d_Model_thing_67 rfl (Nat.le_of_ble_eq_true rfl) ⟨by decide, by decide⟩ ⟨by decide, by decide⟩ ⟨by decide, by decide⟩ (mv_noH hno _) (fun v67 σ67 h67 => ?_)
              obtain ⟨e67, z67⟩ := h67
              have e67 := e67.symm
              subst e67
              exact mv_iret (pc := 70) B hr rfl d_Model_thing_70 (Nat.le_refl _) (Nat.le_refl _) ⟨_, rfl, hF, Or.inr (Or.inr ⟨x31, wh_of h2 h7, (y17.resolve_left (fun z => h20 z.1)).2, by unfold tgR; rw [if_pos (e11.symm.trans h44)]; first | (rw [if_pos h48, ← r31]; exact z56) | (rw [if_neg h48]; unfold thN; rw [if_pos (e11.symm.trans h44), ← r31]; rcases z67 with z | z; (rw [if_pos z.1]; exact z.2); (rw [if_neg z.1]; exact z.2))⟩)⟩
            · skip
              refine mv_aload_n (pc := 51) B d_Model_thing_51 rfl 0 rfl ?_
              refine mv_getR (pc := 52) (ci := 11) (C := R_Model) (T := F_Model) (N := 16) B 9 rfl rfl (by decide) i_Model (B.2.2.2.1 _ k_2054) rfl hM.2.1 d_Model_thing_52 ?_
              refine mv_iload_n (pc := 55) B d_Model_thing_55 rfl 1 rfl ?_
              refine mv_callVi (pc := 56) (n := 1) (ci := 12) (C := R_Book) B (mK_ok sk sv) hNs rfl rfl (c_kt_Book_widthOf_x l hi _ _ hM.1 hin.1.1 hin.1.2) rfl (ma_goodc kc_Book_widthOf) (B.2.2.2.1 _ k_2582) (B.2.2.2.1 _ k_2583) (B.2.2.2.1 _ k_2584) (B.2.2.2.1 _ k_13) ⟨by decide +kernel, by decide +kernel, by decide +kernel⟩ rfl d_Model_thing_56 rfl (Nat.le_of_ble_eq_true rfl) ⟨by decide, by decide⟩ ⟨by decide, by decide⟩ ⟨by decide, by decide⟩ (mv_noH hno _) (fun v56 σ56 h56 => ?_)
              obtain ⟨e56, z56⟩ := h56
              have e56 := e56.symm
              subst e56
              refine mv_goto (pc := 59) (tgt := 70) B d_Model_thing_59 rfl ?_
              exact mv_iret (pc := 70) B hr rfl d_Model_thing_70 (Nat.le_refl _) (Nat.le_refl _) ⟨_, rfl, hF, Or.inr (Or.inr ⟨x31, wh_of h2 h7, (y17.resolve_left (fun z => h20 z.1)).2, by unfold tgR; rw [if_pos (e11.symm.trans h44)]; first | (rw [if_pos h48, ← r31]; exact z56) | (rw [if_neg h48]; unfold thN; rw [if_pos (e11.symm.trans h44), ← r31]; rcases z67 with z | z; (rw [if_pos z.1]; exact z.2); (rw [if_neg z.1]; exact z.2))⟩)⟩
        · skip
          exact absurd (by rw [x31]; decide) h35
      · skip
        refine mv_iconst (pc := 23) (v := 2) B d_Model_thing_23 (by decide) ?_
        refine mv_goto (pc := 24) (tgt := 28) B d_Model_thing_24 rfl ?_
        refine mv_putI (pc := 28) (ci := 11) (C := R_Model) (T := F_Model) (N := 16) B 2 rfl rfl (by decide) i_Model t_Model_ok n_Model (B.2.2.2.1 _ k_2047) rfl rfl rfl rfl d_Model_thing_28 ?_
        refine mv_gen (fun S31 eS31 => ?_)
        have hF : QF 74 σ S31 := by rw [eS31]; exact QF.si Fx.rf (by decide)
        have hM := hM.qf hF hN
        first | have x31 : mv_i S31 70 2 = 0 := by rw [eS31, mv_si_s] | have x31 : mv_i S31 70 2 = 1 := by rw [eS31, mv_si_s] | have x31 : mv_i S31 70 2 = 2 := by rw [eS31, mv_si_s]
        try have hTP : TP9 74 S31 t9 0 := (z17.resolve_left h20).2.th eS31 hN
        have r31 : mv_a S31 = mv_a σ := by rw [eS31]; rfl
        have e11 : mv_i S31 70 11 = mv_i σ 70 11 := hF.sh hN
        clear eS31
        refine mv_aload_n (pc := 31) B d_Model_thing_31 rfl 0 rfl ?_
        refine mv_getI (pc := 32) (ci := 11) (C := R_Model) (T := F_Model) (N := 16) B 2 rfl rfl (by decide) i_Model (B.2.2.2.1 _ k_2047) rfl d_Model_thing_32 ?_
        refine mv_if_le (pc := 35) (tgt := 40) B d_Model_thing_35 rfl (fun h35 => ?_) (fun h35 => ?_)
        · skip
          exact absurd h35 (by rw [x31]; decide)
        · skip
          refine mv_iconst (pc := 38) (v := 0) B d_Model_thing_38 (by decide) ?_
          exact mv_iret (pc := 39) B hr rfl d_Model_thing_39 (Nat.le_refl _) (Nat.le_refl _) ⟨_, rfl, hF, by first | exact Or.inl ⟨x31, wh_no1 h2⟩ | exact Or.inl ⟨x31, wh_no2 h7⟩ | exact Or.inr (Or.inl ⟨x31, wh_of h2 h7, (y17.resolve_right (fun z => by rw [h20] at z; exact absurd z.1 (by decide))).2⟩)⟩
    · skip
      refine mv_iconst (pc := 10) (v := 1) B d_Model_thing_10 (by decide) ?_
      refine mv_goto (pc := 11) (tgt := 28) B d_Model_thing_11 rfl ?_
      refine mv_putI (pc := 28) (ci := 11) (C := R_Model) (T := F_Model) (N := 16) B 2 rfl rfl (by decide) i_Model t_Model_ok n_Model (B.2.2.2.1 _ k_2047) rfl rfl rfl rfl d_Model_thing_28 ?_
      refine mv_gen (fun S31 eS31 => ?_)
      have hF : QF 74 σ S31 := by rw [eS31]; exact QF.si Fx.rf (by decide)
      have hM := hM.qf hF hN
      first | have x31 : mv_i S31 70 2 = 0 := by rw [eS31, mv_si_s] | have x31 : mv_i S31 70 2 = 1 := by rw [eS31, mv_si_s] | have x31 : mv_i S31 70 2 = 2 := by rw [eS31, mv_si_s]
      try have hTP : TP9 74 S31 t9 0 := (z17.resolve_left h20).2.th eS31 hN
      have r31 : mv_a S31 = mv_a σ := by rw [eS31]; rfl
      have e11 : mv_i S31 70 11 = mv_i σ 70 11 := hF.sh hN
      clear eS31
      refine mv_aload_n (pc := 31) B d_Model_thing_31 rfl 0 rfl ?_
      refine mv_getI (pc := 32) (ci := 11) (C := R_Model) (T := F_Model) (N := 16) B 2 rfl rfl (by decide) i_Model (B.2.2.2.1 _ k_2047) rfl d_Model_thing_32 ?_
      refine mv_if_le (pc := 35) (tgt := 40) B d_Model_thing_35 rfl (fun h35 => ?_) (fun h35 => ?_)
      · skip
        exact absurd h35 (by rw [x31]; decide)
      · skip
        refine mv_iconst (pc := 38) (v := 0) B d_Model_thing_38 (by decide) ?_
        exact mv_iret (pc := 39) B hr rfl d_Model_thing_39 (Nat.le_refl _) (Nat.le_refl _) ⟨_, rfl, hF, by first | exact Or.inl ⟨x31, wh_no1 h2⟩ | exact Or.inl ⟨x31, wh_no2 h7⟩ | exact Or.inr (Or.inl ⟨x31, wh_of h2 h7, (y17.resolve_right (fun z => by rw [h20] at z; exact absurd z.1 (by decide))).2⟩)⟩
set_option maxHeartbeats 4000000 in
set_option maxRecDepth 100000 in
theorem c_kt_Model_thing_y (l : Launch) {dA : FieldType → ClassId} {D : va_G} {al : Nat → Nat} {ext : mv_Sh} {sk sv : Nat → Nat} (hi : mv_inj (mg dA D al ext)) (σ : mv_H) (hM : MI 108 74 σ) (t9 i9 : Int32) : mv_C l y_Model_thing (Cond.code y_Model_thing b_Model_thing 3 (Option.some Jvm.ClassFile.FieldType.int) :: ma) ({ frames := 2, cells := 0, slots := 0, locals := 44 }) (mg dA D al ext) (mK sk sv) [.ref (al 70), .int t9, .int i9] σ (mv_Ri (fun v σ1 => QF 108 σ σ1 ∧ ((mv_i σ1 70 2 = 1 ∧ ¬ WHq i9) ∨ (mv_i σ1 70 2 = 2 ∧ WHq i9 ∧ ¬ THq 108 σ t9 0) ∨ (mv_i σ1 70 2 = 0 ∧ WHq i9 ∧ THq 108 σ t9 0 ∧ v = tgR 108 σ t9 i9)))) := by
  refine mv_C.ofV (cc := b_Model_thing) (nL := 3) (ret := (Option.some Jvm.ClassFile.FieldType.int)) (by decide +kernel) rfl hi (Nat.le_of_ble_eq_true rfl) ?_
  intro p e s m below meth c B hNs hr hnm hno
  have hN : 108 = 74 ∨ 108 = 108 := by decide
  refine mv_aload_n (pc := 0) B d_Model_thing_0 rfl 0 rfl ?_
  refine mv_iload_n (pc := 1) B d_Model_thing_1 rfl 2 rfl ?_
  refine mv_if_lt (pc := 2) (tgt := 10) B d_Model_thing_2 rfl (fun h2 => ?_) (fun h2 => ?_)
  · skip
    refine mv_iconst (pc := 10) (v := 1) B d_Model_thing_10 (by decide) ?_
    refine mv_goto (pc := 11) (tgt := 28) B d_Model_thing_11 rfl ?_
    refine mv_putI (pc := 28) (ci := 11) (C := R_Model) (T := F_Model) (N := 16) B 2 rfl rfl (by decide) i_Model t_Model_ok n_Model (B.2.2.2.1 _ k_2047) rfl rfl rfl rfl d_Model_thing_28 ?_
    refine mv_gen (fun S31 eS31 => ?_)
    have hF : QF 108 σ S31 := by rw [eS31]; exact QF.si Fx.rf (by decide)
    have hM := hM.qf hF hN
    first | have x31 : mv_i S31 70 2 = 0 := by rw [eS31, mv_si_s] | have x31 : mv_i S31 70 2 = 1 := by rw [eS31, mv_si_s] | have x31 : mv_i S31 70 2 = 2 := by rw [eS31, mv_si_s]
    try have hTP : TP9 108 S31 t9 0 := (z17.resolve_left h20).2.th eS31 hN
    have r31 : mv_a S31 = mv_a σ := by rw [eS31]; rfl
    have e11 : mv_i S31 70 11 = mv_i σ 70 11 := hF.sh hN
    clear eS31
    refine mv_aload_n (pc := 31) B d_Model_thing_31 rfl 0 rfl ?_
    refine mv_getI (pc := 32) (ci := 11) (C := R_Model) (T := F_Model) (N := 16) B 2 rfl rfl (by decide) i_Model (B.2.2.2.1 _ k_2047) rfl d_Model_thing_32 ?_
    refine mv_if_le (pc := 35) (tgt := 40) B d_Model_thing_35 rfl (fun h35 => ?_) (fun h35 => ?_)
    · skip
      exact absurd h35 (by rw [x31]; decide)
    · skip
      refine mv_iconst (pc := 38) (v := 0) B d_Model_thing_38 (by decide) ?_
      exact mv_iret (pc := 39) B hr rfl d_Model_thing_39 (Nat.le_refl _) (Nat.le_refl _) ⟨_, rfl, hF, by first | exact Or.inl ⟨x31, wh_no1 h2⟩ | exact Or.inl ⟨x31, wh_no2 h7⟩ | exact Or.inr (Or.inl ⟨x31, wh_of h2 h7, (y17.resolve_right (fun z => by rw [h20] at z; exact absurd z.1 (by decide))).2⟩)⟩
  · skip
    refine mv_iload_n (pc := 5) B d_Model_thing_5 rfl 2 rfl ?_
    refine mv_iconst (pc := 6) (v := 1) B d_Model_thing_6 (by decide) ?_
    refine mv_icmp_le (pc := 7) (tgt := 14) B d_Model_thing_7 rfl (fun h7 => ?_) (fun h7 => ?_)
    · skip
      refine mv_aload_n (pc := 14) B d_Model_thing_14 rfl 0 rfl ?_
      refine mv_iload_n (pc := 15) B d_Model_thing_15 rfl 1 rfl ?_
      refine mv_iconst (pc := 16) (v := 0) B d_Model_thing_16 (by decide) ?_
      refine mv_callVi (pc := 17) (n := 2) (ci := 11) (C := R_Model) B (mK_ok sk sv) hNs rfl rfl (mv_C.twoi (c_Model_there_y l hi _ hM _ _) (c_kh_Model_there_y l hi _ hM _ _)) rfl (ma_goodc kc_Model_there) (B.2.2.2.1 _ k_2415) (B.2.2.2.1 _ k_2417) (B.2.2.2.1 _ ks_124) (B.2.2.2.1 _ k_12) ⟨by decide +kernel, by decide +kernel, by decide +kernel⟩ rfl d_Model_thing_17 rfl (Nat.le_of_ble_eq_true rfl) ⟨by decide, by decide⟩ ⟨by decide, by decide⟩ ⟨by decide, by decide⟩ (mv_noH hno _) (fun v17 σ17 h17 => ?_)
      obtain ⟨⟨e17, z17⟩, υ17, ⟨-, y17⟩, -⟩ := h17
      have e17 := e17.symm
      subst e17
      refine mv_if_ne (pc := 20) (tgt := 27) B d_Model_thing_20 rfl (fun h20 => ?_) (fun h20 => ?_)
      · skip
        refine mv_iconst (pc := 27) (v := 0) B d_Model_thing_27 (by decide) ?_
        refine mv_putI (pc := 28) (ci := 11) (C := R_Model) (T := F_Model) (N := 16) B 2 rfl rfl (by decide) i_Model t_Model_ok n_Model (B.2.2.2.1 _ k_2047) rfl rfl rfl rfl d_Model_thing_28 ?_
        refine mv_gen (fun S31 eS31 => ?_)
        have hF : QF 108 σ S31 := by rw [eS31]; exact QF.si Fx.rf (by decide)
        have hM := hM.qf hF hN
        first | have x31 : mv_i S31 70 2 = 0 := by rw [eS31, mv_si_s] | have x31 : mv_i S31 70 2 = 1 := by rw [eS31, mv_si_s] | have x31 : mv_i S31 70 2 = 2 := by rw [eS31, mv_si_s]
        try have hTP : TP9 108 S31 t9 0 := (z17.resolve_left h20).2.th eS31 hN
        have r31 : mv_a S31 = mv_a σ := by rw [eS31]; rfl
        have e11 : mv_i S31 70 11 = mv_i σ 70 11 := hF.sh hN
        clear eS31
        refine mv_aload_n (pc := 31) B d_Model_thing_31 rfl 0 rfl ?_
        refine mv_getI (pc := 32) (ci := 11) (C := R_Model) (T := F_Model) (N := 16) B 2 rfl rfl (by decide) i_Model (B.2.2.2.1 _ k_2047) rfl d_Model_thing_32 ?_
        refine mv_if_le (pc := 35) (tgt := 40) B d_Model_thing_35 rfl (fun h35 => ?_) (fun h35 => ?_)
        · skip
          refine mv_aload_n (pc := 40) B d_Model_thing_40 rfl 0 rfl ?_
          refine mv_getI (pc := 41) (ci := 11) (C := R_Model) (T := F_Model) (N := 16) B 11 rfl rfl (by decide) i_Model (B.2.2.2.1 _ k_2056) rfl d_Model_thing_41 ?_
          refine mv_if_ne (pc := 44) (tgt := 71) B d_Model_thing_44 rfl (fun h44 => ?_) (fun h44 => ?_)
          · skip
            refine mv_iload_n (pc := 71) B d_Model_thing_71 rfl 2 rfl ?_
            refine mv_if_ne (pc := 72) (tgt := 90) B d_Model_thing_72 rfl (fun h72 => ?_) (fun h72 => ?_)
            · skip
              refine mv_iload_n (pc := 90) B d_Model_thing_90 rfl 1 rfl ?_
              refine mv_if_ne (pc := 91) (tgt := 98) B d_Model_thing_91 rfl (fun h91 => ?_) (fun h91 => ?_)
              · skip
                refine mv_iload_n (pc := 98) B d_Model_thing_98 rfl 1 rfl ?_
                refine mv_iconst (pc := 99) (v := 1) B d_Model_thing_99 (by decide) ?_
                refine mv_icmp_ne (pc := 100) (tgt := 108) B d_Model_thing_100 rfl (fun h100 => ?_) (fun h100 => ?_)
                · skip
                  refine mv_ldc (pc := 108) (v := 32768) B (B.2.2.2.1 _ k_1815) d_Model_thing_108 ?_
                  exact mv_iret (pc := 110) B hr rfl d_Model_thing_110 (Nat.le_refl _) (Nat.le_refl _) ⟨_, rfl, hF, Or.inr (Or.inr ⟨x31, wh_of h2 h7, (y17.resolve_left (fun z => h20 z.1)).2, by unfold tgR; rw [if_neg (fun z => h44 (e11.trans z))]; first | (rw [if_pos h72, if_pos h77]; done) | (rw [if_pos h72, if_neg h77]; done) | (rw [if_neg h72]; unfold thN; rw [if_neg (fun z => h44 (e11.trans z)), if_pos h91]; done) | (rw [if_neg h72]; unfold thN; rw [if_neg (fun z => h44 (e11.trans z)), if_neg h91, if_pos h100]; done) | (rw [if_neg h72]; unfold thN; rw [if_neg (fun z => h44 (e11.trans z)), if_neg h91, if_neg h100]; done)⟩)⟩
                · skip
                  refine mv_bipush (pc := 103) (v := 32) B d_Model_thing_103 (by decide) ?_
                  refine mv_goto (pc := 105) (tgt := 110) B d_Model_thing_105 rfl ?_
                  exact mv_iret (pc := 110) B hr rfl d_Model_thing_110 (Nat.le_refl _) (Nat.le_refl _) ⟨_, rfl, hF, Or.inr (Or.inr ⟨x31, wh_of h2 h7, (y17.resolve_left (fun z => h20 z.1)).2, by unfold tgR; rw [if_neg (fun z => h44 (e11.trans z))]; first | (rw [if_pos h72, if_pos h77]; done) | (rw [if_pos h72, if_neg h77]; done) | (rw [if_neg h72]; unfold thN; rw [if_neg (fun z => h44 (e11.trans z)), if_pos h91]; done) | (rw [if_neg h72]; unfold thN; rw [if_neg (fun z => h44 (e11.trans z)), if_neg h91, if_pos h100]; done) | (rw [if_neg h72]; unfold thN; rw [if_neg (fun z => h44 (e11.trans z)), if_neg h91, if_neg h100]; done)⟩)⟩
              · skip
                refine mv_iconst (pc := 94) (v := 0) B d_Model_thing_94 (by decide) ?_
                refine mv_goto (pc := 95) (tgt := 110) B d_Model_thing_95 rfl ?_
                exact mv_iret (pc := 110) B hr rfl d_Model_thing_110 (Nat.le_refl _) (Nat.le_refl _) ⟨_, rfl, hF, Or.inr (Or.inr ⟨x31, wh_of h2 h7, (y17.resolve_left (fun z => h20 z.1)).2, by unfold tgR; rw [if_neg (fun z => h44 (e11.trans z))]; first | (rw [if_pos h72, if_pos h77]; done) | (rw [if_pos h72, if_neg h77]; done) | (rw [if_neg h72]; unfold thN; rw [if_neg (fun z => h44 (e11.trans z)), if_pos h91]; done) | (rw [if_neg h72]; unfold thN; rw [if_neg (fun z => h44 (e11.trans z)), if_neg h91, if_pos h100]; done) | (rw [if_neg h72]; unfold thN; rw [if_neg (fun z => h44 (e11.trans z)), if_neg h91, if_neg h100]; done)⟩)⟩
            · skip
              refine mv_iload_n (pc := 75) B d_Model_thing_75 rfl 1 rfl ?_
              refine mv_iconst (pc := 76) (v := 2) B d_Model_thing_76 (by decide) ?_
              refine mv_icmp_ne (pc := 77) (tgt := 85) B d_Model_thing_77 rfl (fun h77 => ?_) (fun h77 => ?_)
              · skip
                refine mv_bipush (pc := 85) (v := 32) B d_Model_thing_85 (by decide) ?_
                refine mv_goto (pc := 87) (tgt := 110) B d_Model_thing_87 rfl ?_
                exact mv_iret (pc := 110) B hr rfl d_Model_thing_110 (Nat.le_refl _) (Nat.le_refl _) ⟨_, rfl, hF, Or.inr (Or.inr ⟨x31, wh_of h2 h7, (y17.resolve_left (fun z => h20 z.1)).2, by unfold tgR; rw [if_neg (fun z => h44 (e11.trans z))]; first | (rw [if_pos h72, if_pos h77]; done) | (rw [if_pos h72, if_neg h77]; done) | (rw [if_neg h72]; unfold thN; rw [if_neg (fun z => h44 (e11.trans z)), if_pos h91]; done) | (rw [if_neg h72]; unfold thN; rw [if_neg (fun z => h44 (e11.trans z)), if_neg h91, if_pos h100]; done) | (rw [if_neg h72]; unfold thN; rw [if_neg (fun z => h44 (e11.trans z)), if_neg h91, if_neg h100]; done)⟩)⟩
              · skip
                refine mv_bipush (pc := 80) (v := 8) B d_Model_thing_80 (by decide) ?_
                refine mv_goto (pc := 82) (tgt := 110) B d_Model_thing_82 rfl ?_
                exact mv_iret (pc := 110) B hr rfl d_Model_thing_110 (Nat.le_refl _) (Nat.le_refl _) ⟨_, rfl, hF, Or.inr (Or.inr ⟨x31, wh_of h2 h7, (y17.resolve_left (fun z => h20 z.1)).2, by unfold tgR; rw [if_neg (fun z => h44 (e11.trans z))]; first | (rw [if_pos h72, if_pos h77]; done) | (rw [if_pos h72, if_neg h77]; done) | (rw [if_neg h72]; unfold thN; rw [if_neg (fun z => h44 (e11.trans z)), if_pos h91]; done) | (rw [if_neg h72]; unfold thN; rw [if_neg (fun z => h44 (e11.trans z)), if_neg h91, if_pos h100]; done) | (rw [if_neg h72]; unfold thN; rw [if_neg (fun z => h44 (e11.trans z)), if_neg h91, if_neg h100]; done)⟩)⟩
          · skip
            have hin := hTP.in hM h44
            refine mv_iload_n (pc := 47) B d_Model_thing_47 rfl 2 rfl ?_
            refine mv_if_ne (pc := 48) (tgt := 62) B d_Model_thing_48 rfl (fun h48 => ?_) (fun h48 => ?_)
            · skip
              refine mv_aload_n (pc := 62) B d_Model_thing_62 rfl 0 rfl ?_
              refine mv_getR (pc := 63) (ci := 11) (C := R_Model) (T := F_Model) (N := 16) B 9 rfl rfl (by decide) i_Model (B.2.2.2.1 _ k_2054) rfl hM.2.1 d_Model_thing_63 ?_
              refine mv_iload_n (pc := 66) B d_Model_thing_66 rfl 1 rfl ?_
              refine mv_callVi (pc := 67) (n := 1) (ci := 12) (C := R_Book) B (mK_ok sk sv) hNs rfl rfl (c_Book_cellsOf_y l hi _ _ hM.1 hin.1.1 hin.1.2) rfl (ma_goodc kc_Book_cellsOf) (B.2.2.2.1 _ k_2419) (B.2.2.2.1 _ k_2420) (B.2.2.2.1 _ k_2421) (B.2.2.2.1 _ k_13) ⟨by decide +kernel, by decide +kernel, by decide +kernel⟩ rfl d_Model_thing_67 rfl (Nat.le_of_ble_eq_true rfl) ⟨by decide, by decide⟩ ⟨by decide, by decide⟩ ⟨by decide, by decide⟩ (mv_noH hno _) (fun v67 σ67 h67 => ?_)
              obtain ⟨e67, z67⟩ := h67
              have e67 := e67.symm
              subst e67
              exact mv_iret (pc := 70) B hr rfl d_Model_thing_70 (Nat.le_refl _) (Nat.le_refl _) ⟨_, rfl, hF, Or.inr (Or.inr ⟨x31, wh_of h2 h7, (y17.resolve_left (fun z => h20 z.1)).2, by unfold tgR; rw [if_pos (e11.symm.trans h44)]; first | (rw [if_pos h48, ← r31]; exact z56) | (rw [if_neg h48]; unfold thN; rw [if_pos (e11.symm.trans h44), ← r31]; rcases z67 with z | z; (rw [if_pos z.1]; exact z.2); (rw [if_neg z.1]; exact z.2))⟩)⟩
            · skip
              refine mv_aload_n (pc := 51) B d_Model_thing_51 rfl 0 rfl ?_
              refine mv_getR (pc := 52) (ci := 11) (C := R_Model) (T := F_Model) (N := 16) B 9 rfl rfl (by decide) i_Model (B.2.2.2.1 _ k_2054) rfl hM.2.1 d_Model_thing_52 ?_
              refine mv_iload_n (pc := 55) B d_Model_thing_55 rfl 1 rfl ?_
              refine mv_callVi (pc := 56) (n := 1) (ci := 12) (C := R_Book) B (mK_ok sk sv) hNs rfl rfl (c_kt_Book_widthOf_y l hi _ _ hM.1 hin.1.1 hin.1.2) rfl (ma_goodc kc_Book_widthOf) (B.2.2.2.1 _ k_2582) (B.2.2.2.1 _ k_2583) (B.2.2.2.1 _ k_2584) (B.2.2.2.1 _ k_13) ⟨by decide +kernel, by decide +kernel, by decide +kernel⟩ rfl d_Model_thing_56 rfl (Nat.le_of_ble_eq_true rfl) ⟨by decide, by decide⟩ ⟨by decide, by decide⟩ ⟨by decide, by decide⟩ (mv_noH hno _) (fun v56 σ56 h56 => ?_)
              obtain ⟨e56, z56⟩ := h56
              have e56 := e56.symm
              subst e56
              refine mv_goto (pc := 59) (tgt := 70) B d_Model_thing_59 rfl ?_
              exact mv_iret (pc := 70) B hr rfl d_Model_thing_70 (Nat.le_refl _) (Nat.le_refl _) ⟨_, rfl, hF, Or.inr (Or.inr ⟨x31, wh_of h2 h7, (y17.resolve_left (fun z => h20 z.1)).2, by unfold tgR; rw [if_pos (e11.symm.trans h44)]; first | (rw [if_pos h48, ← r31]; exact z56) | (rw [if_neg h48]; unfold thN; rw [if_pos (e11.symm.trans h44), ← r31]; rcases z67 with z | z; (rw [if_pos z.1]; exact z.2); (rw [if_neg z.1]; exact z.2))⟩)⟩
        · skip
          exact absurd (by rw [x31]; decide) h35
      · skip
        refine mv_iconst (pc := 23) (v := 2) B d_Model_thing_23 (by decide) ?_
        refine mv_goto (pc := 24) (tgt := 28) B d_Model_thing_24 rfl ?_
        refine mv_putI (pc := 28) (ci := 11) (C := R_Model) (T := F_Model) (N := 16) B 2 rfl rfl (by decide) i_Model t_Model_ok n_Model (B.2.2.2.1 _ k_2047) rfl rfl rfl rfl d_Model_thing_28 ?_
        refine mv_gen (fun S31 eS31 => ?_)
        have hF : QF 108 σ S31 := by rw [eS31]; exact QF.si Fx.rf (by decide)
        have hM := hM.qf hF hN
        first | have x31 : mv_i S31 70 2 = 0 := by rw [eS31, mv_si_s] | have x31 : mv_i S31 70 2 = 1 := by rw [eS31, mv_si_s] | have x31 : mv_i S31 70 2 = 2 := by rw [eS31, mv_si_s]
        try have hTP : TP9 108 S31 t9 0 := (z17.resolve_left h20).2.th eS31 hN
        have r31 : mv_a S31 = mv_a σ := by rw [eS31]; rfl
        have e11 : mv_i S31 70 11 = mv_i σ 70 11 := hF.sh hN
        clear eS31
        refine mv_aload_n (pc := 31) B d_Model_thing_31 rfl 0 rfl ?_
        refine mv_getI (pc := 32) (ci := 11) (C := R_Model) (T := F_Model) (N := 16) B 2 rfl rfl (by decide) i_Model (B.2.2.2.1 _ k_2047) rfl d_Model_thing_32 ?_
        refine mv_if_le (pc := 35) (tgt := 40) B d_Model_thing_35 rfl (fun h35 => ?_) (fun h35 => ?_)
        · skip
          exact absurd h35 (by rw [x31]; decide)
        · skip
          refine mv_iconst (pc := 38) (v := 0) B d_Model_thing_38 (by decide) ?_
          exact mv_iret (pc := 39) B hr rfl d_Model_thing_39 (Nat.le_refl _) (Nat.le_refl _) ⟨_, rfl, hF, by first | exact Or.inl ⟨x31, wh_no1 h2⟩ | exact Or.inl ⟨x31, wh_no2 h7⟩ | exact Or.inr (Or.inl ⟨x31, wh_of h2 h7, (y17.resolve_right (fun z => by rw [h20] at z; exact absurd z.1 (by decide))).2⟩)⟩
    · skip
      refine mv_iconst (pc := 10) (v := 1) B d_Model_thing_10 (by decide) ?_
      refine mv_goto (pc := 11) (tgt := 28) B d_Model_thing_11 rfl ?_
      refine mv_putI (pc := 28) (ci := 11) (C := R_Model) (T := F_Model) (N := 16) B 2 rfl rfl (by decide) i_Model t_Model_ok n_Model (B.2.2.2.1 _ k_2047) rfl rfl rfl rfl d_Model_thing_28 ?_
      refine mv_gen (fun S31 eS31 => ?_)
      have hF : QF 108 σ S31 := by rw [eS31]; exact QF.si Fx.rf (by decide)
      have hM := hM.qf hF hN
      first | have x31 : mv_i S31 70 2 = 0 := by rw [eS31, mv_si_s] | have x31 : mv_i S31 70 2 = 1 := by rw [eS31, mv_si_s] | have x31 : mv_i S31 70 2 = 2 := by rw [eS31, mv_si_s]
      try have hTP : TP9 108 S31 t9 0 := (z17.resolve_left h20).2.th eS31 hN
      have r31 : mv_a S31 = mv_a σ := by rw [eS31]; rfl
      have e11 : mv_i S31 70 11 = mv_i σ 70 11 := hF.sh hN
      clear eS31
      refine mv_aload_n (pc := 31) B d_Model_thing_31 rfl 0 rfl ?_
      refine mv_getI (pc := 32) (ci := 11) (C := R_Model) (T := F_Model) (N := 16) B 2 rfl rfl (by decide) i_Model (B.2.2.2.1 _ k_2047) rfl d_Model_thing_32 ?_
      refine mv_if_le (pc := 35) (tgt := 40) B d_Model_thing_35 rfl (fun h35 => ?_) (fun h35 => ?_)
      · skip
        exact absurd h35 (by rw [x31]; decide)
      · skip
        refine mv_iconst (pc := 38) (v := 0) B d_Model_thing_38 (by decide) ?_
        exact mv_iret (pc := 39) B hr rfl d_Model_thing_39 (Nat.le_refl _) (Nat.le_refl _) ⟨_, rfl, hF, by first | exact Or.inl ⟨x31, wh_no1 h2⟩ | exact Or.inl ⟨x31, wh_no2 h7⟩ | exact Or.inr (Or.inl ⟨x31, wh_of h2 h7, (y17.resolve_right (fun z => by rw [h20] at z; exact absurd z.1 (by decide))).2⟩)⟩
