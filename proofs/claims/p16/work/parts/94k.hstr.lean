theorem ch_String_length (l : Launch) {dA : FieldType → ClassId} {D : va_G} {al : Nat → Nat} {ext : mv_Sh} {sk sv : Nat → Nat} (hi : mv_inj (mg dA D al ext)) (σ : mv_H) (i : Nat) (hi9 : i < st_t.length) : mv_C l y_String_length (Cond.code y_String_length b_String_length 1 (Option.some Jvm.ClassFile.FieldType.int) :: ma) ({ frames := 1, cells := 0, slots := 0, locals := 20 }) (mg dA D al ext) (mK sk sv) [.ref (sk i)] σ (mv_Ri (fun v σ1 => v = Int32.ofNat (st_g i).2.2.2.length ∧ σ1 = σ)) :=
  (c_String_length l hi σ i hi9).imp (fun r τ q => by
    obtain ⟨v, e1, e2, e3⟩ := q
    exact ⟨v, e1, Int32.toInt_inj.mp (e3.trans (st_toInt hi9).symm), e2⟩)
theorem ch_String_charAt (l : Launch) {dA : FieldType → ClassId} {D : va_G} {al : Nat → Nat} {ext : mv_Sh} {sk sv : Nat → Nat} (hi : mv_inj (mg dA D al ext)) (σ : mv_H) (i : Nat) (hi9 : i < st_t.length) {k : Int32} (q : vp_in k (st_g i).2.2.2.length) : mv_C l y_String_charAt (Cond.code y_String_charAt b_String_charAt 2 (Option.some Jvm.ClassFile.FieldType.char) :: ma) ({ frames := 3, cells := 0, slots := 0, locals := 64 }) (mg dA D al ext) (mK sk sv) [.ref (sk i), .int k] σ (mv_Ri (fun v σ1 => v = (st_g i).2.2.2.getD k.toNatClampNeg 0 &&& 255 ∧ σ1 = σ)) := by
  have h0 : 0 ≤ k.toInt := Decidable.byContradiction fun z => q (Or.inl (lt0.mpr (by omega)))
  have h1 := i32_cl h0
  have h2 : k.toNatClampNeg < (st_g i).2.2.2.length := Decidable.byContradiction fun z => q (Or.inr (by omega))
  refine (c_String_charAt l hi σ i hi9 k h0 (by omega)).imp (fun r τ q2 => ?_)
  obtain ⟨v, e1, e2, e3⟩ := q2
  exact ⟨v, e1, e3, e2⟩
theorem ch_String_indexOf (l : Launch) {dA : FieldType → ClassId} {D : va_G} {al : Nat → Nat} {ext : mv_Sh} {sk sv : Nat → Nat} (hi : mv_inj (mg dA D al ext)) (σ : mv_H) {k : Int32} (q : vp_in k 256) : mv_C l y_String_indexOf_0 (Cond.code y_String_indexOf_0 b_String_indexOf_0 2 (Option.some Jvm.ClassFile.FieldType.int) :: ma) ({ frames := 3, cells := 0, slots := 0, locals := 85 }) (mg dA D al ext) (mK sk sv) [.ref (sk 133), .int k] σ (mv_Ri (fun v σ1 => v = nI (xix k.toNatClampNeg) ∧ σ1 = σ)) := by
  have h0 : 0 ≤ k.toInt := Decidable.byContradiction fun z => q (Or.inl (lt0.mpr (by omega)))
  have h1 := i32_cl h0
  have h2 : k.toNatClampNeg < 256 := Decidable.byContradiction fun z => q (Or.inr (by omega))
  have e : k = nI k.toNatClampNeg := Int32.toInt_inj.mp (h1.symm.trans (nI_toInt (by omega)).symm)
  have X := cx_String_indexOf (sk := sk) (sv := sv) l hi σ h2
  rw [← e] at X
  exact X
