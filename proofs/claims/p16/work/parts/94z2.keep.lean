/-! what the class's calls leave of its programs -/
/-- the programs stay, and the machine runs the same one -/
def GPr (σ τ : mv_H) : Prop := (∀ o, ((32 ≤ o ∧ o ≤ 63) ∨ 145 ≤ o) → mv_i τ o = mv_i σ o ∧ mv_a τ o = mv_a σ o ∧ mv_b τ o = mv_b σ o) ∧ mv_r τ 64 0 = mv_r σ 64 0
theorem GPr.rf {σ : mv_H} : GPr σ σ := ⟨fun _ _ => ⟨rfl, rfl, rfl⟩, rfl⟩
theorem GPr.tr {σ τ υ : mv_H} (h : GPr σ τ) (g : GPr τ υ) : GPr σ υ := ⟨fun o q => by
  obtain ⟨h1, h2, h3⟩ := h.1 o q
  obtain ⟨g1, g2, g3⟩ := g.1 o q
  exact ⟨g1.trans h1, g2.trans h2, g3.trans h3⟩, g.2.trans h.2⟩
theorem GPr.fF {pi : Nat → Nat → Prop} {pa pb : Nat → Prop} {σ τ : mv_H} (f : Fr pi pa pb σ τ) (g1 : ∀ o k, ((32 ≤ o ∧ o ≤ 63) ∨ 145 ≤ o) → ¬ pi o k) (g2 : ∀ o, ((32 ≤ o ∧ o ≤ 63) ∨ 145 ≤ o) → ¬ pa o) (g3 : ∀ o, ((32 ≤ o ∧ o ≤ 63) ∨ 145 ≤ o) → ¬ pb o) : GPr σ τ :=
  ⟨fun o q => ⟨funext fun k => f.1 _ _ (g1 o k q), f.2.1 _ (g2 o q), f.2.2.1 _ (g3 o q)⟩, by rw [f.2.2.2.2]⟩
theorem GPr.fm {σ τ : mv_H} (f : FM σ τ) : GPr σ τ := GPr.fF f (fun o k q z => by omega) (fun o q z => by omega) (fun o q z => by omega)
theorem GPr.inf {σ τ : mv_H} (f : InF σ τ) : GPr σ τ := GPr.fF f (fun o k q z => by omega) (fun o q z => by omega) (fun o q z => z)
theorem MKp.inf {σ τ : mv_H} (f : InF σ τ) : MKp σ τ := ⟨fun k => f.1 _ _ (by omega), f.2.2.1 _ id⟩
theorem GPr.sb {σ τ : mv_H} {k : Nat} {v : Int64} (h : GPr σ τ) : GPr σ (mv_sb τ 142 k v) := ⟨fun o q => ⟨(h.1 o q).1, (h.1 o q).2.1, (mv_u_o _ _ (by omega)).trans (h.1 o q).2.2⟩, h.2⟩
theorem SPq.gp {P : Nat} {s : SI} {σ τ : mv_H} (h : SPq P s σ) (g : GPr σ τ) (hP : P = 32 ∨ P = 48 ∨ P = 145) : SPq P s τ :=
  h.fr (fun k _ => by rw [(g.1 P (by omega)).1]) (fun o k ho _ => by rw [(g.1 o (by omega)).2.2]) (fun o k ho _ => by rw [(g.1 o (by omega)).2.1]) (fun k _ => by rw [(g.1 (P + 8) (by omega)).2.1])

set_option maxHeartbeats 4000000 in
set_option maxRecDepth 100000 in
theorem c_kg_Loom_feed (l : Launch) {dA : FieldType → ClassId} {D : va_G} {al : Nat → Nat} {ext : mv_Sh} {sk sv : Nat → Nat} (hi : mv_inj (mg dA D al ext)) (σ : mv_H) (hlt : l.stackTraces = false) (a9 b9 c9 d9 e9 : Int32) (P9 R9 M9 k9 : Nat) (hC : LC ext σ P9 R9 M9 k9) (hk : k9 + 20 ≤ 32768) : mv_C l y_Loom_feed (Cond.code y_Loom_feed b_Loom_feed 6 (Option.some Jvm.ClassFile.FieldType.int) :: ma) ({ frames := 1, cells := 0, slots := 0, locals := 22 }) (mg dA D al ext) (mKt sk sv) [.ref (al 0), .int a9, .int b9, .int c9, .int d9, .int e9] σ (mv_Ri (fun v σ1 => v.toInt = ((k9 + 4 + 4 + 4 + 4 + 4 : Nat) : Int) ∧ LC ext σ1 P9 R9 M9 (k9 + 4 + 4 + 4 + 4 + 4) ∧ GFf σ σ1 ∧ FE σ σ1 k9 20 (fb a9 b9 c9 d9 e9) ∧ GPr σ σ1 ∧ MKp σ σ1)) := by
  refine mv_C.ofV (cc := b_Loom_feed) (nL := 6) (ret := (Option.some Jvm.ClassFile.FieldType.int)) (by decide +kernel) rfl hi (Nat.le_of_ble_eq_true rfl) ?_
  intro p e s m below meth c B hNs hr hnm hno
  have hk1 := hC.2.1.1
  refine mv_aload_n (pc := 0) B d_Loom_feed_0 rfl 0 rfl ?_
  refine mv_getI (pc := 1) (ci := 0) (C := R_Loom) (T := F_Loom) (N := 10) B 1 rfl rfl (by decide) i_Loom (B.2.2.2.1 _ k_487) rfl d_Loom_feed_1 ?_
  refine mv_bipush (pc := 4) (v := 20) B d_Loom_feed_4 (by decide) ?_
  refine mv_iadd (pc := 6) B d_Loom_feed_6 ?_
  refine mv_ldc (pc := 7) (v := 32768) B (B.2.2.2.1 _ k_45) d_Loom_feed_7 ?_
  refine mv_icmp_le (pc := 9) (tgt := 20) B d_Loom_feed_9 rfl (fun h9 => ?_) (fun h9 => ?_)
  · skip
    refine mv_aload_n (pc := 20) B d_Loom_feed_20 rfl 0 rfl ?_
    refine mv_iload_n (pc := 21) B d_Loom_feed_21 rfl 1 rfl ?_
    refine mv_callVv (pc := 22) (n := 1) (ci := 0) (C := R_Loom) B (mK_ok sk sv) hNs.1 rfl rfl (c_Loom_putNumber l hi _ _ k9 hC.2.2.1.1 hC.2.1 (by omega)) rfl (ma_goodc kc_Loom_putNumber) (B.2.2.2.1 _ k_1692) (B.2.2.2.1 _ k_1694) (B.2.2.2.1 _ ks_77) (B.2.2.2.1 _ k_1) ⟨by decide +kernel, by decide +kernel, by decide +kernel⟩ rfl d_Loom_feed_22 rfl (Nat.le_of_ble_eq_true rfl) ⟨by decide, by decide⟩ ⟨by decide, by decide⟩ ⟨by decide, by decide⟩ (mv_noH hno _) (fun σ22 h22 => ?_)
    obtain ⟨gF, gI, p22⟩ := h22
    have gE := FE.put (FE.rf (g := fb a9 b9 c9 d9 e9)) p22 rfl (fb_0 a9 b9 c9 d9 e9)
    have gh : mh (mv_r σ22) := by rw [gF.2.2.2.2]; exact hC.2.2.1.1
    refine mv_aload_n (pc := 25) B d_Loom_feed_25 rfl 0 rfl ?_
    refine mv_iload_n (pc := 26) B d_Loom_feed_26 rfl 2 rfl ?_
    refine mv_callVv (pc := 27) (n := 1) (ci := 0) (C := R_Loom) B (mK_ok sk sv) hNs.1 rfl rfl (c_Loom_putNumber l hi _ _ (k9 + 4) gh gI (by omega)) rfl (ma_goodc kc_Loom_putNumber) (B.2.2.2.1 _ k_1692) (B.2.2.2.1 _ k_1694) (B.2.2.2.1 _ ks_77) (B.2.2.2.1 _ k_1) ⟨by decide +kernel, by decide +kernel, by decide +kernel⟩ rfl d_Loom_feed_27 rfl (Nat.le_of_ble_eq_true rfl) ⟨by decide, by decide⟩ ⟨by decide, by decide⟩ ⟨by decide, by decide⟩ (mv_noH hno _) (fun σ27 h27 => ?_)
    obtain ⟨f27, gI, p27⟩ := h27
    have gE := gE.put p27 (by omega) (fb_4 a9 b9 c9 d9 e9)
    have gF := gF.tr f27
    have gh : mh (mv_r σ27) := by rw [gF.2.2.2.2]; exact hC.2.2.1.1
    refine mv_aload_n (pc := 30) B d_Loom_feed_30 rfl 0 rfl ?_
    refine mv_iload_n (pc := 31) B d_Loom_feed_31 rfl 3 rfl ?_
    refine mv_callVv (pc := 32) (n := 1) (ci := 0) (C := R_Loom) B (mK_ok sk sv) hNs.1 rfl rfl (c_Loom_putNumber l hi _ _ (k9 + 4 + 4) gh gI (by omega)) rfl (ma_goodc kc_Loom_putNumber) (B.2.2.2.1 _ k_1692) (B.2.2.2.1 _ k_1694) (B.2.2.2.1 _ ks_77) (B.2.2.2.1 _ k_1) ⟨by decide +kernel, by decide +kernel, by decide +kernel⟩ rfl d_Loom_feed_32 rfl (Nat.le_of_ble_eq_true rfl) ⟨by decide, by decide⟩ ⟨by decide, by decide⟩ ⟨by decide, by decide⟩ (mv_noH hno _) (fun σ32 h32 => ?_)
    obtain ⟨f32, gI, p32⟩ := h32
    have gE := gE.put p32 (by omega) (fb_8 a9 b9 c9 d9 e9)
    have gF := gF.tr f32
    have gh : mh (mv_r σ32) := by rw [gF.2.2.2.2]; exact hC.2.2.1.1
    refine mv_aload_n (pc := 35) B d_Loom_feed_35 rfl 0 rfl ?_
    refine mv_iload (pc := 36) B d_Loom_feed_36 4 rfl ?_
    refine mv_callVv (pc := 38) (n := 1) (ci := 0) (C := R_Loom) B (mK_ok sk sv) hNs.1 rfl rfl (c_Loom_putNumber l hi _ _ (k9 + 4 + 4 + 4) gh gI (by omega)) rfl (ma_goodc kc_Loom_putNumber) (B.2.2.2.1 _ k_1692) (B.2.2.2.1 _ k_1694) (B.2.2.2.1 _ ks_77) (B.2.2.2.1 _ k_1) ⟨by decide +kernel, by decide +kernel, by decide +kernel⟩ rfl d_Loom_feed_38 rfl (Nat.le_of_ble_eq_true rfl) ⟨by decide, by decide⟩ ⟨by decide, by decide⟩ ⟨by decide, by decide⟩ (mv_noH hno _) (fun σ38 h38 => ?_)
    obtain ⟨f38, gI, p38⟩ := h38
    have gE := gE.put p38 (by omega) (fb_12 a9 b9 c9 d9 e9)
    have gF := gF.tr f38
    have gh : mh (mv_r σ38) := by rw [gF.2.2.2.2]; exact hC.2.2.1.1
    refine mv_aload_n (pc := 41) B d_Loom_feed_41 rfl 0 rfl ?_
    refine mv_iload (pc := 42) B d_Loom_feed_42 5 rfl ?_
    refine mv_callVv (pc := 44) (n := 1) (ci := 0) (C := R_Loom) B (mK_ok sk sv) hNs.1 rfl rfl (c_Loom_putNumber l hi _ _ (k9 + 4 + 4 + 4 + 4) gh gI (by omega)) rfl (ma_goodc kc_Loom_putNumber) (B.2.2.2.1 _ k_1692) (B.2.2.2.1 _ k_1694) (B.2.2.2.1 _ ks_77) (B.2.2.2.1 _ k_1) ⟨by decide +kernel, by decide +kernel, by decide +kernel⟩ rfl d_Loom_feed_44 rfl (Nat.le_of_ble_eq_true rfl) ⟨by decide, by decide⟩ ⟨by decide, by decide⟩ ⟨by decide, by decide⟩ (mv_noH hno _) (fun σ44 h44 => ?_)
    obtain ⟨f44, gI, p44⟩ := h44
    have gE := gE.put p44 (by omega) (fb_16 a9 b9 c9 d9 e9)
    have gF := gF.tr f44
    refine mv_aload_n (pc := 47) B d_Loom_feed_47 rfl 0 rfl ?_
    refine mv_getI (pc := 48) (ci := 0) (C := R_Loom) (T := F_Loom) (N := 10) B 1 rfl rfl (by decide) i_Loom (B.2.2.2.1 _ k_487) rfl d_Loom_feed_48 ?_
    exact mv_iret (pc := 51) B hr rfl d_Loom_feed_51 (Nat.le_refl _) (Nat.le_refl _) ⟨_, rfl, gI.1, hC.inf gF gI, GFf.inf gF, gE, GPr.inf gF, MKp.inf gF⟩
  · skip
    exact absurd (show (mv_i σ 0 1 + 20).toInt ≤ 32768 by rw [i32_add (x := mv_i σ 0 1) (y := 20) (by show -2147483648 ≤ (mv_i σ 0 1).toInt + 20; omega) (by show (mv_i σ 0 1).toInt + 20 < 2147483648; omega)]; show (mv_i σ 0 1).toInt + 20 ≤ 32768; omega) (fun z => h9 (Int32.le_iff_toInt_le.mpr z))
set_option maxHeartbeats 4000000 in
set_option maxRecDepth 100000 in
theorem c_kg_Loom_end (l : Launch) {dA : FieldType → ClassId} {D : va_G} {al : Nat → Nat} {ext : mv_Sh} {sk sv : Nat → Nat} (hi : mv_inj (mg dA D al ext)) (σ : mv_H) (hlt : l.stackTraces = false) (n9 : Int32) (P9 R9 M9 k9 : Nat) (hC : LC ext σ P9 R9 M9 k9) : mv_C l y_Loom_end (Cond.code y_Loom_end b_Loom_end 2 (Option.some Jvm.ClassFile.FieldType.int) :: ma) ({ frames := 6, cells := 1, slots := 6, locals := 81 }) (mg dA D al ext) (mKt sk sv) [.ref (al 0), .int n9] σ (mv_Ti (fun v σ1 => v.toInt = ((k9 - n9.toInt.toNat : Nat) : Int) ∧ 0 ≤ n9.toInt ∧ n9.toInt ≤ k9 ∧ LC ext σ1 P9 R9 M9 (k9 - n9.toInt.toNat) ∧ GF σ σ1 ∧ GPr σ σ1 ∧ MKp σ σ1) (fun X σ1 => X = "java/lang/IllegalArgumentException" ∧ σ1 = σ ∧ (n9.toInt < 0 ∨ (k9 : Int) < n9.toInt))) := by
  refine mv_C.ofV (cc := b_Loom_end) (nL := 2) (ret := (Option.some Jvm.ClassFile.FieldType.int)) (by decide +kernel) rfl hi (Nat.le_of_ble_eq_true rfl) ?_
  intro p e s m below meth c B hNs hr hnm hno
  have hk1 := hC.2.1.1
  have hk2 := hC.2.1.2.1
  refine mv_iload_n (pc := 0) B d_Loom_end_0 rfl 1 rfl ?_
  refine mv_if_lt (pc := 1) (tgt := 12) B d_Loom_end_1 rfl (fun h1 => ?_) (fun h1 => ?_)
  · skip
    have hx : n9.toInt < 0 ∨ (k9 : Int) < n9.toInt := Or.inl (by have := Int32.lt_iff_toInt_lt.mp h1; simpa using this)
    exact mv_throw0 (pc := 12) (ik := 71) (ic := 73) B hlt hNs.2.1 (X := "java/lang/IllegalArgumentException") (by decide +kernel) (B.2.2.2.1 _ k_1704) (B.2.2.2.1 _ k_19) (B.2.2.2.1 _ k_955) rfl (fun s9 hv9 a9 b9 c9 d9 => have hm9 := mt_ma B.2.2.2.1 hv9; mt_w_iae hm9 (hm9 _ k_1705) a9 b9 c9 d9) d_Loom_end_12 d_Loom_end_15 d_Loom_end_16 d_Loom_end_19 (mv_noH hno _) ⟨by decide, by decide⟩ ⟨by decide, by decide⟩ ⟨by decide, by decide⟩ (fun a9 => Or.inr ⟨_, a9, rfl, rfl, rfl, hx⟩)
  · skip
    refine mv_iload_n (pc := 4) B d_Loom_end_4 rfl 1 rfl ?_
    refine mv_aload_n (pc := 5) B d_Loom_end_5 rfl 0 rfl ?_
    refine mv_getI (pc := 6) (ci := 0) (C := R_Loom) (T := F_Loom) (N := 10) B 1 rfl rfl (by decide) i_Loom (B.2.2.2.1 _ k_487) rfl d_Loom_end_6 ?_
    refine mv_icmp_le (pc := 9) (tgt := 20) B d_Loom_end_9 rfl (fun h9 => ?_) (fun h9 => ?_)
    · skip
      have z9 := Int32.le_iff_toInt_le.mp h9
      have z1 : ¬ n9.toInt < 0 := fun z => h1 (Int32.lt_iff_toInt_lt.mpr (by simpa using z))
      refine mv_aload_n (pc := 20) B d_Loom_end_20 rfl 0 rfl ?_
      refine mv_dup (pc := 21) B d_Loom_end_21 rfl ?_
      refine mv_getI (pc := 22) (ci := 0) (C := R_Loom) (T := F_Loom) (N := 10) B 1 rfl rfl (by decide) i_Loom (B.2.2.2.1 _ k_487) rfl d_Loom_end_22 ?_
      refine mv_iload_n (pc := 25) B d_Loom_end_25 rfl 1 rfl ?_
      refine mv_isub (pc := 26) B d_Loom_end_26 ?_
      refine mv_putI (pc := 27) (ci := 0) (C := R_Loom) (T := F_Loom) (N := 10) B 1 rfl rfl (by decide) i_Loom t_Loom_ok n_Loom (B.2.2.2.1 _ k_487) rfl rfl rfl rfl d_Loom_end_27 ?_
      refine mv_gen (fun S30 eS30 => ?_)
      have gI : In S30 (k9 - n9.toInt.toNat) := by
        rw [eS30]
        refine ⟨?_, by omega, hC.2.1.2.2⟩
        show (mv_i σ 0 1 - n9).toInt = _
        rw [i32_sub (by omega) (by omega)]
        omega
      have gF : InF σ S30 := by rw [eS30]; exact Fr.rf.si ⟨rfl, rfl⟩
      have gR : mv_a S30 1 = mv_a σ 1 := by rw [eS30]; rfl
      clear eS30
      refine mv_aload_n (pc := 30) B d_Loom_end_30 rfl 0 rfl ?_
      refine mv_getI (pc := 31) (ci := 0) (C := R_Loom) (T := F_Loom) (N := 10) B 1 rfl rfl (by decide) i_Loom (B.2.2.2.1 _ k_487) rfl d_Loom_end_31 ?_
      exact mv_iret (pc := 34) B hr rfl d_Loom_end_34 (Nat.le_of_ble_eq_true rfl) (Nat.le_of_ble_eq_true rfl) (Or.inl ⟨_, rfl, gI.1, by omega, by omega, hC.inf gF gI, ⟨GFf.inf gF, gR⟩, GPr.inf gF, MKp.inf gF⟩)
    · skip
      have hx : n9.toInt < 0 ∨ (k9 : Int) < n9.toInt := Or.inr (by have z9 : ¬ n9.toInt ≤ (mv_i σ 0 1).toInt := fun z => h9 (Int32.le_iff_toInt_le.mpr z); omega)
      exact mv_throw0 (pc := 12) (ik := 71) (ic := 73) B hlt hNs.2.1 (X := "java/lang/IllegalArgumentException") (by decide +kernel) (B.2.2.2.1 _ k_1704) (B.2.2.2.1 _ k_19) (B.2.2.2.1 _ k_955) rfl (fun s9 hv9 a9 b9 c9 d9 => have hm9 := mt_ma B.2.2.2.1 hv9; mt_w_iae hm9 (hm9 _ k_1705) a9 b9 c9 d9) d_Loom_end_12 d_Loom_end_15 d_Loom_end_16 d_Loom_end_19 (mv_noH hno _) ⟨by decide, by decide⟩ ⟨by decide, by decide⟩ ⟨by decide, by decide⟩ (fun a9 => Or.inr ⟨_, a9, rfl, rfl, rfl, hx⟩)
set_option maxHeartbeats 4000000 in
set_option maxRecDepth 100000 in
theorem c_kg_Loom_poke_a (l : Launch) {dA : FieldType → ClassId} {D : va_G} {al : Nat → Nat} {ext : mv_Sh} {sk sv : Nat → Nat} (hi : mv_inj (mg dA D al ext)) (σ : mv_H) (hlt : l.stackTraces = false) (t9 i9 : Int32) (w9 : Int64) (k9 : Nat) (hC : LC ext σ 32 32768 512 k9) : mv_C l y_Loom_poke (Cond.code y_Loom_poke b_Loom_poke 5 (Option.none : Option Jvm.ClassFile.FieldType) :: ma) ({ frames := 6, cells := 1, slots := 6, locals := 81 }) (mg dA D al ext) (mKt sk sv) [.ref (al 0), .int t9, .int i9, .long w9] σ (mv_Tv (fun σ1 => LC ext σ1 32 32768 512 k9 ∧ GF σ σ1 ∧ GPr σ σ1) (fun X σ1 => X = "java/util/NoSuchElementException" ∧ σ1 = σ)) := by
  refine mv_C.ofV (cc := b_Loom_poke) (nL := 5) (ret := (Option.none : Option Jvm.ClassFile.FieldType)) (by decide +kernel) rfl hi (Nat.le_of_ble_eq_true rfl) ?_
  intro p e s m below meth c B hNs hr hnm hno
  have hC9 := hC
  obtain ⟨hPP, hI, hR, hW, ⟨th, sl, hO, ho0, ho1, ho2⟩, hLS⟩ := hC
  have hT9 := hO.1
  obtain ⟨hT1, hT2, hT3, hT4, hT5, hT6, hT7, hT8⟩ := hO.1
  refine mv_aload_n (pc := 0) B d_Loom_poke_0 rfl 0 rfl ?_
  refine mv_getR (pc := 1) (ci := 0) (C := R_Loom) (T := F_Loom) (N := 10) B 9 rfl rfl (by decide) i_Loom (B.2.2.2.1 _ k_495) rfl (hR.1 _ 9 _ rfl) d_Loom_poke_1 ?_
  refine mv_getR (pc := 4) (ci := 9) (C := R_Machine) (T := F_Machine) (N := 13) B 0 rfl rfl (by decide) i_Machine (B.2.2.2.1 _ k_441) rfl hR.2.2 d_Loom_poke_4 ?_
  refine mv_iload_n (pc := 7) B d_Loom_poke_7 rfl 1 rfl ?_
  refine mv_iload_n (pc := 8) B d_Loom_poke_8 rfl 2 rfl ?_
  refine mv_callVi (pc := 9) (n := 2) (ci := 7) (C := R_Program) B (mK_ok sk sv) hNs.1 rfl rfl (c_Program_has_a l hi _ _ _ hR.2.1 (by omega)) rfl (ma_goodc kc_Program_has) (B.2.2.2.1 _ k_1774) (B.2.2.2.1 _ k_1775) (B.2.2.2.1 _ k_1776) (B.2.2.2.1 _ k_8) ⟨by decide +kernel, by decide +kernel, by decide +kernel⟩ rfl d_Loom_poke_9 rfl (Nat.le_of_ble_eq_true rfl) ⟨by decide, by decide⟩ ⟨by decide, by decide⟩ ⟨by decide, by decide⟩ (mv_noH hno _) (fun v9 σ9 h9 => ?_)
  obtain ⟨e9, z9⟩ := h9
  have e9 := e9.symm
  subst e9
  refine mv_if_ne (pc := 12) (tgt := 23) B d_Loom_poke_12 rfl (fun h12 => ?_) (fun h12 => ?_)
  · skip
    have z8 := z9.resolve_left h12
    obtain ⟨-, z1, z2, z3, z4⟩ := z8
    obtain ⟨tn, etn⟩ : ∃ tn : Nat, t9.toInt = tn := ⟨t9.toInt.toNat, by omega⟩
    have hcl : t9.toNatClampNeg = tn := by rw [Int32.toNatClampNeg, etn]; rfl
    obtain ⟨cw, fw, q1, q2, q3, q4⟩ := hT7 tn (by omega)
    rw [hcl] at z4
    have z5 : fw + i9.toInt < 65600 := by
      rcases z4 with ⟨-, z4⟩ | ⟨-, z4⟩
      · rw [z4]; show (fw : Int) + 0 < 65600; omega
      · rw [q1] at z4; omega
    refine mv_aload_n (pc := 23) B d_Loom_poke_23 rfl 0 rfl ?_
    refine mv_getR (pc := 24) (ci := 0) (C := R_Loom) (T := F_Loom) (N := 10) B 9 rfl rfl (by decide) i_Loom (B.2.2.2.1 _ k_495) rfl (hR.1 _ 9 _ rfl) d_Loom_poke_24 ?_
    refine mv_iload_n (pc := 27) B d_Loom_poke_27 rfl 1 rfl ?_
    refine mv_iload_n (pc := 28) B d_Loom_poke_28 rfl 2 rfl ?_
    refine mv_lload_n (pc := 29) B d_Loom_poke_29 rfl 3 rfl ?_
    refine mv_callVv (pc := 30) (n := 3) (ci := 9) (C := R_Machine) B (mK_ok sk sv) hNs.1 rfl rfl (c_Machine_put_a l hi _ _ _ _ hR th sl hT9 tn etn (by omega) z3 (by rw [q2]; omega) (by rw [q2]; omega)) rfl (ma_goodc kc_Machine_put) (B.2.2.2.1 _ k_1778) (B.2.2.2.1 _ k_1601) (B.2.2.2.1 _ k_1602) (B.2.2.2.1 _ k_11) ⟨by decide +kernel, by decide +kernel, by decide +kernel⟩ rfl d_Loom_poke_30 rfl (Nat.le_of_ble_eq_true rfl) ⟨by decide, by decide⟩ ⟨by decide, by decide⟩ ⟨by decide, by decide⟩ (mv_noH hno _) (fun σ30 h30 => ?_)
    exact mv_vret (pc := 33) B hr d_Loom_poke_33 (Nat.le_of_ble_eq_true rfl) (Nat.le_of_ble_eq_true rfl) (Or.inl ⟨rfl, hC9.fm (h30.up (fun _ _ z => absurd z id) (fun _ z => absurd z id) (fun o z => Or.inl z)), GF.fm (h30.up (fun _ _ z => absurd z id) (fun _ z => absurd z id) (fun o z => Or.inl z)), GPr.fm (h30.up (fun _ _ z => absurd z id) (fun _ z => absurd z id) (fun o z => Or.inl z))⟩)
  · skip
    exact mv_throw0 (pc := 15) (ik := 131) (ic := 133) B hlt hNs.2.1 (X := "java/util/NoSuchElementException") (by decide +kernel) (B.2.2.2.1 _ k_1751) (B.2.2.2.1 _ k_36) (B.2.2.2.1 _ k_1752) rfl (fun s9 hv9 a9 b9 c9 d9 => have hm9 := mt_ma B.2.2.2.1 hv9; mt_w_nse hm9 (hm9 _ k_1760) a9 b9 c9 d9) d_Loom_poke_15 d_Loom_poke_18 d_Loom_poke_19 d_Loom_poke_22 (mv_noH hno _) ⟨by decide, by decide⟩ ⟨by decide, by decide⟩ ⟨by decide, by decide⟩ (fun a9 => Or.inr ⟨_, a9, rfl, rfl, rfl⟩)
set_option maxHeartbeats 4000000 in
set_option maxRecDepth 100000 in
theorem c_kg_Loom_poke_b (l : Launch) {dA : FieldType → ClassId} {D : va_G} {al : Nat → Nat} {ext : mv_Sh} {sk sv : Nat → Nat} (hi : mv_inj (mg dA D al ext)) (σ : mv_H) (hlt : l.stackTraces = false) (t9 i9 : Int32) (w9 : Int64) (k9 : Nat) (hC : LC ext σ 48 32768 512 k9) : mv_C l y_Loom_poke (Cond.code y_Loom_poke b_Loom_poke 5 (Option.none : Option Jvm.ClassFile.FieldType) :: ma) ({ frames := 6, cells := 1, slots := 6, locals := 81 }) (mg dA D al ext) (mKt sk sv) [.ref (al 0), .int t9, .int i9, .long w9] σ (mv_Tv (fun σ1 => LC ext σ1 48 32768 512 k9 ∧ GF σ σ1 ∧ GPr σ σ1) (fun X σ1 => X = "java/util/NoSuchElementException" ∧ σ1 = σ)) := by
  refine mv_C.ofV (cc := b_Loom_poke) (nL := 5) (ret := (Option.none : Option Jvm.ClassFile.FieldType)) (by decide +kernel) rfl hi (Nat.le_of_ble_eq_true rfl) ?_
  intro p e s m below meth c B hNs hr hnm hno
  have hC9 := hC
  obtain ⟨hPP, hI, hR, hW, ⟨th, sl, hO, ho0, ho1, ho2⟩, hLS⟩ := hC
  have hT9 := hO.1
  obtain ⟨hT1, hT2, hT3, hT4, hT5, hT6, hT7, hT8⟩ := hO.1
  refine mv_aload_n (pc := 0) B d_Loom_poke_0 rfl 0 rfl ?_
  refine mv_getR (pc := 1) (ci := 0) (C := R_Loom) (T := F_Loom) (N := 10) B 9 rfl rfl (by decide) i_Loom (B.2.2.2.1 _ k_495) rfl (hR.1 _ 9 _ rfl) d_Loom_poke_1 ?_
  refine mv_getR (pc := 4) (ci := 9) (C := R_Machine) (T := F_Machine) (N := 13) B 0 rfl rfl (by decide) i_Machine (B.2.2.2.1 _ k_441) rfl hR.2.2 d_Loom_poke_4 ?_
  refine mv_iload_n (pc := 7) B d_Loom_poke_7 rfl 1 rfl ?_
  refine mv_iload_n (pc := 8) B d_Loom_poke_8 rfl 2 rfl ?_
  refine mv_callVi (pc := 9) (n := 2) (ci := 7) (C := R_Program) B (mK_ok sk sv) hNs.1 rfl rfl (c_Program_has_b l hi _ _ _ hR.2.1 (by omega)) rfl (ma_goodc kc_Program_has) (B.2.2.2.1 _ k_1774) (B.2.2.2.1 _ k_1775) (B.2.2.2.1 _ k_1776) (B.2.2.2.1 _ k_8) ⟨by decide +kernel, by decide +kernel, by decide +kernel⟩ rfl d_Loom_poke_9 rfl (Nat.le_of_ble_eq_true rfl) ⟨by decide, by decide⟩ ⟨by decide, by decide⟩ ⟨by decide, by decide⟩ (mv_noH hno _) (fun v9 σ9 h9 => ?_)
  obtain ⟨e9, z9⟩ := h9
  have e9 := e9.symm
  subst e9
  refine mv_if_ne (pc := 12) (tgt := 23) B d_Loom_poke_12 rfl (fun h12 => ?_) (fun h12 => ?_)
  · skip
    have z8 := z9.resolve_left h12
    obtain ⟨-, z1, z2, z3, z4⟩ := z8
    obtain ⟨tn, etn⟩ : ∃ tn : Nat, t9.toInt = tn := ⟨t9.toInt.toNat, by omega⟩
    have hcl : t9.toNatClampNeg = tn := by rw [Int32.toNatClampNeg, etn]; rfl
    obtain ⟨cw, fw, q1, q2, q3, q4⟩ := hT7 tn (by omega)
    rw [hcl] at z4
    have z5 : fw + i9.toInt < 65600 := by
      rcases z4 with ⟨-, z4⟩ | ⟨-, z4⟩
      · rw [z4]; show (fw : Int) + 0 < 65600; omega
      · rw [q1] at z4; omega
    refine mv_aload_n (pc := 23) B d_Loom_poke_23 rfl 0 rfl ?_
    refine mv_getR (pc := 24) (ci := 0) (C := R_Loom) (T := F_Loom) (N := 10) B 9 rfl rfl (by decide) i_Loom (B.2.2.2.1 _ k_495) rfl (hR.1 _ 9 _ rfl) d_Loom_poke_24 ?_
    refine mv_iload_n (pc := 27) B d_Loom_poke_27 rfl 1 rfl ?_
    refine mv_iload_n (pc := 28) B d_Loom_poke_28 rfl 2 rfl ?_
    refine mv_lload_n (pc := 29) B d_Loom_poke_29 rfl 3 rfl ?_
    refine mv_callVv (pc := 30) (n := 3) (ci := 9) (C := R_Machine) B (mK_ok sk sv) hNs.1 rfl rfl (c_Machine_put_b l hi _ _ _ _ hR th sl hT9 tn etn (by omega) z3 (by rw [q2]; omega) (by rw [q2]; omega)) rfl (ma_goodc kc_Machine_put) (B.2.2.2.1 _ k_1778) (B.2.2.2.1 _ k_1601) (B.2.2.2.1 _ k_1602) (B.2.2.2.1 _ k_11) ⟨by decide +kernel, by decide +kernel, by decide +kernel⟩ rfl d_Loom_poke_30 rfl (Nat.le_of_ble_eq_true rfl) ⟨by decide, by decide⟩ ⟨by decide, by decide⟩ ⟨by decide, by decide⟩ (mv_noH hno _) (fun σ30 h30 => ?_)
    exact mv_vret (pc := 33) B hr d_Loom_poke_33 (Nat.le_of_ble_eq_true rfl) (Nat.le_of_ble_eq_true rfl) (Or.inl ⟨rfl, hC9.fm (h30.up (fun _ _ z => absurd z id) (fun _ z => absurd z id) (fun o z => Or.inl z)), GF.fm (h30.up (fun _ _ z => absurd z id) (fun _ z => absurd z id) (fun o z => Or.inl z)), GPr.fm (h30.up (fun _ _ z => absurd z id) (fun _ z => absurd z id) (fun o z => Or.inl z))⟩)
  · skip
    exact mv_throw0 (pc := 15) (ik := 131) (ic := 133) B hlt hNs.2.1 (X := "java/util/NoSuchElementException") (by decide +kernel) (B.2.2.2.1 _ k_1751) (B.2.2.2.1 _ k_36) (B.2.2.2.1 _ k_1752) rfl (fun s9 hv9 a9 b9 c9 d9 => have hm9 := mt_ma B.2.2.2.1 hv9; mt_w_nse hm9 (hm9 _ k_1760) a9 b9 c9 d9) d_Loom_poke_15 d_Loom_poke_18 d_Loom_poke_19 d_Loom_poke_22 (mv_noH hno _) ⟨by decide, by decide⟩ ⟨by decide, by decide⟩ ⟨by decide, by decide⟩ (fun a9 => Or.inr ⟨_, a9, rfl, rfl, rfl⟩)
set_option maxHeartbeats 4000000 in
set_option maxRecDepth 100000 in
theorem c_kg_Loom_poke_c (l : Launch) {dA : FieldType → ClassId} {D : va_G} {al : Nat → Nat} {sk sv : Nat → Nat} (hi : mv_inj (mg dA D al me)) (σ : mv_H) (hlt : l.stackTraces = false) (t9 i9 : Int32) (w9 : Int64) (k9 : Nat) (hC : LC me σ 145 8192 48 k9) : mv_C l y_Loom_poke (Cond.code y_Loom_poke b_Loom_poke 5 (Option.none : Option Jvm.ClassFile.FieldType) :: ma) ({ frames := 6, cells := 1, slots := 6, locals := 81 }) (mg dA D al me) (mKt sk sv) [.ref (al 0), .int t9, .int i9, .long w9] σ (mv_Tv (fun σ1 => LC me σ1 145 8192 48 k9 ∧ GF σ σ1 ∧ GPr σ σ1) (fun X σ1 => X = "java/util/NoSuchElementException" ∧ σ1 = σ)) := by
  refine mv_C.ofV (cc := b_Loom_poke) (nL := 5) (ret := (Option.none : Option Jvm.ClassFile.FieldType)) (by decide +kernel) rfl hi (Nat.le_of_ble_eq_true rfl) ?_
  intro p e s m below meth c B hNs hr hnm hno
  have hC9 := hC
  obtain ⟨hPP, hI, hR, hW, ⟨th, sl, hO, ho0, ho1, ho2⟩, hLS⟩ := hC
  have hT9 := hO.1
  obtain ⟨hT1, hT2, hT3, hT4, hT5, hT6, hT7, hT8⟩ := hO.1
  refine mv_aload_n (pc := 0) B d_Loom_poke_0 rfl 0 rfl ?_
  refine mv_getR (pc := 1) (ci := 0) (C := R_Loom) (T := F_Loom) (N := 10) B 9 rfl rfl (by decide) i_Loom (B.2.2.2.1 _ k_495) rfl (hR.1 _ 9 _ rfl) d_Loom_poke_1 ?_
  refine mv_getR (pc := 4) (ci := 9) (C := R_Machine) (T := F_Machine) (N := 13) B 0 rfl rfl (by decide) i_Machine (B.2.2.2.1 _ k_441) rfl hR.2.2 d_Loom_poke_4 ?_
  refine mv_iload_n (pc := 7) B d_Loom_poke_7 rfl 1 rfl ?_
  refine mv_iload_n (pc := 8) B d_Loom_poke_8 rfl 2 rfl ?_
  refine mv_callVi (pc := 9) (n := 2) (ci := 7) (C := R_Program) B (mK_ok sk sv) hNs.1 rfl rfl (c_Program_has_c l hi _ _ _ hR.2.1 (by omega)) rfl (ma_goodc kc_Program_has) (B.2.2.2.1 _ k_1774) (B.2.2.2.1 _ k_1775) (B.2.2.2.1 _ k_1776) (B.2.2.2.1 _ k_8) ⟨by decide +kernel, by decide +kernel, by decide +kernel⟩ rfl d_Loom_poke_9 rfl (Nat.le_of_ble_eq_true rfl) ⟨by decide, by decide⟩ ⟨by decide, by decide⟩ ⟨by decide, by decide⟩ (mv_noH hno _) (fun v9 σ9 h9 => ?_)
  obtain ⟨e9, z9⟩ := h9
  have e9 := e9.symm
  subst e9
  refine mv_if_ne (pc := 12) (tgt := 23) B d_Loom_poke_12 rfl (fun h12 => ?_) (fun h12 => ?_)
  · skip
    have z8 := z9.resolve_left h12
    obtain ⟨-, z1, z2, z3, z4⟩ := z8
    obtain ⟨tn, etn⟩ : ∃ tn : Nat, t9.toInt = tn := ⟨t9.toInt.toNat, by omega⟩
    have hcl : t9.toNatClampNeg = tn := by rw [Int32.toNatClampNeg, etn]; rfl
    obtain ⟨cw, fw, q1, q2, q3, q4⟩ := hT7 tn (by omega)
    rw [hcl] at z4
    have z5 : fw + i9.toInt < 65600 := by
      rcases z4 with ⟨-, z4⟩ | ⟨-, z4⟩
      · rw [z4]; show (fw : Int) + 0 < 65600; omega
      · rw [q1] at z4; omega
    refine mv_aload_n (pc := 23) B d_Loom_poke_23 rfl 0 rfl ?_
    refine mv_getR (pc := 24) (ci := 0) (C := R_Loom) (T := F_Loom) (N := 10) B 9 rfl rfl (by decide) i_Loom (B.2.2.2.1 _ k_495) rfl (hR.1 _ 9 _ rfl) d_Loom_poke_24 ?_
    refine mv_iload_n (pc := 27) B d_Loom_poke_27 rfl 1 rfl ?_
    refine mv_iload_n (pc := 28) B d_Loom_poke_28 rfl 2 rfl ?_
    refine mv_lload_n (pc := 29) B d_Loom_poke_29 rfl 3 rfl ?_
    refine mv_callVv (pc := 30) (n := 3) (ci := 9) (C := R_Machine) B (mK_ok sk sv) hNs.1 rfl rfl (c_Machine_put_c l hi _ _ _ _ hR th sl hT9 tn etn (by omega) z3 (by rw [q2]; omega) (by rw [q2]; omega)) rfl (ma_goodc kc_Machine_put) (B.2.2.2.1 _ k_1778) (B.2.2.2.1 _ k_1601) (B.2.2.2.1 _ k_1602) (B.2.2.2.1 _ k_11) ⟨by decide +kernel, by decide +kernel, by decide +kernel⟩ rfl d_Loom_poke_30 rfl (Nat.le_of_ble_eq_true rfl) ⟨by decide, by decide⟩ ⟨by decide, by decide⟩ ⟨by decide, by decide⟩ (mv_noH hno _) (fun σ30 h30 => ?_)
    exact mv_vret (pc := 33) B hr d_Loom_poke_33 (Nat.le_of_ble_eq_true rfl) (Nat.le_of_ble_eq_true rfl) (Or.inl ⟨rfl, hC9.fm (h30.up (fun _ _ z => absurd z id) (fun _ z => absurd z id) (fun o z => Or.inl z)), GF.fm (h30.up (fun _ _ z => absurd z id) (fun _ z => absurd z id) (fun o z => Or.inl z)), GPr.fm (h30.up (fun _ _ z => absurd z id) (fun _ z => absurd z id) (fun o z => Or.inl z))⟩)
  · skip
    exact mv_throw0 (pc := 15) (ik := 131) (ic := 133) B hlt hNs.2.1 (X := "java/util/NoSuchElementException") (by decide +kernel) (B.2.2.2.1 _ k_1751) (B.2.2.2.1 _ k_36) (B.2.2.2.1 _ k_1752) rfl (fun s9 hv9 a9 b9 c9 d9 => have hm9 := mt_ma B.2.2.2.1 hv9; mt_w_nse hm9 (hm9 _ k_1760) a9 b9 c9 d9) d_Loom_poke_15 d_Loom_poke_18 d_Loom_poke_19 d_Loom_poke_22 (mv_noH hno _) ⟨by decide, by decide⟩ ⟨by decide, by decide⟩ ⟨by decide, by decide⟩ (fun a9 => Or.inr ⟨_, a9, rfl, rfl, rfl⟩)
set_option maxHeartbeats 4000000 in
set_option maxRecDepth 100000 in
theorem c_kg_Loom_run_a (l : Launch) {dA : FieldType → ClassId} {D : va_G} {al : Nat → Nat} {ext : mv_Sh} {sk sv : Nat → Nat} (hi : mv_inj (mg dA D al ext)) (σ : mv_H) (hlt : l.stackTraces = false) (n9 : Int32) (k9 : Nat) (hC : LC ext σ 32 32768 512 k9) : mv_C l y_Loom_run (Cond.code y_Loom_run b_Loom_run 2 (Option.some Jvm.ClassFile.FieldType.int) :: ma) ({ frames := 7, cells := 1, slots := 6, locals := 178 }) (mg dA D al ext) (mKt sk sv) [.ref (al 0), .int n9] σ (mv_Ti (fun _ σ1 => LC ext σ1 32 32768 512 k9 ∧ GF σ σ1 ∧ GPr σ σ1) (fun X σ1 => (X = "java/lang/IllegalArgumentException" ∨ X = "java/lang/IllegalStateException") ∧ σ1 = σ)) := by
  refine mv_C.ofV (cc := b_Loom_run) (nL := 2) (ret := (Option.some Jvm.ClassFile.FieldType.int)) (by decide +kernel) rfl hi (Nat.le_of_ble_eq_true rfl) ?_
  intro p e s m below meth c B hNs hr hnm hno
  have hC9 := hC
  obtain ⟨hPP, hI, hR, hW, ⟨th, sl, hO, ho0, ho1, ho2⟩, hLS⟩ := hC
  refine mv_iload_n (pc := 0) B d_Loom_run_0 rfl 1 rfl ?_
  refine mv_iconst (pc := 1) (v := 1) B d_Loom_run_1 (by decide) ?_
  refine mv_icmp_lt (pc := 2) (tgt := 12) B d_Loom_run_2 rfl (fun h2 => ?_) (fun h2 => ?_)
  · skip
    exact mv_throw0 (pc := 12) (ik := 71) (ic := 73) B hlt hNs.2.1 (X := "java/lang/IllegalArgumentException") (by decide +kernel) (B.2.2.2.1 _ k_1704) (B.2.2.2.1 _ k_19) (B.2.2.2.1 _ k_955) rfl (fun s9 hv9 a9 b9 c9 d9 => have hm9 := mt_ma B.2.2.2.1 hv9; mt_w_iae hm9 (hm9 _ k_1705) a9 b9 c9 d9) d_Loom_run_12 d_Loom_run_15 d_Loom_run_16 d_Loom_run_19 (mv_noH hno _) ⟨by decide, by decide⟩ ⟨by decide, by decide⟩ ⟨by decide, by decide⟩ (fun a9 => Or.inr ⟨_, a9, rfl, Or.inl rfl, rfl⟩)
  · skip
    refine mv_iload_n (pc := 5) B d_Loom_run_5 rfl 1 rfl ?_
    refine mv_sipush (pc := 6) (v := 500) B d_Loom_run_6 (by decide) ?_
    refine mv_icmp_le (pc := 9) (tgt := 20) B d_Loom_run_9 rfl (fun h9 => ?_) (fun h9 => ?_)
    · skip
      refine mv_aload_n (pc := 20) B d_Loom_run_20 rfl 0 rfl ?_
      refine mv_getR (pc := 21) (ci := 0) (C := R_Loom) (T := F_Loom) (N := 10) B 9 rfl rfl (by decide) i_Loom (B.2.2.2.1 _ k_495) rfl (hR.1 _ 9 _ rfl) d_Loom_run_21 ?_
      refine mv_getR (pc := 24) (ci := 9) (C := R_Machine) (T := F_Machine) (N := 13) B 0 rfl rfl (by decide) i_Machine (B.2.2.2.1 _ k_441) rfl hR.2.2 d_Loom_run_24 ?_
      refine mv_getI (pc := 27) (ci := 7) (C := R_Program) (T := F_Program) (N := 19) B 9 rfl rfl (by decide) i_Program (B.2.2.2.1 _ k_343) rfl d_Loom_run_27 ?_
      refine mv_if_ge (pc := 30) (tgt := 41) B d_Loom_run_30 rfl (fun h30 => ?_) (fun h30 => ?_)
      · skip
        refine mv_aload_n (pc := 41) B d_Loom_run_41 rfl 0 rfl ?_
        refine mv_getR (pc := 42) (ci := 0) (C := R_Loom) (T := F_Loom) (N := 10) B 9 rfl rfl (by decide) i_Loom (B.2.2.2.1 _ k_495) rfl (hR.1 _ 9 _ rfl) d_Loom_run_42 ?_
        refine mv_iload_n (pc := 45) B d_Loom_run_45 rfl 1 rfl ?_
        refine mv_callVi (pc := 46) (n := 1) (ci := 9) (C := R_Machine) B (mK_ok sk sv) hNs.1 rfl rfl (c_Machine_many_a l hi _ _ hR th sl hO (by have z := Int32.le_iff_toInt_le.mp h9; simpa using z) (by have z := Int32.le_iff_toInt_le.mp h30; simpa using z)) rfl (ma_goodc kc_Machine_many) (B.2.2.2.1 _ k_1793) (B.2.2.2.1 _ k_1794) (B.2.2.2.1 _ k_1795) (B.2.2.2.1 _ k_11) ⟨by decide +kernel, by decide +kernel, by decide +kernel⟩ rfl d_Loom_run_46 rfl (Nat.le_of_ble_eq_true rfl) ⟨by decide, by decide⟩ ⟨by decide, by decide⟩ ⟨by decide, by decide⟩ (mv_noH hno _) (fun v46 σ46 h46 => ?_)
        exact mv_iret (pc := 49) B hr rfl d_Loom_run_49 (Nat.le_of_ble_eq_true rfl) (Nat.le_of_ble_eq_true rfl) (Or.inl ⟨_, rfl, hC9.fm h46, GF.fm h46, GPr.fm h46⟩)
      · skip
        exact mv_throw0 (pc := 33) (ik := 99) (ic := 101) B hlt hNs.2.1 (X := "java/lang/IllegalStateException") (by decide +kernel) (B.2.2.2.1 _ k_1717) (B.2.2.2.1 _ k_34) (B.2.2.2.1 _ k_1718) rfl (fun s9 hv9 a9 b9 c9 d9 => have hm9 := mt_ma B.2.2.2.1 hv9; mt_w_ise hm9 (hm9 _ k_1726) a9 b9 c9 d9) d_Loom_run_33 d_Loom_run_36 d_Loom_run_37 d_Loom_run_40 (mv_noH hno _) ⟨by decide, by decide⟩ ⟨by decide, by decide⟩ ⟨by decide, by decide⟩ (fun a9 => Or.inr ⟨_, a9, rfl, Or.inr rfl, rfl⟩)
    · skip
      exact mv_throw0 (pc := 12) (ik := 71) (ic := 73) B hlt hNs.2.1 (X := "java/lang/IllegalArgumentException") (by decide +kernel) (B.2.2.2.1 _ k_1704) (B.2.2.2.1 _ k_19) (B.2.2.2.1 _ k_955) rfl (fun s9 hv9 a9 b9 c9 d9 => have hm9 := mt_ma B.2.2.2.1 hv9; mt_w_iae hm9 (hm9 _ k_1705) a9 b9 c9 d9) d_Loom_run_12 d_Loom_run_15 d_Loom_run_16 d_Loom_run_19 (mv_noH hno _) ⟨by decide, by decide⟩ ⟨by decide, by decide⟩ ⟨by decide, by decide⟩ (fun a9 => Or.inr ⟨_, a9, rfl, Or.inl rfl, rfl⟩)
set_option maxHeartbeats 4000000 in
set_option maxRecDepth 100000 in
theorem c_kg_Loom_run_b (l : Launch) {dA : FieldType → ClassId} {D : va_G} {al : Nat → Nat} {ext : mv_Sh} {sk sv : Nat → Nat} (hi : mv_inj (mg dA D al ext)) (σ : mv_H) (hlt : l.stackTraces = false) (n9 : Int32) (k9 : Nat) (hC : LC ext σ 48 32768 512 k9) : mv_C l y_Loom_run (Cond.code y_Loom_run b_Loom_run 2 (Option.some Jvm.ClassFile.FieldType.int) :: ma) ({ frames := 7, cells := 1, slots := 6, locals := 178 }) (mg dA D al ext) (mKt sk sv) [.ref (al 0), .int n9] σ (mv_Ti (fun _ σ1 => LC ext σ1 48 32768 512 k9 ∧ GF σ σ1 ∧ GPr σ σ1) (fun X σ1 => (X = "java/lang/IllegalArgumentException" ∨ X = "java/lang/IllegalStateException") ∧ σ1 = σ)) := by
  refine mv_C.ofV (cc := b_Loom_run) (nL := 2) (ret := (Option.some Jvm.ClassFile.FieldType.int)) (by decide +kernel) rfl hi (Nat.le_of_ble_eq_true rfl) ?_
  intro p e s m below meth c B hNs hr hnm hno
  have hC9 := hC
  obtain ⟨hPP, hI, hR, hW, ⟨th, sl, hO, ho0, ho1, ho2⟩, hLS⟩ := hC
  refine mv_iload_n (pc := 0) B d_Loom_run_0 rfl 1 rfl ?_
  refine mv_iconst (pc := 1) (v := 1) B d_Loom_run_1 (by decide) ?_
  refine mv_icmp_lt (pc := 2) (tgt := 12) B d_Loom_run_2 rfl (fun h2 => ?_) (fun h2 => ?_)
  · skip
    exact mv_throw0 (pc := 12) (ik := 71) (ic := 73) B hlt hNs.2.1 (X := "java/lang/IllegalArgumentException") (by decide +kernel) (B.2.2.2.1 _ k_1704) (B.2.2.2.1 _ k_19) (B.2.2.2.1 _ k_955) rfl (fun s9 hv9 a9 b9 c9 d9 => have hm9 := mt_ma B.2.2.2.1 hv9; mt_w_iae hm9 (hm9 _ k_1705) a9 b9 c9 d9) d_Loom_run_12 d_Loom_run_15 d_Loom_run_16 d_Loom_run_19 (mv_noH hno _) ⟨by decide, by decide⟩ ⟨by decide, by decide⟩ ⟨by decide, by decide⟩ (fun a9 => Or.inr ⟨_, a9, rfl, Or.inl rfl, rfl⟩)
  · skip
    refine mv_iload_n (pc := 5) B d_Loom_run_5 rfl 1 rfl ?_
    refine mv_sipush (pc := 6) (v := 500) B d_Loom_run_6 (by decide) ?_
    refine mv_icmp_le (pc := 9) (tgt := 20) B d_Loom_run_9 rfl (fun h9 => ?_) (fun h9 => ?_)
    · skip
      refine mv_aload_n (pc := 20) B d_Loom_run_20 rfl 0 rfl ?_
      refine mv_getR (pc := 21) (ci := 0) (C := R_Loom) (T := F_Loom) (N := 10) B 9 rfl rfl (by decide) i_Loom (B.2.2.2.1 _ k_495) rfl (hR.1 _ 9 _ rfl) d_Loom_run_21 ?_
      refine mv_getR (pc := 24) (ci := 9) (C := R_Machine) (T := F_Machine) (N := 13) B 0 rfl rfl (by decide) i_Machine (B.2.2.2.1 _ k_441) rfl hR.2.2 d_Loom_run_24 ?_
      refine mv_getI (pc := 27) (ci := 7) (C := R_Program) (T := F_Program) (N := 19) B 9 rfl rfl (by decide) i_Program (B.2.2.2.1 _ k_343) rfl d_Loom_run_27 ?_
      refine mv_if_ge (pc := 30) (tgt := 41) B d_Loom_run_30 rfl (fun h30 => ?_) (fun h30 => ?_)
      · skip
        refine mv_aload_n (pc := 41) B d_Loom_run_41 rfl 0 rfl ?_
        refine mv_getR (pc := 42) (ci := 0) (C := R_Loom) (T := F_Loom) (N := 10) B 9 rfl rfl (by decide) i_Loom (B.2.2.2.1 _ k_495) rfl (hR.1 _ 9 _ rfl) d_Loom_run_42 ?_
        refine mv_iload_n (pc := 45) B d_Loom_run_45 rfl 1 rfl ?_
        refine mv_callVi (pc := 46) (n := 1) (ci := 9) (C := R_Machine) B (mK_ok sk sv) hNs.1 rfl rfl (c_Machine_many_b l hi _ _ hR th sl hO (by have z := Int32.le_iff_toInt_le.mp h9; simpa using z) (by have z := Int32.le_iff_toInt_le.mp h30; simpa using z)) rfl (ma_goodc kc_Machine_many) (B.2.2.2.1 _ k_1793) (B.2.2.2.1 _ k_1794) (B.2.2.2.1 _ k_1795) (B.2.2.2.1 _ k_11) ⟨by decide +kernel, by decide +kernel, by decide +kernel⟩ rfl d_Loom_run_46 rfl (Nat.le_of_ble_eq_true rfl) ⟨by decide, by decide⟩ ⟨by decide, by decide⟩ ⟨by decide, by decide⟩ (mv_noH hno _) (fun v46 σ46 h46 => ?_)
        exact mv_iret (pc := 49) B hr rfl d_Loom_run_49 (Nat.le_of_ble_eq_true rfl) (Nat.le_of_ble_eq_true rfl) (Or.inl ⟨_, rfl, hC9.fm h46, GF.fm h46, GPr.fm h46⟩)
      · skip
        exact mv_throw0 (pc := 33) (ik := 99) (ic := 101) B hlt hNs.2.1 (X := "java/lang/IllegalStateException") (by decide +kernel) (B.2.2.2.1 _ k_1717) (B.2.2.2.1 _ k_34) (B.2.2.2.1 _ k_1718) rfl (fun s9 hv9 a9 b9 c9 d9 => have hm9 := mt_ma B.2.2.2.1 hv9; mt_w_ise hm9 (hm9 _ k_1726) a9 b9 c9 d9) d_Loom_run_33 d_Loom_run_36 d_Loom_run_37 d_Loom_run_40 (mv_noH hno _) ⟨by decide, by decide⟩ ⟨by decide, by decide⟩ ⟨by decide, by decide⟩ (fun a9 => Or.inr ⟨_, a9, rfl, Or.inr rfl, rfl⟩)
    · skip
      exact mv_throw0 (pc := 12) (ik := 71) (ic := 73) B hlt hNs.2.1 (X := "java/lang/IllegalArgumentException") (by decide +kernel) (B.2.2.2.1 _ k_1704) (B.2.2.2.1 _ k_19) (B.2.2.2.1 _ k_955) rfl (fun s9 hv9 a9 b9 c9 d9 => have hm9 := mt_ma B.2.2.2.1 hv9; mt_w_iae hm9 (hm9 _ k_1705) a9 b9 c9 d9) d_Loom_run_12 d_Loom_run_15 d_Loom_run_16 d_Loom_run_19 (mv_noH hno _) ⟨by decide, by decide⟩ ⟨by decide, by decide⟩ ⟨by decide, by decide⟩ (fun a9 => Or.inr ⟨_, a9, rfl, Or.inl rfl, rfl⟩)
set_option maxHeartbeats 4000000 in
set_option maxRecDepth 100000 in
theorem c_kg_Loom_run_c (l : Launch) {dA : FieldType → ClassId} {D : va_G} {al : Nat → Nat} {sk sv : Nat → Nat} (hi : mv_inj (mg dA D al me)) (σ : mv_H) (hlt : l.stackTraces = false) (n9 : Int32) (k9 : Nat) (hC : LC me σ 145 8192 48 k9) : mv_C l y_Loom_run (Cond.code y_Loom_run b_Loom_run 2 (Option.some Jvm.ClassFile.FieldType.int) :: ma) ({ frames := 7, cells := 1, slots := 6, locals := 178 }) (mg dA D al me) (mKt sk sv) [.ref (al 0), .int n9] σ (mv_Ti (fun _ σ1 => LC me σ1 145 8192 48 k9 ∧ GF σ σ1 ∧ GPr σ σ1) (fun X σ1 => (X = "java/lang/IllegalArgumentException" ∨ X = "java/lang/IllegalStateException") ∧ σ1 = σ)) := by
  refine mv_C.ofV (cc := b_Loom_run) (nL := 2) (ret := (Option.some Jvm.ClassFile.FieldType.int)) (by decide +kernel) rfl hi (Nat.le_of_ble_eq_true rfl) ?_
  intro p e s m below meth c B hNs hr hnm hno
  have hC9 := hC
  obtain ⟨hPP, hI, hR, hW, ⟨th, sl, hO, ho0, ho1, ho2⟩, hLS⟩ := hC
  refine mv_iload_n (pc := 0) B d_Loom_run_0 rfl 1 rfl ?_
  refine mv_iconst (pc := 1) (v := 1) B d_Loom_run_1 (by decide) ?_
  refine mv_icmp_lt (pc := 2) (tgt := 12) B d_Loom_run_2 rfl (fun h2 => ?_) (fun h2 => ?_)
  · skip
    exact mv_throw0 (pc := 12) (ik := 71) (ic := 73) B hlt hNs.2.1 (X := "java/lang/IllegalArgumentException") (by decide +kernel) (B.2.2.2.1 _ k_1704) (B.2.2.2.1 _ k_19) (B.2.2.2.1 _ k_955) rfl (fun s9 hv9 a9 b9 c9 d9 => have hm9 := mt_ma B.2.2.2.1 hv9; mt_w_iae hm9 (hm9 _ k_1705) a9 b9 c9 d9) d_Loom_run_12 d_Loom_run_15 d_Loom_run_16 d_Loom_run_19 (mv_noH hno _) ⟨by decide, by decide⟩ ⟨by decide, by decide⟩ ⟨by decide, by decide⟩ (fun a9 => Or.inr ⟨_, a9, rfl, Or.inl rfl, rfl⟩)
  · skip
    refine mv_iload_n (pc := 5) B d_Loom_run_5 rfl 1 rfl ?_
    refine mv_sipush (pc := 6) (v := 500) B d_Loom_run_6 (by decide) ?_
    refine mv_icmp_le (pc := 9) (tgt := 20) B d_Loom_run_9 rfl (fun h9 => ?_) (fun h9 => ?_)
    · skip
      refine mv_aload_n (pc := 20) B d_Loom_run_20 rfl 0 rfl ?_
      refine mv_getR (pc := 21) (ci := 0) (C := R_Loom) (T := F_Loom) (N := 10) B 9 rfl rfl (by decide) i_Loom (B.2.2.2.1 _ k_495) rfl (hR.1 _ 9 _ rfl) d_Loom_run_21 ?_
      refine mv_getR (pc := 24) (ci := 9) (C := R_Machine) (T := F_Machine) (N := 13) B 0 rfl rfl (by decide) i_Machine (B.2.2.2.1 _ k_441) rfl hR.2.2 d_Loom_run_24 ?_
      refine mv_getI (pc := 27) (ci := 7) (C := R_Program) (T := F_Program) (N := 19) B 9 rfl rfl (by decide) i_Program (B.2.2.2.1 _ k_343) rfl d_Loom_run_27 ?_
      refine mv_if_ge (pc := 30) (tgt := 41) B d_Loom_run_30 rfl (fun h30 => ?_) (fun h30 => ?_)
      · skip
        refine mv_aload_n (pc := 41) B d_Loom_run_41 rfl 0 rfl ?_
        refine mv_getR (pc := 42) (ci := 0) (C := R_Loom) (T := F_Loom) (N := 10) B 9 rfl rfl (by decide) i_Loom (B.2.2.2.1 _ k_495) rfl (hR.1 _ 9 _ rfl) d_Loom_run_42 ?_
        refine mv_iload_n (pc := 45) B d_Loom_run_45 rfl 1 rfl ?_
        refine mv_callVi (pc := 46) (n := 1) (ci := 9) (C := R_Machine) B (mK_ok sk sv) hNs.1 rfl rfl (c_Machine_many_c l hi _ _ hR th sl hO (by have z := Int32.le_iff_toInt_le.mp h9; simpa using z) (by have z := Int32.le_iff_toInt_le.mp h30; simpa using z)) rfl (ma_goodc kc_Machine_many) (B.2.2.2.1 _ k_1793) (B.2.2.2.1 _ k_1794) (B.2.2.2.1 _ k_1795) (B.2.2.2.1 _ k_11) ⟨by decide +kernel, by decide +kernel, by decide +kernel⟩ rfl d_Loom_run_46 rfl (Nat.le_of_ble_eq_true rfl) ⟨by decide, by decide⟩ ⟨by decide, by decide⟩ ⟨by decide, by decide⟩ (mv_noH hno _) (fun v46 σ46 h46 => ?_)
        exact mv_iret (pc := 49) B hr rfl d_Loom_run_49 (Nat.le_of_ble_eq_true rfl) (Nat.le_of_ble_eq_true rfl) (Or.inl ⟨_, rfl, hC9.fm h46, GF.fm h46, GPr.fm h46⟩)
      · skip
        exact mv_throw0 (pc := 33) (ik := 99) (ic := 101) B hlt hNs.2.1 (X := "java/lang/IllegalStateException") (by decide +kernel) (B.2.2.2.1 _ k_1717) (B.2.2.2.1 _ k_34) (B.2.2.2.1 _ k_1718) rfl (fun s9 hv9 a9 b9 c9 d9 => have hm9 := mt_ma B.2.2.2.1 hv9; mt_w_ise hm9 (hm9 _ k_1726) a9 b9 c9 d9) d_Loom_run_33 d_Loom_run_36 d_Loom_run_37 d_Loom_run_40 (mv_noH hno _) ⟨by decide, by decide⟩ ⟨by decide, by decide⟩ ⟨by decide, by decide⟩ (fun a9 => Or.inr ⟨_, a9, rfl, Or.inr rfl, rfl⟩)
    · skip
      exact mv_throw0 (pc := 12) (ik := 71) (ic := 73) B hlt hNs.2.1 (X := "java/lang/IllegalArgumentException") (by decide +kernel) (B.2.2.2.1 _ k_1704) (B.2.2.2.1 _ k_19) (B.2.2.2.1 _ k_955) rfl (fun s9 hv9 a9 b9 c9 d9 => have hm9 := mt_ma B.2.2.2.1 hv9; mt_w_iae hm9 (hm9 _ k_1705) a9 b9 c9 d9) d_Loom_run_12 d_Loom_run_15 d_Loom_run_16 d_Loom_run_19 (mv_noH hno _) ⟨by decide, by decide⟩ ⟨by decide, by decide⟩ ⟨by decide, by decide⟩ (fun a9 => Or.inr ⟨_, a9, rfl, Or.inl rfl, rfl⟩)
set_option maxHeartbeats 4000000 in
set_option maxRecDepth 100000 in
theorem c_kg_Model_ship (l : Launch) {dA : FieldType → ClassId} {D : va_G} {al : Nat → Nat} {ext : mv_Sh} {sk sv : Nat → Nat} (hi : mv_inj (mg dA D al ext)) (σ : mv_H) (hmr : mh (mv_r σ)) : mv_C l y_Model_ship (Cond.code y_Model_ship b_Model_ship 2 (Option.some Jvm.ClassFile.FieldType.int) :: ma) ({ frames := 1, cells := 0, slots := 0, locals := 20 }) (mg dA D al ext) (mK sk sv) [.ref (al 70)] σ (mv_Ri (fun v σ1 => HFm σ σ1 ∧ v = 48 ∧ mv_i σ1 70 11 = 1)) := by
  refine mv_C.ofV (cc := b_Model_ship) (nL := 2) (ret := (Option.some Jvm.ClassFile.FieldType.int)) (by decide +kernel) rfl hi (Nat.le_of_ble_eq_true rfl) ?_
  intro p e s m below meth c B hNs hr hnm hno
  have lp2 : ∀ (nn : Nat) (τ : mv_H) (i9 : Int32) (hFt : HFm σ τ) (h11 : mv_i τ 70 11 = 1) (q0 : 0 ≤ i9.toInt), (40000 - i9.toInt).toNat < nn → mv_V p l e ({ frames := 1, cells := 0, slots := 0, locals := 20 }) s m ([.ref (al 70)] : List Value).toArray below meth c (mg dA D al ext) 2 0 0 (mv_Q (mg dA D al ext) below s 0 0 (mv_Ri (fun v σ1 => HFm σ σ1 ∧ v = 48 ∧ mv_i σ1 70 11 = 1))) τ 38 [(1, .int i9), (0, .ref (al 70))] [] := by
    intro nn
    induction nn with
    | zero => intro τ i9 hFt h11 q0 hm; exact absurd hm (Nat.not_lt_zero _)
    | succ nn ih =>
      intro τ i9 hFt h11 q0 hm
      have hmt : mh (mv_r τ) := by rw [hFt.2.2.1]; exact hmr
      refine mv_iload_n (pc := 38) B d_Model_ship_38 rfl 0 rfl ?_
      refine mv_ldc (pc := 39) (v := 32768) B (B.2.2.2.1 _ k_1815) d_Model_ship_39 ?_
      refine mv_icmp_ge (pc := 41) (tgt := 57) B d_Model_ship_41 rfl (fun h41 => ?_) (fun h41 => ?_)
      · skip
        refine mv_aload_n (pc := 57) B d_Model_ship_57 rfl 1 rfl ?_
        refine mv_callVv (pc := 58) (n := 0) (ci := 11) (C := R_Model) B (mK_ok sk sv) hNs rfl rfl (c_Model_fresh l hi _) rfl (ma_goodc kc_Model_fresh) (B.2.2.2.1 _ k_2341) (B.2.2.2.1 _ k_2343) (B.2.2.2.1 _ ks_123) (B.2.2.2.1 _ k_12) ⟨by decide +kernel, by decide +kernel, by decide +kernel⟩ rfl d_Model_ship_58 rfl (Nat.le_of_ble_eq_true rfl) ⟨by decide, by decide⟩ ⟨by decide, by decide⟩ ⟨by decide, by decide⟩ (mv_noH hno _) (fun σ58 h58 => ?_)
        refine mv_bipush (pc := 61) (v := 48) B d_Model_ship_61 (by decide) ?_
        exact mv_iret (pc := 63) B hr rfl d_Model_ship_63 (Nat.le_refl _) (Nat.le_refl _) ⟨_, rfl, Fx.tr hFt (Fx.up h58 (fun o k z => ⟨z.1, z.2.1⟩) (fun o k z => z) (fun o k z => z) (fun o z => z)), rfl, (h58.1 70 11 (by omega)).trans h11⟩
      · skip
        rw [Int32.le_iff_toInt_le] at h41
        have h41 : ¬ 32768 ≤ i9.toInt := h41
        have w2 : (i9 + 1).toInt = i9.toInt + 1 := i32_inc (by omega)
        refine mv_aload_n (pc := 44) B d_Model_ship_44 rfl 1 rfl ?_
        refine mv_getR (pc := 45) (ci := 11) (C := R_Model) (T := F_Model) (N := 16) B 8 rfl rfl (by decide) i_Model (B.2.2.2.1 _ k_2053) rfl (hmt _ 8 _ rfl) d_Model_ship_45 ?_
        refine mv_iload_n (pc := 48) B d_Model_ship_48 rfl 0 rfl ?_
        refine mv_iconst (pc := 49) (v := 0) B d_Model_ship_49 (by decide) ?_
        refine mv_bast (pc := 50) B rfl (i32_in q0 (show i9.toInt < 32768 by omega)) d_Model_ship_50 ?_
        refine mv_iinc (pc := 51) (j := 0) (v := 1) B d_Model_ship_51 rfl (by decide) (by decide) rfl ?_
        refine mv_goto (pc := 54) (tgt := 38) B d_Model_ship_54 rfl ?_
        refine mv_lpick [0, 1] rfl ?_
        exact ih _ _ hFt.m h11 (by omega) (by omega)
  have lp1 : ∀ (nn : Nat) (τ : mv_H) (i9 : Int32) (hFt : HFm σ τ) (h11 : mv_i τ 70 11 = 1) (q0 : 0 ≤ i9.toInt), (40000 - i9.toInt).toNat < nn → mv_V p l e ({ frames := 1, cells := 0, slots := 0, locals := 20 }) s m ([.ref (al 70)] : List Value).toArray below meth c (mg dA D al ext) 2 0 0 (mv_Q (mg dA D al ext) below s 0 0 (mv_Ri (fun v σ1 => HFm σ σ1 ∧ v = 48 ∧ mv_i σ1 70 11 = 1))) τ 17 [(1, .int i9), (0, .ref (al 70))] [] := by
    intro nn
    induction nn with
    | zero => intro τ i9 hFt h11 q0 hm; exact absurd hm (Nat.not_lt_zero _)
    | succ nn ih =>
      intro τ i9 hFt h11 q0 hm
      have hmt : mh (mv_r τ) := by rw [hFt.2.2.1]; exact hmr
      refine mv_iload_n (pc := 17) B d_Model_ship_17 rfl 0 rfl ?_
      refine mv_bipush (pc := 18) (v := 32) B d_Model_ship_18 (by decide) ?_
      refine mv_icmp_ge (pc := 20) (tgt := 36) B d_Model_ship_20 rfl (fun h20 => ?_) (fun h20 => ?_)
      · skip
        refine mv_iconst (pc := 36) (v := 0) B d_Model_ship_36 (by decide) ?_
        refine mv_istore_n (pc := 37) B d_Model_ship_37 rfl (by decide) rfl ?_
        refine mv_lpick [0, 1] rfl ?_
        exact lp2 _ _ _ hFt h11 (by decide) (Nat.lt_succ_self _)
      · skip
        rw [Int32.le_iff_toInt_le] at h20
        have h20 : ¬ 32 ≤ i9.toInt := h20
        have w2 : (i9 + 1).toInt = i9.toInt + 1 := i32_inc (by omega)
        refine mv_aload_n (pc := 23) B d_Model_ship_23 rfl 1 rfl ?_
        refine mv_getR (pc := 24) (ci := 11) (C := R_Model) (T := F_Model) (N := 16) B 7 rfl rfl (by decide) i_Model (B.2.2.2.1 _ k_2052) rfl (hmt _ 7 _ rfl) d_Model_ship_24 ?_
        refine mv_iload_n (pc := 27) B d_Model_ship_27 rfl 0 rfl ?_
        refine mv_iconst (pc := 28) (v := 0) B d_Model_ship_28 (by decide) ?_
        refine mv_iast (pc := 29) B rfl (i32_in q0 (show i9.toInt < 32 by omega)) d_Model_ship_29 ?_
        refine mv_iinc (pc := 30) (j := 0) (v := 1) B d_Model_ship_30 rfl (by decide) (by decide) rfl ?_
        refine mv_goto (pc := 33) (tgt := 17) B d_Model_ship_33 rfl ?_
        refine mv_lpick [0, 1] rfl ?_
        exact ih _ _ hFt.x h11 (by omega) (by omega)
  refine mv_aload_n (pc := 0) B d_Model_ship_0 rfl 0 rfl ?_
  refine mv_iconst (pc := 1) (v := 0) B d_Model_ship_1 (by decide) ?_
  refine mv_putI (pc := 2) (ci := 11) (C := R_Model) (T := F_Model) (N := 16) B 2 rfl rfl (by decide) i_Model t_Model_ok n_Model (B.2.2.2.1 _ k_2047) rfl rfl rfl rfl d_Model_ship_2 ?_
  refine mv_aload_n (pc := 5) B d_Model_ship_5 rfl 0 rfl ?_
  refine mv_iconst (pc := 6) (v := 1) B d_Model_ship_6 (by decide) ?_
  refine mv_putI (pc := 7) (ci := 11) (C := R_Model) (T := F_Model) (N := 16) B 11 rfl rfl (by decide) i_Model t_Model_ok n_Model (B.2.2.2.1 _ k_2056) rfl rfl rfl rfl d_Model_ship_7 ?_
  refine mv_aload_n (pc := 10) B d_Model_ship_10 rfl 0 rfl ?_
  refine mv_iconst (pc := 11) (v := 0) B d_Model_ship_11 (by decide) ?_
  refine mv_putI (pc := 12) (ci := 11) (C := R_Model) (T := F_Model) (N := 16) B 6 rfl rfl (by decide) i_Model t_Model_ok n_Model (B.2.2.2.1 _ k_2051) rfl rfl rfl rfl d_Model_ship_12 ?_
  refine mv_iconst (pc := 15) (v := 0) B d_Model_ship_15 (by decide) ?_
  refine mv_istore_n (pc := 16) B d_Model_ship_16 rfl (by decide) rfl ?_
  refine mv_lpick [0, 1] rfl ?_
  exact lp1 _ _ _ (HFm.si (HFm.si (HFm.si Fx.rf (by decide)) (by decide)) (by decide)) rfl (by decide) (Nat.lt_succ_self _)
/-- which book is open, whether the shipped machine runs, and the books' tables stay -/
def MQf (σ τ : mv_H) : Prop := mv_r τ 70 9 = mv_r σ 70 9 ∧ mv_i τ 70 11 = mv_i σ 70 11 ∧ SRk 74 σ τ ∧ SRk 108 σ τ
theorem MQf.fx {pi pl pa : Nat → Nat → Prop} {pb : Nat → Prop} {σ τ : mv_H} (f : Fx pi pl pa pb σ τ) (h0 : ¬ pi 70 11) (h1 : ∀ B k, (B = 74 ∨ B = 108) → ¬ (k = 53 ∨ k = 61 ∨ k = 62 ∨ k = 63) → ¬ pi B k) (h2 : ∀ B o k, (B = 74 ∨ B = 108) → B + 1 ≤ o → o ≤ B + 28 → ¬ pa o k) : MQf σ τ :=
  ⟨by rw [f.2.2.1], f.1 _ _ h0, ⟨fun k q => f.1 _ _ (h1 74 k (Or.inl rfl) q), fun o a b => funext fun k => f.2.2.2.1 _ _ (h2 74 o k (Or.inl rfl) a b)⟩, ⟨fun k q => f.1 _ _ (h1 108 k (Or.inr rfl) q), fun o a b => funext fun k => f.2.2.2.1 _ _ (h2 108 o k (Or.inr rfl) a b)⟩⟩
theorem QF.mq {N : Nat} {σ τ : mv_H} (f : QF N σ τ) (hN : N = 74 ∨ N = 108) : MQf σ τ := MQf.fx f (by omega) (fun B k hB q z => by omega) (fun B o k hB a b z => by omega)
theorem SM.mq {σ τ : mv_H} (f : SM σ τ) : MQf σ τ := (SM.qf (N := 74) f).mq (by decide)
theorem FD.mq {σ τ : mv_H} (f : FD σ τ) : MQf σ τ := MQf.fx f (by omega) (fun B k hB q z => by omega) (fun B o k hB a b z => by omega)
theorem GOf.sr {σ τ : mv_H} (g : GFf σ τ) {N : Nat} (hN : N = 74 ∨ N = 108) : SRk N σ τ := ⟨fun k _ => by rw [(g N (by omega) (by omega)).1], fun o a b => (g o (by omega) (by omega)).2.2.2.1⟩

