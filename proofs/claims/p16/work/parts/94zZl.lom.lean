/-! MachineLoom at work -/
theorem F6v.fm {σ τ : mv_H} (h : F6v σ τ) : FM σ τ := ⟨fun o k _ => by rw [h.1], fun o _ => by rw [h.2.2.2.1], fun o q => h.2.2.2.2 o (fun z => q (Or.inl z)), h.2.1, h.2.2.1⟩
theorem hs_n {P : Nat} {s : SI} {σ : mv_H} {t i : Int32} (S : SPq P s σ) (h : HSq (mv_i σ P 1) (mv_a σ (P + 2) t.toNatClampNeg) t i) : ∃ tn n, t = nI tn ∧ i = nI n ∧ tn < s.tl.length ∧ n < ncT (s.tl.getD tn (0, 0, false)) := by
  obtain ⟨-, c2, -, -, ⟨-, c5, -, -⟩, -, c7, -⟩ := S
  obtain ⟨h1, h2, h3, h4⟩ := h
  rw [c2, nIi (by omega)] at h2
  have et : t = nI t.toInt.toNat := nI_o2 (by omega)
  have ei : i = nI i.toInt.toNat := nI_o2 (by omega)
  have ht : t.toInt.toNat < s.tl.length := by omega
  obtain ⟨-, u2, -, u4⟩ := c7 _ ht
  have ec : t.toNatClampNeg = t.toInt.toNat := by have := i32_cl h1; omega
  rw [ec, u2] at h4
  refine ⟨_, _, et, ei, ht, ?_⟩
  unfold ncT
  by_cases z : (s.tl.getD t.toInt.toNat (0, 0, false)).2.1 = 0
  · rw [if_pos z]
    rw [z] at h4
    rcases h4 with ⟨-, h4⟩ | ⟨h4, -⟩
    · rw [h4]; decide
    · exact absurd rfl h4
  · rw [if_neg z]
    rcases h4 with ⟨h4, -⟩ | ⟨-, h4⟩
    · have := congrArg Int32.toInt h4
      rw [nIi (by omega)] at this
      have : ((s.tl.getD t.toInt.toNat (0, 0, false)).2.1 : Int) = 0 := this
      omega
    · rw [nIi (by omega)] at h4
      omega

set_option maxHeartbeats 4000000 in
set_option maxRecDepth 100000 in
theorem c_kq_Loom_step_a (l : Launch) {dA : FieldType → ClassId} {D : va_G} {al : Nat → Nat} {ext : mv_Sh} {sk sv : Nat → Nat} (hi : mv_inj (mg dA D al ext)) (σ : mv_H) (w9 : Int64) (hR : Rf 32 (mv_r σ)) (r9 : SI × LZ × List DnS) (R9 : Nat → Nat → Int64) (hK : KOx 32 r9 σ) (hS : SPq 32 r9.1 σ) (hO : TCq 32 32768 512 r9 σ) (hV : VLr r9 σ R9) (hL9 : LIq r9) (hU : UQs r9.1) (th sl : Nat) (hTh : Th 32 σ th sl) : mv_C l y_Loom_step (Cond.code y_Loom_step b_Loom_step 3 (Option.some Jvm.ClassFile.FieldType.int) :: ma) ({ frames := 6, cells := 0, slots := 0, locals := 152 }) (mg dA D al ext) (mK sk sv) [.ref (al 0), .long w9] σ (mv_Ri (fun v σ1 => FM σ σ1 ∧ OWr r9 w9 R9 σ σ1 ∧ v = mv_i σ1 64 9)) := by
  refine mv_C.ofV (cc := b_Loom_step) (nL := 3) (ret := (Option.some Jvm.ClassFile.FieldType.int)) (by decide +kernel) rfl hi (Nat.le_of_ble_eq_true rfl) ?_
  intro p e s m below meth c B hNs hr hnm hno
  refine mv_aload_n (pc := 0) B d_Loom_step_0 rfl 0 rfl ?_
  refine mv_getR (pc := 1) (ci := 0) (C := R_Loom) (T := F_Loom) (N := 10) B 9 rfl rfl (by decide) i_Loom (B.2.2.2.1 _ k_495) rfl (hR.1 _ 9 _ rfl) d_Loom_step_1 ?_
  refine mv_lload_n (pc := 4) B d_Loom_step_4 rfl 1 rfl ?_
  refine mv_callVv (pc := 5) (n := 1) (ci := 9) (C := R_Machine) B (mK_ok sk sv) hNs rfl rfl (c_kq_Machine_oneWith_a l hi _ _ hR r9 R9 hK hS hO th sl hTh hV hL9 hU) rfl (ma_goodc kc_Machine_oneWith) (B.2.2.2.1 _ k_1572) (B.2.2.2.1 _ k_1573) (B.2.2.2.1 _ k_1574) (B.2.2.2.1 _ k_11) ⟨by decide +kernel, by decide +kernel, by decide +kernel⟩ rfl d_Loom_step_5 rfl (Nat.le_of_ble_eq_true rfl) ⟨by decide, by decide⟩ ⟨by decide, by decide⟩ ⟨by decide, by decide⟩ (mv_noH hno _) (fun σ5 h5 => ?_)
  obtain ⟨f5, o5⟩ := h5
  have hR : Rf 32 (mv_r σ5) := by rw [f5.2.2.2.2]; exact hR
  refine mv_aload_n (pc := 8) B d_Loom_step_8 rfl 0 rfl ?_
  refine mv_getR (pc := 9) (ci := 0) (C := R_Loom) (T := F_Loom) (N := 10) B 9 rfl rfl (by decide) i_Loom (B.2.2.2.1 _ k_495) rfl (hR.1 _ 9 _ rfl) d_Loom_step_9 ?_
  refine mv_getI (pc := 12) (ci := 9) (C := R_Machine) (T := F_Machine) (N := 13) B 9 rfl rfl (by decide) i_Machine (B.2.2.2.1 _ k_452) rfl d_Loom_step_12 ?_
  exact mv_iret (pc := 15) B hr rfl d_Loom_step_15 (Nat.le_refl _) (Nat.le_refl _) ⟨_, rfl, f5, o5, rfl⟩
set_option maxHeartbeats 4000000 in
set_option maxRecDepth 100000 in
theorem c_kq_Loom_step_b (l : Launch) {dA : FieldType → ClassId} {D : va_G} {al : Nat → Nat} {ext : mv_Sh} {sk sv : Nat → Nat} (hi : mv_inj (mg dA D al ext)) (σ : mv_H) (w9 : Int64) (hR : Rf 48 (mv_r σ)) (r9 : SI × LZ × List DnS) (R9 : Nat → Nat → Int64) (hK : KOx 48 r9 σ) (hS : SPq 48 r9.1 σ) (hO : TCq 48 32768 512 r9 σ) (hV : VLr r9 σ R9) (hL9 : LIq r9) (hU : UQs r9.1) (th sl : Nat) (hTh : Th 48 σ th sl) : mv_C l y_Loom_step (Cond.code y_Loom_step b_Loom_step 3 (Option.some Jvm.ClassFile.FieldType.int) :: ma) ({ frames := 6, cells := 0, slots := 0, locals := 152 }) (mg dA D al ext) (mK sk sv) [.ref (al 0), .long w9] σ (mv_Ri (fun v σ1 => FM σ σ1 ∧ OWr r9 w9 R9 σ σ1 ∧ v = mv_i σ1 64 9)) := by
  refine mv_C.ofV (cc := b_Loom_step) (nL := 3) (ret := (Option.some Jvm.ClassFile.FieldType.int)) (by decide +kernel) rfl hi (Nat.le_of_ble_eq_true rfl) ?_
  intro p e s m below meth c B hNs hr hnm hno
  refine mv_aload_n (pc := 0) B d_Loom_step_0 rfl 0 rfl ?_
  refine mv_getR (pc := 1) (ci := 0) (C := R_Loom) (T := F_Loom) (N := 10) B 9 rfl rfl (by decide) i_Loom (B.2.2.2.1 _ k_495) rfl (hR.1 _ 9 _ rfl) d_Loom_step_1 ?_
  refine mv_lload_n (pc := 4) B d_Loom_step_4 rfl 1 rfl ?_
  refine mv_callVv (pc := 5) (n := 1) (ci := 9) (C := R_Machine) B (mK_ok sk sv) hNs rfl rfl (c_kq_Machine_oneWith_b l hi _ _ hR r9 R9 hK hS hO th sl hTh hV hL9 hU) rfl (ma_goodc kc_Machine_oneWith) (B.2.2.2.1 _ k_1572) (B.2.2.2.1 _ k_1573) (B.2.2.2.1 _ k_1574) (B.2.2.2.1 _ k_11) ⟨by decide +kernel, by decide +kernel, by decide +kernel⟩ rfl d_Loom_step_5 rfl (Nat.le_of_ble_eq_true rfl) ⟨by decide, by decide⟩ ⟨by decide, by decide⟩ ⟨by decide, by decide⟩ (mv_noH hno _) (fun σ5 h5 => ?_)
  obtain ⟨f5, o5⟩ := h5
  have hR : Rf 48 (mv_r σ5) := by rw [f5.2.2.2.2]; exact hR
  refine mv_aload_n (pc := 8) B d_Loom_step_8 rfl 0 rfl ?_
  refine mv_getR (pc := 9) (ci := 0) (C := R_Loom) (T := F_Loom) (N := 10) B 9 rfl rfl (by decide) i_Loom (B.2.2.2.1 _ k_495) rfl (hR.1 _ 9 _ rfl) d_Loom_step_9 ?_
  refine mv_getI (pc := 12) (ci := 9) (C := R_Machine) (T := F_Machine) (N := 13) B 9 rfl rfl (by decide) i_Machine (B.2.2.2.1 _ k_452) rfl d_Loom_step_12 ?_
  exact mv_iret (pc := 15) B hr rfl d_Loom_step_15 (Nat.le_refl _) (Nat.le_refl _) ⟨_, rfl, f5, o5, rfl⟩
set_option maxHeartbeats 4000000 in
set_option maxRecDepth 100000 in
theorem c_kq_Loom_step_c (l : Launch) {dA : FieldType → ClassId} {D : va_G} {al : Nat → Nat} {sk sv : Nat → Nat} (hi : mv_inj (mg dA D al me)) (σ : mv_H) (w9 : Int64) (hR : Rf 145 (mv_r σ)) (r9 : SI × LZ × List DnS) (R9 : Nat → Nat → Int64) (hK : KOx 145 r9 σ) (hS : SPq 145 r9.1 σ) (hO : TCq 145 8192 48 r9 σ) (hV : VLr r9 σ R9) (hL9 : LIq r9) (hU : UQs r9.1) (th sl : Nat) (hTh : Th 145 σ th sl) : mv_C l y_Loom_step (Cond.code y_Loom_step b_Loom_step 3 (Option.some Jvm.ClassFile.FieldType.int) :: ma) ({ frames := 6, cells := 0, slots := 0, locals := 152 }) (mg dA D al me) (mK sk sv) [.ref (al 0), .long w9] σ (mv_Ri (fun v σ1 => FM σ σ1 ∧ OWr r9 w9 R9 σ σ1 ∧ v = mv_i σ1 64 9)) := by
  refine mv_C.ofV (cc := b_Loom_step) (nL := 3) (ret := (Option.some Jvm.ClassFile.FieldType.int)) (by decide +kernel) rfl hi (Nat.le_of_ble_eq_true rfl) ?_
  intro p e s m below meth c B hNs hr hnm hno
  refine mv_aload_n (pc := 0) B d_Loom_step_0 rfl 0 rfl ?_
  refine mv_getR (pc := 1) (ci := 0) (C := R_Loom) (T := F_Loom) (N := 10) B 9 rfl rfl (by decide) i_Loom (B.2.2.2.1 _ k_495) rfl (hR.1 _ 9 _ rfl) d_Loom_step_1 ?_
  refine mv_lload_n (pc := 4) B d_Loom_step_4 rfl 1 rfl ?_
  refine mv_callVv (pc := 5) (n := 1) (ci := 9) (C := R_Machine) B (mK_ok sk sv) hNs rfl rfl (c_kq_Machine_oneWith_c l hi _ _ hR r9 R9 hK hS hO th sl hTh hV hL9 hU) rfl (ma_goodc kc_Machine_oneWith) (B.2.2.2.1 _ k_1572) (B.2.2.2.1 _ k_1573) (B.2.2.2.1 _ k_1574) (B.2.2.2.1 _ k_11) ⟨by decide +kernel, by decide +kernel, by decide +kernel⟩ rfl d_Loom_step_5 rfl (Nat.le_of_ble_eq_true rfl) ⟨by decide, by decide⟩ ⟨by decide, by decide⟩ ⟨by decide, by decide⟩ (mv_noH hno _) (fun σ5 h5 => ?_)
  obtain ⟨f5, o5⟩ := h5
  have hR : Rf 145 (mv_r σ5) := by rw [f5.2.2.2.2]; exact hR
  refine mv_aload_n (pc := 8) B d_Loom_step_8 rfl 0 rfl ?_
  refine mv_getR (pc := 9) (ci := 0) (C := R_Loom) (T := F_Loom) (N := 10) B 9 rfl rfl (by decide) i_Loom (B.2.2.2.1 _ k_495) rfl (hR.1 _ 9 _ rfl) d_Loom_step_9 ?_
  refine mv_getI (pc := 12) (ci := 9) (C := R_Machine) (T := F_Machine) (N := 13) B 9 rfl rfl (by decide) i_Machine (B.2.2.2.1 _ k_452) rfl d_Loom_step_12 ?_
  exact mv_iret (pc := 15) B hr rfl d_Loom_step_15 (Nat.le_refl _) (Nat.le_refl _) ⟨_, rfl, f5, o5, rfl⟩
set_option maxHeartbeats 4000000 in
set_option maxRecDepth 100000 in
theorem c_kq_Loom_run_a (l : Launch) {dA : FieldType → ClassId} {D : va_G} {al : Nat → Nat} {ext : mv_Sh} {sk sv : Nat → Nat} (hi : mv_inj (mg dA D al ext)) (σ : mv_H) (hlt : l.stackTraces = false) (n9 : Int32) (k9 : Nat) (hC : LC ext σ 32 32768 512 k9) (r9 : SI × LZ × List DnS) (R9 : Nat → Nat → Int64) (hK : KOx 32 r9 σ) (hS : SPq 32 r9.1 σ) (hO : TCq 32 32768 512 r9 σ) (hV : VLr r9 σ R9) (hL9 : LIq r9) (hU : UQs r9.1) : mv_C l y_Loom_run (Cond.code y_Loom_run b_Loom_run 2 (Option.some Jvm.ClassFile.FieldType.int) :: ma) ({ frames := 7, cells := 1, slots := 6, locals := 178 }) (mg dA D al ext) (mKt sk sv) [.ref (al 0), .int n9] σ (mv_Ti (fun v σ1 => LC ext σ1 32 32768 512 k9 ∧ GF σ σ1 ∧ GPr σ σ1 ∧ FM σ σ1 ∧ ∃ N9, n9 = nI N9 ∧ 0 < N9 ∧ N9 ≤ 500 ∧ 0 ≤ (mv_i σ 32 9).toInt ∧ RNr r9 N9 R9 σ σ1 v) (fun X σ1 => σ1 = σ ∧ ((X = "java/lang/IllegalArgumentException" ∧ (n9.toInt < 1 ∨ 500 < n9.toInt)) ∨ (X = "java/lang/IllegalStateException" ∧ ¬ (n9.toInt < 1 ∨ 500 < n9.toInt) ∧ (mv_i σ 32 9).toInt < 0)))) := by
  refine mv_C.ofV (cc := b_Loom_run) (nL := 2) (ret := (Option.some Jvm.ClassFile.FieldType.int)) (by decide +kernel) rfl hi (Nat.le_of_ble_eq_true rfl) ?_
  intro p e s m below meth c B hNs hr hnm hno
  have hC9 := hC
  obtain ⟨hPP, hI, hR, hW, ⟨th, sl, hO9, ho0, ho1, ho2⟩, hLS⟩ := hC
  refine mv_iload_n (pc := 0) B d_Loom_run_0 rfl 1 rfl ?_
  refine mv_iconst (pc := 1) (v := 1) B d_Loom_run_1 (by decide) ?_
  refine mv_icmp_lt (pc := 2) (tgt := 12) B d_Loom_run_2 rfl (fun h2 => ?_) (fun h2 => ?_)
  · skip
    have u2 : n9.toInt < 1 := by have z := Int32.lt_iff_toInt_lt.mp h2; simpa using z
    exact mv_throw0 (pc := 12) (ik := 71) (ic := 73) B hlt hNs.2.1 (X := "java/lang/IllegalArgumentException") (by decide +kernel) (B.2.2.2.1 _ k_1704) (B.2.2.2.1 _ k_19) (B.2.2.2.1 _ k_955) rfl (fun s9 hv9 a9 b9 c9 d9 => have hm9 := mt_ma B.2.2.2.1 hv9; mt_w_iae hm9 (hm9 _ k_1705) a9 b9 c9 d9) d_Loom_run_12 d_Loom_run_15 d_Loom_run_16 d_Loom_run_19 (mv_noH hno _) ⟨by decide, by decide⟩ ⟨by decide, by decide⟩ ⟨by decide, by decide⟩ (fun a9 => Or.inr ⟨_, a9, rfl, rfl, Or.inl ⟨rfl, by first | exact Or.inl u2 | exact Or.inr u9⟩⟩)
  · skip
    have y2 : ¬ n9.toInt < 1 := fun z => h2 (Int32.lt_iff_toInt_lt.mpr (by simpa using z))
    refine mv_iload_n (pc := 5) B d_Loom_run_5 rfl 1 rfl ?_
    refine mv_sipush (pc := 6) (v := 500) B d_Loom_run_6 (by decide) ?_
    refine mv_icmp_le (pc := 9) (tgt := 20) B d_Loom_run_9 rfl (fun h9 => ?_) (fun h9 => ?_)
    · skip
      have y9 : n9.toInt ≤ 500 := by have z := Int32.le_iff_toInt_le.mp h9; simpa using z
      have e9n : n9 = nI n9.toInt.toNat := nI_o2 (by omega)
      refine mv_aload_n (pc := 20) B d_Loom_run_20 rfl 0 rfl ?_
      refine mv_getR (pc := 21) (ci := 0) (C := R_Loom) (T := F_Loom) (N := 10) B 9 rfl rfl (by decide) i_Loom (B.2.2.2.1 _ k_495) rfl (hR.1 _ 9 _ rfl) d_Loom_run_21 ?_
      refine mv_getR (pc := 24) (ci := 9) (C := R_Machine) (T := F_Machine) (N := 13) B 0 rfl rfl (by decide) i_Machine (B.2.2.2.1 _ k_441) rfl hR.2.2 d_Loom_run_24 ?_
      refine mv_getI (pc := 27) (ci := 7) (C := R_Program) (T := F_Program) (N := 19) B 9 rfl rfl (by decide) i_Program (B.2.2.2.1 _ k_343) rfl d_Loom_run_27 ?_
      refine mv_if_ge (pc := 30) (tgt := 41) B d_Loom_run_30 rfl (fun h30 => ?_) (fun h30 => ?_)
      · skip
        have z30 : 0 ≤ (mv_i σ 32 9).toInt := by have z := Int32.le_iff_toInt_le.mp h30; simpa using z
        refine mv_aload_n (pc := 41) B d_Loom_run_41 rfl 0 rfl ?_
        refine mv_getR (pc := 42) (ci := 0) (C := R_Loom) (T := F_Loom) (N := 10) B 9 rfl rfl (by decide) i_Loom (B.2.2.2.1 _ k_495) rfl (hR.1 _ 9 _ rfl) d_Loom_run_42 ?_
        refine mv_iload_n (pc := 45) B d_Loom_run_45 rfl 1 rfl ?_
        refine mv_callVi (pc := 46) (n := 1) (ci := 9) (C := R_Machine) B (mK_ok sk sv) hNs.1 rfl rfl (c_kq_Machine_many_a l hi _ _ hR r9 R9 hK hS hO th sl hO9.1 hV hL9 hU n9.toInt.toNat e9n (by omega) (by omega) z30) rfl (ma_goodc kc_Machine_many) (B.2.2.2.1 _ k_1793) (B.2.2.2.1 _ k_1794) (B.2.2.2.1 _ k_1795) (B.2.2.2.1 _ k_11) ⟨by decide +kernel, by decide +kernel, by decide +kernel⟩ rfl d_Loom_run_46 rfl (Nat.le_of_ble_eq_true rfl) ⟨by decide, by decide⟩ ⟨by decide, by decide⟩ ⟨by decide, by decide⟩ (mv_noH hno _) (fun v46 σ46 h46 => ?_)
        exact mv_iret (pc := 49) B hr rfl d_Loom_run_49 (Nat.le_of_ble_eq_true rfl) (Nat.le_of_ble_eq_true rfl) (Or.inl ⟨_, rfl, hC9.fm h46.1, GF.fm h46.1, GPr.fm h46.1, h46.1, _, e9n, by omega, by omega, z30, h46.2⟩)
      · skip
        have u30 : (mv_i σ 32 9).toInt < 0 := by have z := mt Int32.le_iff_toInt_le.mpr h30; simpa using z
        exact mv_throw0 (pc := 33) (ik := 99) (ic := 101) B hlt hNs.2.1 (X := "java/lang/IllegalStateException") (by decide +kernel) (B.2.2.2.1 _ k_1717) (B.2.2.2.1 _ k_34) (B.2.2.2.1 _ k_1718) rfl (fun s9 hv9 a9 b9 c9 d9 => have hm9 := mt_ma B.2.2.2.1 hv9; mt_w_ise hm9 (hm9 _ k_1726) a9 b9 c9 d9) d_Loom_run_33 d_Loom_run_36 d_Loom_run_37 d_Loom_run_40 (mv_noH hno _) ⟨by decide, by decide⟩ ⟨by decide, by decide⟩ ⟨by decide, by decide⟩ (fun a9 => Or.inr ⟨_, a9, rfl, rfl, Or.inr ⟨rfl, by omega, u30⟩⟩)
    · skip
      have u9 : 500 < n9.toInt := by have z := mt Int32.le_iff_toInt_le.mpr h9; simpa using z
      exact mv_throw0 (pc := 12) (ik := 71) (ic := 73) B hlt hNs.2.1 (X := "java/lang/IllegalArgumentException") (by decide +kernel) (B.2.2.2.1 _ k_1704) (B.2.2.2.1 _ k_19) (B.2.2.2.1 _ k_955) rfl (fun s9 hv9 a9 b9 c9 d9 => have hm9 := mt_ma B.2.2.2.1 hv9; mt_w_iae hm9 (hm9 _ k_1705) a9 b9 c9 d9) d_Loom_run_12 d_Loom_run_15 d_Loom_run_16 d_Loom_run_19 (mv_noH hno _) ⟨by decide, by decide⟩ ⟨by decide, by decide⟩ ⟨by decide, by decide⟩ (fun a9 => Or.inr ⟨_, a9, rfl, rfl, Or.inl ⟨rfl, by first | exact Or.inl u2 | exact Or.inr u9⟩⟩)
set_option maxHeartbeats 4000000 in
set_option maxRecDepth 100000 in
theorem c_kq_Loom_run_b (l : Launch) {dA : FieldType → ClassId} {D : va_G} {al : Nat → Nat} {ext : mv_Sh} {sk sv : Nat → Nat} (hi : mv_inj (mg dA D al ext)) (σ : mv_H) (hlt : l.stackTraces = false) (n9 : Int32) (k9 : Nat) (hC : LC ext σ 48 32768 512 k9) (r9 : SI × LZ × List DnS) (R9 : Nat → Nat → Int64) (hK : KOx 48 r9 σ) (hS : SPq 48 r9.1 σ) (hO : TCq 48 32768 512 r9 σ) (hV : VLr r9 σ R9) (hL9 : LIq r9) (hU : UQs r9.1) : mv_C l y_Loom_run (Cond.code y_Loom_run b_Loom_run 2 (Option.some Jvm.ClassFile.FieldType.int) :: ma) ({ frames := 7, cells := 1, slots := 6, locals := 178 }) (mg dA D al ext) (mKt sk sv) [.ref (al 0), .int n9] σ (mv_Ti (fun v σ1 => LC ext σ1 48 32768 512 k9 ∧ GF σ σ1 ∧ GPr σ σ1 ∧ FM σ σ1 ∧ ∃ N9, n9 = nI N9 ∧ 0 < N9 ∧ N9 ≤ 500 ∧ 0 ≤ (mv_i σ 48 9).toInt ∧ RNr r9 N9 R9 σ σ1 v) (fun X σ1 => σ1 = σ ∧ ((X = "java/lang/IllegalArgumentException" ∧ (n9.toInt < 1 ∨ 500 < n9.toInt)) ∨ (X = "java/lang/IllegalStateException" ∧ ¬ (n9.toInt < 1 ∨ 500 < n9.toInt) ∧ (mv_i σ 48 9).toInt < 0)))) := by
  refine mv_C.ofV (cc := b_Loom_run) (nL := 2) (ret := (Option.some Jvm.ClassFile.FieldType.int)) (by decide +kernel) rfl hi (Nat.le_of_ble_eq_true rfl) ?_
  intro p e s m below meth c B hNs hr hnm hno
  have hC9 := hC
  obtain ⟨hPP, hI, hR, hW, ⟨th, sl, hO9, ho0, ho1, ho2⟩, hLS⟩ := hC
  refine mv_iload_n (pc := 0) B d_Loom_run_0 rfl 1 rfl ?_
  refine mv_iconst (pc := 1) (v := 1) B d_Loom_run_1 (by decide) ?_
  refine mv_icmp_lt (pc := 2) (tgt := 12) B d_Loom_run_2 rfl (fun h2 => ?_) (fun h2 => ?_)
  · skip
    have u2 : n9.toInt < 1 := by have z := Int32.lt_iff_toInt_lt.mp h2; simpa using z
    exact mv_throw0 (pc := 12) (ik := 71) (ic := 73) B hlt hNs.2.1 (X := "java/lang/IllegalArgumentException") (by decide +kernel) (B.2.2.2.1 _ k_1704) (B.2.2.2.1 _ k_19) (B.2.2.2.1 _ k_955) rfl (fun s9 hv9 a9 b9 c9 d9 => have hm9 := mt_ma B.2.2.2.1 hv9; mt_w_iae hm9 (hm9 _ k_1705) a9 b9 c9 d9) d_Loom_run_12 d_Loom_run_15 d_Loom_run_16 d_Loom_run_19 (mv_noH hno _) ⟨by decide, by decide⟩ ⟨by decide, by decide⟩ ⟨by decide, by decide⟩ (fun a9 => Or.inr ⟨_, a9, rfl, rfl, Or.inl ⟨rfl, by first | exact Or.inl u2 | exact Or.inr u9⟩⟩)
  · skip
    have y2 : ¬ n9.toInt < 1 := fun z => h2 (Int32.lt_iff_toInt_lt.mpr (by simpa using z))
    refine mv_iload_n (pc := 5) B d_Loom_run_5 rfl 1 rfl ?_
    refine mv_sipush (pc := 6) (v := 500) B d_Loom_run_6 (by decide) ?_
    refine mv_icmp_le (pc := 9) (tgt := 20) B d_Loom_run_9 rfl (fun h9 => ?_) (fun h9 => ?_)
    · skip
      have y9 : n9.toInt ≤ 500 := by have z := Int32.le_iff_toInt_le.mp h9; simpa using z
      have e9n : n9 = nI n9.toInt.toNat := nI_o2 (by omega)
      refine mv_aload_n (pc := 20) B d_Loom_run_20 rfl 0 rfl ?_
      refine mv_getR (pc := 21) (ci := 0) (C := R_Loom) (T := F_Loom) (N := 10) B 9 rfl rfl (by decide) i_Loom (B.2.2.2.1 _ k_495) rfl (hR.1 _ 9 _ rfl) d_Loom_run_21 ?_
      refine mv_getR (pc := 24) (ci := 9) (C := R_Machine) (T := F_Machine) (N := 13) B 0 rfl rfl (by decide) i_Machine (B.2.2.2.1 _ k_441) rfl hR.2.2 d_Loom_run_24 ?_
      refine mv_getI (pc := 27) (ci := 7) (C := R_Program) (T := F_Program) (N := 19) B 9 rfl rfl (by decide) i_Program (B.2.2.2.1 _ k_343) rfl d_Loom_run_27 ?_
      refine mv_if_ge (pc := 30) (tgt := 41) B d_Loom_run_30 rfl (fun h30 => ?_) (fun h30 => ?_)
      · skip
        have z30 : 0 ≤ (mv_i σ 48 9).toInt := by have z := Int32.le_iff_toInt_le.mp h30; simpa using z
        refine mv_aload_n (pc := 41) B d_Loom_run_41 rfl 0 rfl ?_
        refine mv_getR (pc := 42) (ci := 0) (C := R_Loom) (T := F_Loom) (N := 10) B 9 rfl rfl (by decide) i_Loom (B.2.2.2.1 _ k_495) rfl (hR.1 _ 9 _ rfl) d_Loom_run_42 ?_
        refine mv_iload_n (pc := 45) B d_Loom_run_45 rfl 1 rfl ?_
        refine mv_callVi (pc := 46) (n := 1) (ci := 9) (C := R_Machine) B (mK_ok sk sv) hNs.1 rfl rfl (c_kq_Machine_many_b l hi _ _ hR r9 R9 hK hS hO th sl hO9.1 hV hL9 hU n9.toInt.toNat e9n (by omega) (by omega) z30) rfl (ma_goodc kc_Machine_many) (B.2.2.2.1 _ k_1793) (B.2.2.2.1 _ k_1794) (B.2.2.2.1 _ k_1795) (B.2.2.2.1 _ k_11) ⟨by decide +kernel, by decide +kernel, by decide +kernel⟩ rfl d_Loom_run_46 rfl (Nat.le_of_ble_eq_true rfl) ⟨by decide, by decide⟩ ⟨by decide, by decide⟩ ⟨by decide, by decide⟩ (mv_noH hno _) (fun v46 σ46 h46 => ?_)
        exact mv_iret (pc := 49) B hr rfl d_Loom_run_49 (Nat.le_of_ble_eq_true rfl) (Nat.le_of_ble_eq_true rfl) (Or.inl ⟨_, rfl, hC9.fm h46.1, GF.fm h46.1, GPr.fm h46.1, h46.1, _, e9n, by omega, by omega, z30, h46.2⟩)
      · skip
        have u30 : (mv_i σ 48 9).toInt < 0 := by have z := mt Int32.le_iff_toInt_le.mpr h30; simpa using z
        exact mv_throw0 (pc := 33) (ik := 99) (ic := 101) B hlt hNs.2.1 (X := "java/lang/IllegalStateException") (by decide +kernel) (B.2.2.2.1 _ k_1717) (B.2.2.2.1 _ k_34) (B.2.2.2.1 _ k_1718) rfl (fun s9 hv9 a9 b9 c9 d9 => have hm9 := mt_ma B.2.2.2.1 hv9; mt_w_ise hm9 (hm9 _ k_1726) a9 b9 c9 d9) d_Loom_run_33 d_Loom_run_36 d_Loom_run_37 d_Loom_run_40 (mv_noH hno _) ⟨by decide, by decide⟩ ⟨by decide, by decide⟩ ⟨by decide, by decide⟩ (fun a9 => Or.inr ⟨_, a9, rfl, rfl, Or.inr ⟨rfl, by omega, u30⟩⟩)
    · skip
      have u9 : 500 < n9.toInt := by have z := mt Int32.le_iff_toInt_le.mpr h9; simpa using z
      exact mv_throw0 (pc := 12) (ik := 71) (ic := 73) B hlt hNs.2.1 (X := "java/lang/IllegalArgumentException") (by decide +kernel) (B.2.2.2.1 _ k_1704) (B.2.2.2.1 _ k_19) (B.2.2.2.1 _ k_955) rfl (fun s9 hv9 a9 b9 c9 d9 => have hm9 := mt_ma B.2.2.2.1 hv9; mt_w_iae hm9 (hm9 _ k_1705) a9 b9 c9 d9) d_Loom_run_12 d_Loom_run_15 d_Loom_run_16 d_Loom_run_19 (mv_noH hno _) ⟨by decide, by decide⟩ ⟨by decide, by decide⟩ ⟨by decide, by decide⟩ (fun a9 => Or.inr ⟨_, a9, rfl, rfl, Or.inl ⟨rfl, by first | exact Or.inl u2 | exact Or.inr u9⟩⟩)
set_option maxHeartbeats 4000000 in
set_option maxRecDepth 100000 in
theorem c_kq_Loom_run_c (l : Launch) {dA : FieldType → ClassId} {D : va_G} {al : Nat → Nat} {sk sv : Nat → Nat} (hi : mv_inj (mg dA D al me)) (σ : mv_H) (hlt : l.stackTraces = false) (n9 : Int32) (k9 : Nat) (hC : LC me σ 145 8192 48 k9) (r9 : SI × LZ × List DnS) (R9 : Nat → Nat → Int64) (hK : KOx 145 r9 σ) (hS : SPq 145 r9.1 σ) (hO : TCq 145 8192 48 r9 σ) (hV : VLr r9 σ R9) (hL9 : LIq r9) (hU : UQs r9.1) : mv_C l y_Loom_run (Cond.code y_Loom_run b_Loom_run 2 (Option.some Jvm.ClassFile.FieldType.int) :: ma) ({ frames := 7, cells := 1, slots := 6, locals := 178 }) (mg dA D al me) (mKt sk sv) [.ref (al 0), .int n9] σ (mv_Ti (fun v σ1 => LC me σ1 145 8192 48 k9 ∧ GF σ σ1 ∧ GPr σ σ1 ∧ FM σ σ1 ∧ ∃ N9, n9 = nI N9 ∧ 0 < N9 ∧ N9 ≤ 500 ∧ 0 ≤ (mv_i σ 145 9).toInt ∧ RNr r9 N9 R9 σ σ1 v) (fun X σ1 => σ1 = σ ∧ ((X = "java/lang/IllegalArgumentException" ∧ (n9.toInt < 1 ∨ 500 < n9.toInt)) ∨ (X = "java/lang/IllegalStateException" ∧ ¬ (n9.toInt < 1 ∨ 500 < n9.toInt) ∧ (mv_i σ 145 9).toInt < 0)))) := by
  refine mv_C.ofV (cc := b_Loom_run) (nL := 2) (ret := (Option.some Jvm.ClassFile.FieldType.int)) (by decide +kernel) rfl hi (Nat.le_of_ble_eq_true rfl) ?_
  intro p e s m below meth c B hNs hr hnm hno
  have hC9 := hC
  obtain ⟨hPP, hI, hR, hW, ⟨th, sl, hO9, ho0, ho1, ho2⟩, hLS⟩ := hC
  refine mv_iload_n (pc := 0) B d_Loom_run_0 rfl 1 rfl ?_
  refine mv_iconst (pc := 1) (v := 1) B d_Loom_run_1 (by decide) ?_
  refine mv_icmp_lt (pc := 2) (tgt := 12) B d_Loom_run_2 rfl (fun h2 => ?_) (fun h2 => ?_)
  · skip
    have u2 : n9.toInt < 1 := by have z := Int32.lt_iff_toInt_lt.mp h2; simpa using z
    exact mv_throw0 (pc := 12) (ik := 71) (ic := 73) B hlt hNs.2.1 (X := "java/lang/IllegalArgumentException") (by decide +kernel) (B.2.2.2.1 _ k_1704) (B.2.2.2.1 _ k_19) (B.2.2.2.1 _ k_955) rfl (fun s9 hv9 a9 b9 c9 d9 => have hm9 := mt_ma B.2.2.2.1 hv9; mt_w_iae hm9 (hm9 _ k_1705) a9 b9 c9 d9) d_Loom_run_12 d_Loom_run_15 d_Loom_run_16 d_Loom_run_19 (mv_noH hno _) ⟨by decide, by decide⟩ ⟨by decide, by decide⟩ ⟨by decide, by decide⟩ (fun a9 => Or.inr ⟨_, a9, rfl, rfl, Or.inl ⟨rfl, by first | exact Or.inl u2 | exact Or.inr u9⟩⟩)
  · skip
    have y2 : ¬ n9.toInt < 1 := fun z => h2 (Int32.lt_iff_toInt_lt.mpr (by simpa using z))
    refine mv_iload_n (pc := 5) B d_Loom_run_5 rfl 1 rfl ?_
    refine mv_sipush (pc := 6) (v := 500) B d_Loom_run_6 (by decide) ?_
    refine mv_icmp_le (pc := 9) (tgt := 20) B d_Loom_run_9 rfl (fun h9 => ?_) (fun h9 => ?_)
    · skip
      have y9 : n9.toInt ≤ 500 := by have z := Int32.le_iff_toInt_le.mp h9; simpa using z
      have e9n : n9 = nI n9.toInt.toNat := nI_o2 (by omega)
      refine mv_aload_n (pc := 20) B d_Loom_run_20 rfl 0 rfl ?_
      refine mv_getR (pc := 21) (ci := 0) (C := R_Loom) (T := F_Loom) (N := 10) B 9 rfl rfl (by decide) i_Loom (B.2.2.2.1 _ k_495) rfl (hR.1 _ 9 _ rfl) d_Loom_run_21 ?_
      refine mv_getR (pc := 24) (ci := 9) (C := R_Machine) (T := F_Machine) (N := 13) B 0 rfl rfl (by decide) i_Machine (B.2.2.2.1 _ k_441) rfl hR.2.2 d_Loom_run_24 ?_
      refine mv_getI (pc := 27) (ci := 7) (C := R_Program) (T := F_Program) (N := 19) B 9 rfl rfl (by decide) i_Program (B.2.2.2.1 _ k_343) rfl d_Loom_run_27 ?_
      refine mv_if_ge (pc := 30) (tgt := 41) B d_Loom_run_30 rfl (fun h30 => ?_) (fun h30 => ?_)
      · skip
        have z30 : 0 ≤ (mv_i σ 145 9).toInt := by have z := Int32.le_iff_toInt_le.mp h30; simpa using z
        refine mv_aload_n (pc := 41) B d_Loom_run_41 rfl 0 rfl ?_
        refine mv_getR (pc := 42) (ci := 0) (C := R_Loom) (T := F_Loom) (N := 10) B 9 rfl rfl (by decide) i_Loom (B.2.2.2.1 _ k_495) rfl (hR.1 _ 9 _ rfl) d_Loom_run_42 ?_
        refine mv_iload_n (pc := 45) B d_Loom_run_45 rfl 1 rfl ?_
        refine mv_callVi (pc := 46) (n := 1) (ci := 9) (C := R_Machine) B (mK_ok sk sv) hNs.1 rfl rfl (c_kq_Machine_many_c l hi _ _ hR r9 R9 hK hS hO th sl hO9.1 hV hL9 hU n9.toInt.toNat e9n (by omega) (by omega) z30) rfl (ma_goodc kc_Machine_many) (B.2.2.2.1 _ k_1793) (B.2.2.2.1 _ k_1794) (B.2.2.2.1 _ k_1795) (B.2.2.2.1 _ k_11) ⟨by decide +kernel, by decide +kernel, by decide +kernel⟩ rfl d_Loom_run_46 rfl (Nat.le_of_ble_eq_true rfl) ⟨by decide, by decide⟩ ⟨by decide, by decide⟩ ⟨by decide, by decide⟩ (mv_noH hno _) (fun v46 σ46 h46 => ?_)
        exact mv_iret (pc := 49) B hr rfl d_Loom_run_49 (Nat.le_of_ble_eq_true rfl) (Nat.le_of_ble_eq_true rfl) (Or.inl ⟨_, rfl, hC9.fm h46.1, GF.fm h46.1, GPr.fm h46.1, h46.1, _, e9n, by omega, by omega, z30, h46.2⟩)
      · skip
        have u30 : (mv_i σ 145 9).toInt < 0 := by have z := mt Int32.le_iff_toInt_le.mpr h30; simpa using z
        exact mv_throw0 (pc := 33) (ik := 99) (ic := 101) B hlt hNs.2.1 (X := "java/lang/IllegalStateException") (by decide +kernel) (B.2.2.2.1 _ k_1717) (B.2.2.2.1 _ k_34) (B.2.2.2.1 _ k_1718) rfl (fun s9 hv9 a9 b9 c9 d9 => have hm9 := mt_ma B.2.2.2.1 hv9; mt_w_ise hm9 (hm9 _ k_1726) a9 b9 c9 d9) d_Loom_run_33 d_Loom_run_36 d_Loom_run_37 d_Loom_run_40 (mv_noH hno _) ⟨by decide, by decide⟩ ⟨by decide, by decide⟩ ⟨by decide, by decide⟩ (fun a9 => Or.inr ⟨_, a9, rfl, rfl, Or.inr ⟨rfl, by omega, u30⟩⟩)
    · skip
      have u9 : 500 < n9.toInt := by have z := mt Int32.le_iff_toInt_le.mpr h9; simpa using z
      exact mv_throw0 (pc := 12) (ik := 71) (ic := 73) B hlt hNs.2.1 (X := "java/lang/IllegalArgumentException") (by decide +kernel) (B.2.2.2.1 _ k_1704) (B.2.2.2.1 _ k_19) (B.2.2.2.1 _ k_955) rfl (fun s9 hv9 a9 b9 c9 d9 => have hm9 := mt_ma B.2.2.2.1 hv9; mt_w_iae hm9 (hm9 _ k_1705) a9 b9 c9 d9) d_Loom_run_12 d_Loom_run_15 d_Loom_run_16 d_Loom_run_19 (mv_noH hno _) ⟨by decide, by decide⟩ ⟨by decide, by decide⟩ ⟨by decide, by decide⟩ (fun a9 => Or.inr ⟨_, a9, rfl, rfl, Or.inl ⟨rfl, by first | exact Or.inl u2 | exact Or.inr u9⟩⟩)
set_option maxHeartbeats 4000000 in
set_option maxRecDepth 100000 in
theorem c_kq_Loom_peek_a (l : Launch) {dA : FieldType → ClassId} {D : va_G} {al : Nat → Nat} {ext : mv_Sh} {sk sv : Nat → Nat} (hi : mv_inj (mg dA D al ext)) (σ : mv_H) (hlt : l.stackTraces = false) (t9 i9 : Int32) (k9 : Nat) (hC : LC ext σ 32 32768 512 k9) : mv_C l y_Loom_peek (Cond.code y_Loom_peek b_Loom_peek 3 (Option.some Jvm.ClassFile.FieldType.long) :: ma) ({ frames := 6, cells := 1, slots := 6, locals := 81 }) (mg dA D al ext) (mKt sk sv) [.ref (al 0), .int t9, .int i9] σ (mv_Tl (fun v σ1 => σ1 = σ ∧ HSq (mv_i σ 32 1) (mv_a σ 34 t9.toNatClampNeg) t9 i9 ∧ v = mv_b σ 65 ((mv_a σ 35 t9.toNatClampNeg).toNatClampNeg + i9.toNatClampNeg)) (fun X σ1 => X = "java/util/NoSuchElementException" ∧ σ1 = σ ∧ ¬ HSq (mv_i σ 32 1) (mv_a σ 34 t9.toNatClampNeg) t9 i9)) := by
  refine mv_C.ofV (cc := b_Loom_peek) (nL := 3) (ret := (Option.some Jvm.ClassFile.FieldType.long)) (by decide +kernel) rfl hi (Nat.le_of_ble_eq_true rfl) ?_
  intro p e s m below meth c B hNs hr hnm hno
  have hC9 := hC
  obtain ⟨hPP, hI, hR, hW, ⟨th, sl, hO9, ho0, ho1, ho2⟩, hLS⟩ := hC
  have hT9 := hO9.1
  obtain ⟨hT1, hT2, hT3, hT4, hT5, hT6, hT7, hT8⟩ := hO9.1
  refine mv_aload_n (pc := 0) B d_Loom_peek_0 rfl 0 rfl ?_
  refine mv_getR (pc := 1) (ci := 0) (C := R_Loom) (T := F_Loom) (N := 10) B 9 rfl rfl (by decide) i_Loom (B.2.2.2.1 _ k_495) rfl (hR.1 _ 9 _ rfl) d_Loom_peek_1 ?_
  refine mv_getR (pc := 4) (ci := 9) (C := R_Machine) (T := F_Machine) (N := 13) B 0 rfl rfl (by decide) i_Machine (B.2.2.2.1 _ k_441) rfl hR.2.2 d_Loom_peek_4 ?_
  refine mv_iload_n (pc := 7) B d_Loom_peek_7 rfl 1 rfl ?_
  refine mv_iload_n (pc := 8) B d_Loom_peek_8 rfl 2 rfl ?_
  refine mv_callVi (pc := 9) (n := 2) (ci := 7) (C := R_Program) B (mK_ok sk sv) hNs.1 rfl rfl (mv_C.twoi (c_Program_has_a l hi _ _ _ hR.2.1 (by omega)) (c_kh_Program_has_a l hi _ _ _ hR.2.1 (by omega))) rfl (ma_goodc kc_Program_has) (B.2.2.2.1 _ k_1774) (B.2.2.2.1 _ k_1775) (B.2.2.2.1 _ k_1776) (B.2.2.2.1 _ k_8) ⟨by decide +kernel, by decide +kernel, by decide +kernel⟩ rfl d_Loom_peek_9 rfl (Nat.le_of_ble_eq_true rfl) ⟨by decide, by decide⟩ ⟨by decide, by decide⟩ ⟨by decide, by decide⟩ (mv_noH hno _) (fun v9 σ9 h9 => ?_)
  obtain ⟨⟨e9, z9⟩, υ9, ⟨-, y9⟩, -⟩ := h9
  have e9 := e9.symm
  subst e9
  refine mv_if_ne (pc := 12) (tgt := 23) B d_Loom_peek_12 rfl (fun h12 => ?_) (fun h12 => ?_)
  · skip
    have hye := (y9.resolve_left (fun z => h12 z.1)).2
    have z8 := z9.resolve_left h12
    obtain ⟨-, z1, z2, z3, z4⟩ := z8
    obtain ⟨tn, etn⟩ : ∃ tn : Nat, t9.toInt = tn := ⟨t9.toInt.toNat, by omega⟩
    have hcl : t9.toNatClampNeg = tn := by rw [Int32.toNatClampNeg, etn]; rfl
    obtain ⟨cw, fw, q1, q2, q3, q4⟩ := hT7 tn (by omega)
    rw [hcl] at z4
    have z5 : fw + i9.toInt < 65600 := by
      rcases z4 with ⟨-, z4⟩ | ⟨-, z4⟩
      · rw [z4]; show (fw : Int) + 0 < 65600; omega
      · rw [q1] at z4; omega
    have q5 : (mv_a σ 35 t9.toNatClampNeg).toInt = fw := by rw [hcl]; exact q2
    refine mv_aload_n (pc := 23) B d_Loom_peek_23 rfl 0 rfl ?_
    refine mv_getR (pc := 24) (ci := 0) (C := R_Loom) (T := F_Loom) (N := 10) B 9 rfl rfl (by decide) i_Loom (B.2.2.2.1 _ k_495) rfl (hR.1 _ 9 _ rfl) d_Loom_peek_24 ?_
    refine mv_getR (pc := 27) (ci := 9) (C := R_Machine) (T := F_Machine) (N := 13) B 1 rfl rfl (by decide) i_Machine (B.2.2.2.1 _ k_443) rfl (hR.1 _ 1 _ rfl) d_Loom_peek_27 ?_
    refine mv_aload_n (pc := 30) B d_Loom_peek_30 rfl 0 rfl ?_
    refine mv_getR (pc := 31) (ci := 0) (C := R_Loom) (T := F_Loom) (N := 10) B 9 rfl rfl (by decide) i_Loom (B.2.2.2.1 _ k_495) rfl (hR.1 _ 9 _ rfl) d_Loom_peek_31 ?_
    refine mv_getR (pc := 34) (ci := 9) (C := R_Machine) (T := F_Machine) (N := 13) B 0 rfl rfl (by decide) i_Machine (B.2.2.2.1 _ k_441) rfl hR.2.2 d_Loom_peek_34 ?_
    refine mv_getR (pc := 37) (ci := 7) (C := R_Program) (T := F_Program) (N := 19) B 4 rfl rfl (by decide) i_Program (B.2.2.2.1 _ k_329) rfl (hR.2.1 _ 4 35 rfl) d_Loom_peek_37 ?_
    refine mv_iload_n (pc := 40) B d_Loom_peek_40 rfl 1 rfl ?_
    refine mv_iald (pc := 41) B rfl (i32_in z1 (show t9.toInt < 64 by omega)) d_Loom_peek_41 ?_
    refine mv_iload_n (pc := 42) B d_Loom_peek_42 rfl 2 rfl ?_
    refine mv_iadd (pc := 43) B d_Loom_peek_43 ?_
    refine mv_topi (fun y43 ey43 => ?_)
    have fy43 := i32_addE ey43 (by (try simp only [Int32.reduceToInt]); omega) (by (try simp only [Int32.reduceToInt]); omega)
    try simp only [Int32.reduceToInt] at fy43
    refine mv_lald (pc := 44) B rfl (i32_in (show 0 ≤ y43.toInt by omega) (show y43.toInt < 65600 by omega)) d_Loom_peek_44 ?_
    exact mv_lret (pc := 45) B hr d_Loom_peek_45 (Nat.le_of_ble_eq_true rfl) (Nat.le_of_ble_eq_true rfl) (Or.inl ⟨_, rfl, rfl, hye, congrArg (mv_b σ 65) (by have e1 := i32_cl (x := y43) (by omega); have e2 := i32_cl (x := mv_a σ 35 t9.toNatClampNeg) (by omega); have e3 := i32_cl (x := i9) (by omega); omega)⟩)
  · skip
    have hnp := (y9.resolve_right (fun z => by rw [h12] at z; exact absurd z.1 (by decide))).2
    exact mv_throw0 (pc := 15) (ik := 131) (ic := 133) B hlt hNs.2.1 (X := "java/util/NoSuchElementException") (by decide +kernel) (B.2.2.2.1 _ k_1751) (B.2.2.2.1 _ k_36) (B.2.2.2.1 _ k_1752) rfl (fun s9 hv9 a9 b9 c9 d9 => have hm9 := mt_ma B.2.2.2.1 hv9; mt_w_nse hm9 (hm9 _ k_1760) a9 b9 c9 d9) d_Loom_peek_15 d_Loom_peek_18 d_Loom_peek_19 d_Loom_peek_22 (mv_noH hno _) ⟨by decide, by decide⟩ ⟨by decide, by decide⟩ ⟨by decide, by decide⟩ (fun a9 => Or.inr ⟨_, a9, rfl, rfl, rfl, hnp⟩)
set_option maxHeartbeats 4000000 in
set_option maxRecDepth 100000 in
theorem c_kq_Loom_peek_b (l : Launch) {dA : FieldType → ClassId} {D : va_G} {al : Nat → Nat} {ext : mv_Sh} {sk sv : Nat → Nat} (hi : mv_inj (mg dA D al ext)) (σ : mv_H) (hlt : l.stackTraces = false) (t9 i9 : Int32) (k9 : Nat) (hC : LC ext σ 48 32768 512 k9) : mv_C l y_Loom_peek (Cond.code y_Loom_peek b_Loom_peek 3 (Option.some Jvm.ClassFile.FieldType.long) :: ma) ({ frames := 6, cells := 1, slots := 6, locals := 81 }) (mg dA D al ext) (mKt sk sv) [.ref (al 0), .int t9, .int i9] σ (mv_Tl (fun v σ1 => σ1 = σ ∧ HSq (mv_i σ 48 1) (mv_a σ 50 t9.toNatClampNeg) t9 i9 ∧ v = mv_b σ 65 ((mv_a σ 51 t9.toNatClampNeg).toNatClampNeg + i9.toNatClampNeg)) (fun X σ1 => X = "java/util/NoSuchElementException" ∧ σ1 = σ ∧ ¬ HSq (mv_i σ 48 1) (mv_a σ 50 t9.toNatClampNeg) t9 i9)) := by
  refine mv_C.ofV (cc := b_Loom_peek) (nL := 3) (ret := (Option.some Jvm.ClassFile.FieldType.long)) (by decide +kernel) rfl hi (Nat.le_of_ble_eq_true rfl) ?_
  intro p e s m below meth c B hNs hr hnm hno
  have hC9 := hC
  obtain ⟨hPP, hI, hR, hW, ⟨th, sl, hO9, ho0, ho1, ho2⟩, hLS⟩ := hC
  have hT9 := hO9.1
  obtain ⟨hT1, hT2, hT3, hT4, hT5, hT6, hT7, hT8⟩ := hO9.1
  refine mv_aload_n (pc := 0) B d_Loom_peek_0 rfl 0 rfl ?_
  refine mv_getR (pc := 1) (ci := 0) (C := R_Loom) (T := F_Loom) (N := 10) B 9 rfl rfl (by decide) i_Loom (B.2.2.2.1 _ k_495) rfl (hR.1 _ 9 _ rfl) d_Loom_peek_1 ?_
  refine mv_getR (pc := 4) (ci := 9) (C := R_Machine) (T := F_Machine) (N := 13) B 0 rfl rfl (by decide) i_Machine (B.2.2.2.1 _ k_441) rfl hR.2.2 d_Loom_peek_4 ?_
  refine mv_iload_n (pc := 7) B d_Loom_peek_7 rfl 1 rfl ?_
  refine mv_iload_n (pc := 8) B d_Loom_peek_8 rfl 2 rfl ?_
  refine mv_callVi (pc := 9) (n := 2) (ci := 7) (C := R_Program) B (mK_ok sk sv) hNs.1 rfl rfl (mv_C.twoi (c_Program_has_b l hi _ _ _ hR.2.1 (by omega)) (c_kh_Program_has_b l hi _ _ _ hR.2.1 (by omega))) rfl (ma_goodc kc_Program_has) (B.2.2.2.1 _ k_1774) (B.2.2.2.1 _ k_1775) (B.2.2.2.1 _ k_1776) (B.2.2.2.1 _ k_8) ⟨by decide +kernel, by decide +kernel, by decide +kernel⟩ rfl d_Loom_peek_9 rfl (Nat.le_of_ble_eq_true rfl) ⟨by decide, by decide⟩ ⟨by decide, by decide⟩ ⟨by decide, by decide⟩ (mv_noH hno _) (fun v9 σ9 h9 => ?_)
  obtain ⟨⟨e9, z9⟩, υ9, ⟨-, y9⟩, -⟩ := h9
  have e9 := e9.symm
  subst e9
  refine mv_if_ne (pc := 12) (tgt := 23) B d_Loom_peek_12 rfl (fun h12 => ?_) (fun h12 => ?_)
  · skip
    have hye := (y9.resolve_left (fun z => h12 z.1)).2
    have z8 := z9.resolve_left h12
    obtain ⟨-, z1, z2, z3, z4⟩ := z8
    obtain ⟨tn, etn⟩ : ∃ tn : Nat, t9.toInt = tn := ⟨t9.toInt.toNat, by omega⟩
    have hcl : t9.toNatClampNeg = tn := by rw [Int32.toNatClampNeg, etn]; rfl
    obtain ⟨cw, fw, q1, q2, q3, q4⟩ := hT7 tn (by omega)
    rw [hcl] at z4
    have z5 : fw + i9.toInt < 65600 := by
      rcases z4 with ⟨-, z4⟩ | ⟨-, z4⟩
      · rw [z4]; show (fw : Int) + 0 < 65600; omega
      · rw [q1] at z4; omega
    have q5 : (mv_a σ 51 t9.toNatClampNeg).toInt = fw := by rw [hcl]; exact q2
    refine mv_aload_n (pc := 23) B d_Loom_peek_23 rfl 0 rfl ?_
    refine mv_getR (pc := 24) (ci := 0) (C := R_Loom) (T := F_Loom) (N := 10) B 9 rfl rfl (by decide) i_Loom (B.2.2.2.1 _ k_495) rfl (hR.1 _ 9 _ rfl) d_Loom_peek_24 ?_
    refine mv_getR (pc := 27) (ci := 9) (C := R_Machine) (T := F_Machine) (N := 13) B 1 rfl rfl (by decide) i_Machine (B.2.2.2.1 _ k_443) rfl (hR.1 _ 1 _ rfl) d_Loom_peek_27 ?_
    refine mv_aload_n (pc := 30) B d_Loom_peek_30 rfl 0 rfl ?_
    refine mv_getR (pc := 31) (ci := 0) (C := R_Loom) (T := F_Loom) (N := 10) B 9 rfl rfl (by decide) i_Loom (B.2.2.2.1 _ k_495) rfl (hR.1 _ 9 _ rfl) d_Loom_peek_31 ?_
    refine mv_getR (pc := 34) (ci := 9) (C := R_Machine) (T := F_Machine) (N := 13) B 0 rfl rfl (by decide) i_Machine (B.2.2.2.1 _ k_441) rfl hR.2.2 d_Loom_peek_34 ?_
    refine mv_getR (pc := 37) (ci := 7) (C := R_Program) (T := F_Program) (N := 19) B 4 rfl rfl (by decide) i_Program (B.2.2.2.1 _ k_329) rfl (hR.2.1 _ 4 51 rfl) d_Loom_peek_37 ?_
    refine mv_iload_n (pc := 40) B d_Loom_peek_40 rfl 1 rfl ?_
    refine mv_iald (pc := 41) B rfl (i32_in z1 (show t9.toInt < 64 by omega)) d_Loom_peek_41 ?_
    refine mv_iload_n (pc := 42) B d_Loom_peek_42 rfl 2 rfl ?_
    refine mv_iadd (pc := 43) B d_Loom_peek_43 ?_
    refine mv_topi (fun y43 ey43 => ?_)
    have fy43 := i32_addE ey43 (by (try simp only [Int32.reduceToInt]); omega) (by (try simp only [Int32.reduceToInt]); omega)
    try simp only [Int32.reduceToInt] at fy43
    refine mv_lald (pc := 44) B rfl (i32_in (show 0 ≤ y43.toInt by omega) (show y43.toInt < 65600 by omega)) d_Loom_peek_44 ?_
    exact mv_lret (pc := 45) B hr d_Loom_peek_45 (Nat.le_of_ble_eq_true rfl) (Nat.le_of_ble_eq_true rfl) (Or.inl ⟨_, rfl, rfl, hye, congrArg (mv_b σ 65) (by have e1 := i32_cl (x := y43) (by omega); have e2 := i32_cl (x := mv_a σ 51 t9.toNatClampNeg) (by omega); have e3 := i32_cl (x := i9) (by omega); omega)⟩)
  · skip
    have hnp := (y9.resolve_right (fun z => by rw [h12] at z; exact absurd z.1 (by decide))).2
    exact mv_throw0 (pc := 15) (ik := 131) (ic := 133) B hlt hNs.2.1 (X := "java/util/NoSuchElementException") (by decide +kernel) (B.2.2.2.1 _ k_1751) (B.2.2.2.1 _ k_36) (B.2.2.2.1 _ k_1752) rfl (fun s9 hv9 a9 b9 c9 d9 => have hm9 := mt_ma B.2.2.2.1 hv9; mt_w_nse hm9 (hm9 _ k_1760) a9 b9 c9 d9) d_Loom_peek_15 d_Loom_peek_18 d_Loom_peek_19 d_Loom_peek_22 (mv_noH hno _) ⟨by decide, by decide⟩ ⟨by decide, by decide⟩ ⟨by decide, by decide⟩ (fun a9 => Or.inr ⟨_, a9, rfl, rfl, rfl, hnp⟩)
set_option maxHeartbeats 4000000 in
set_option maxRecDepth 100000 in
theorem c_kq_Loom_peek_c (l : Launch) {dA : FieldType → ClassId} {D : va_G} {al : Nat → Nat} {sk sv : Nat → Nat} (hi : mv_inj (mg dA D al me)) (σ : mv_H) (hlt : l.stackTraces = false) (t9 i9 : Int32) (k9 : Nat) (hC : LC me σ 145 8192 48 k9) : mv_C l y_Loom_peek (Cond.code y_Loom_peek b_Loom_peek 3 (Option.some Jvm.ClassFile.FieldType.long) :: ma) ({ frames := 6, cells := 1, slots := 6, locals := 81 }) (mg dA D al me) (mKt sk sv) [.ref (al 0), .int t9, .int i9] σ (mv_Tl (fun v σ1 => σ1 = σ ∧ HSq (mv_i σ 145 1) (mv_a σ 147 t9.toNatClampNeg) t9 i9 ∧ v = mv_b σ 65 ((mv_a σ 148 t9.toNatClampNeg).toNatClampNeg + i9.toNatClampNeg)) (fun X σ1 => X = "java/util/NoSuchElementException" ∧ σ1 = σ ∧ ¬ HSq (mv_i σ 145 1) (mv_a σ 147 t9.toNatClampNeg) t9 i9)) := by
  refine mv_C.ofV (cc := b_Loom_peek) (nL := 3) (ret := (Option.some Jvm.ClassFile.FieldType.long)) (by decide +kernel) rfl hi (Nat.le_of_ble_eq_true rfl) ?_
  intro p e s m below meth c B hNs hr hnm hno
  have hC9 := hC
  obtain ⟨hPP, hI, hR, hW, ⟨th, sl, hO9, ho0, ho1, ho2⟩, hLS⟩ := hC
  have hT9 := hO9.1
  obtain ⟨hT1, hT2, hT3, hT4, hT5, hT6, hT7, hT8⟩ := hO9.1
  refine mv_aload_n (pc := 0) B d_Loom_peek_0 rfl 0 rfl ?_
  refine mv_getR (pc := 1) (ci := 0) (C := R_Loom) (T := F_Loom) (N := 10) B 9 rfl rfl (by decide) i_Loom (B.2.2.2.1 _ k_495) rfl (hR.1 _ 9 _ rfl) d_Loom_peek_1 ?_
  refine mv_getR (pc := 4) (ci := 9) (C := R_Machine) (T := F_Machine) (N := 13) B 0 rfl rfl (by decide) i_Machine (B.2.2.2.1 _ k_441) rfl hR.2.2 d_Loom_peek_4 ?_
  refine mv_iload_n (pc := 7) B d_Loom_peek_7 rfl 1 rfl ?_
  refine mv_iload_n (pc := 8) B d_Loom_peek_8 rfl 2 rfl ?_
  refine mv_callVi (pc := 9) (n := 2) (ci := 7) (C := R_Program) B (mK_ok sk sv) hNs.1 rfl rfl (mv_C.twoi (c_Program_has_c l hi _ _ _ hR.2.1 (by omega)) (c_kh_Program_has_c l hi _ _ _ hR.2.1 (by omega))) rfl (ma_goodc kc_Program_has) (B.2.2.2.1 _ k_1774) (B.2.2.2.1 _ k_1775) (B.2.2.2.1 _ k_1776) (B.2.2.2.1 _ k_8) ⟨by decide +kernel, by decide +kernel, by decide +kernel⟩ rfl d_Loom_peek_9 rfl (Nat.le_of_ble_eq_true rfl) ⟨by decide, by decide⟩ ⟨by decide, by decide⟩ ⟨by decide, by decide⟩ (mv_noH hno _) (fun v9 σ9 h9 => ?_)
  obtain ⟨⟨e9, z9⟩, υ9, ⟨-, y9⟩, -⟩ := h9
  have e9 := e9.symm
  subst e9
  refine mv_if_ne (pc := 12) (tgt := 23) B d_Loom_peek_12 rfl (fun h12 => ?_) (fun h12 => ?_)
  · skip
    have hye := (y9.resolve_left (fun z => h12 z.1)).2
    have z8 := z9.resolve_left h12
    obtain ⟨-, z1, z2, z3, z4⟩ := z8
    obtain ⟨tn, etn⟩ : ∃ tn : Nat, t9.toInt = tn := ⟨t9.toInt.toNat, by omega⟩
    have hcl : t9.toNatClampNeg = tn := by rw [Int32.toNatClampNeg, etn]; rfl
    obtain ⟨cw, fw, q1, q2, q3, q4⟩ := hT7 tn (by omega)
    rw [hcl] at z4
    have z5 : fw + i9.toInt < 65600 := by
      rcases z4 with ⟨-, z4⟩ | ⟨-, z4⟩
      · rw [z4]; show (fw : Int) + 0 < 65600; omega
      · rw [q1] at z4; omega
    have q5 : (mv_a σ 148 t9.toNatClampNeg).toInt = fw := by rw [hcl]; exact q2
    refine mv_aload_n (pc := 23) B d_Loom_peek_23 rfl 0 rfl ?_
    refine mv_getR (pc := 24) (ci := 0) (C := R_Loom) (T := F_Loom) (N := 10) B 9 rfl rfl (by decide) i_Loom (B.2.2.2.1 _ k_495) rfl (hR.1 _ 9 _ rfl) d_Loom_peek_24 ?_
    refine mv_getR (pc := 27) (ci := 9) (C := R_Machine) (T := F_Machine) (N := 13) B 1 rfl rfl (by decide) i_Machine (B.2.2.2.1 _ k_443) rfl (hR.1 _ 1 _ rfl) d_Loom_peek_27 ?_
    refine mv_aload_n (pc := 30) B d_Loom_peek_30 rfl 0 rfl ?_
    refine mv_getR (pc := 31) (ci := 0) (C := R_Loom) (T := F_Loom) (N := 10) B 9 rfl rfl (by decide) i_Loom (B.2.2.2.1 _ k_495) rfl (hR.1 _ 9 _ rfl) d_Loom_peek_31 ?_
    refine mv_getR (pc := 34) (ci := 9) (C := R_Machine) (T := F_Machine) (N := 13) B 0 rfl rfl (by decide) i_Machine (B.2.2.2.1 _ k_441) rfl hR.2.2 d_Loom_peek_34 ?_
    refine mv_getR (pc := 37) (ci := 7) (C := R_Program) (T := F_Program) (N := 19) B 4 rfl rfl (by decide) i_Program (B.2.2.2.1 _ k_329) rfl (hR.2.1 _ 4 148 rfl) d_Loom_peek_37 ?_
    refine mv_iload_n (pc := 40) B d_Loom_peek_40 rfl 1 rfl ?_
    refine mv_iald (pc := 41) B rfl (i32_in z1 (show t9.toInt < 64 by omega)) d_Loom_peek_41 ?_
    refine mv_iload_n (pc := 42) B d_Loom_peek_42 rfl 2 rfl ?_
    refine mv_iadd (pc := 43) B d_Loom_peek_43 ?_
    refine mv_topi (fun y43 ey43 => ?_)
    have fy43 := i32_addE ey43 (by (try simp only [Int32.reduceToInt]); omega) (by (try simp only [Int32.reduceToInt]); omega)
    try simp only [Int32.reduceToInt] at fy43
    refine mv_lald (pc := 44) B rfl (i32_in (show 0 ≤ y43.toInt by omega) (show y43.toInt < 65600 by omega)) d_Loom_peek_44 ?_
    exact mv_lret (pc := 45) B hr d_Loom_peek_45 (Nat.le_of_ble_eq_true rfl) (Nat.le_of_ble_eq_true rfl) (Or.inl ⟨_, rfl, rfl, hye, congrArg (mv_b σ 65) (by have e1 := i32_cl (x := y43) (by omega); have e2 := i32_cl (x := mv_a σ 148 t9.toNatClampNeg) (by omega); have e3 := i32_cl (x := i9) (by omega); omega)⟩)
  · skip
    have hnp := (y9.resolve_right (fun z => by rw [h12] at z; exact absurd z.1 (by decide))).2
    exact mv_throw0 (pc := 15) (ik := 131) (ic := 133) B hlt hNs.2.1 (X := "java/util/NoSuchElementException") (by decide +kernel) (B.2.2.2.1 _ k_1751) (B.2.2.2.1 _ k_36) (B.2.2.2.1 _ k_1752) rfl (fun s9 hv9 a9 b9 c9 d9 => have hm9 := mt_ma B.2.2.2.1 hv9; mt_w_nse hm9 (hm9 _ k_1760) a9 b9 c9 d9) d_Loom_peek_15 d_Loom_peek_18 d_Loom_peek_19 d_Loom_peek_22 (mv_noH hno _) ⟨by decide, by decide⟩ ⟨by decide, by decide⟩ ⟨by decide, by decide⟩ (fun a9 => Or.inr ⟨_, a9, rfl, rfl, rfl, hnp⟩)
set_option maxHeartbeats 4000000 in
set_option maxRecDepth 100000 in
theorem c_kq_Loom_poke_a (l : Launch) {dA : FieldType → ClassId} {D : va_G} {al : Nat → Nat} {ext : mv_Sh} {sk sv : Nat → Nat} (hi : mv_inj (mg dA D al ext)) (σ : mv_H) (hlt : l.stackTraces = false) (t9 i9 : Int32) (w9 : Int64) (k9 : Nat) (hC : LC ext σ 32 32768 512 k9) (r9 : SI × LZ × List DnS) (R9 : Nat → Nat → Int64) (hK : KOx 32 r9 σ) (hS : SPq 32 r9.1 σ) (hV : VLr r9 σ R9) : mv_C l y_Loom_poke (Cond.code y_Loom_poke b_Loom_poke 5 (Option.none : Option Jvm.ClassFile.FieldType) :: ma) ({ frames := 6, cells := 1, slots := 6, locals := 81 }) (mg dA D al ext) (mKt sk sv) [.ref (al 0), .int t9, .int i9, .long w9] σ (mv_Tv (fun σ1 => LC ext σ1 32 32768 512 k9 ∧ GF σ σ1 ∧ GPr σ σ1 ∧ HSq (mv_i σ 32 1) (mv_a σ 34 t9.toNatClampNeg) t9 i9 ∧ F6v σ σ1 ∧ ∃ tn n, t9 = nI tn ∧ i9 = nI n ∧ tn < r9.1.tl.length ∧ n < ncT (r9.1.tl.getD tn (0, 0, false)) ∧ VLr r9 σ1 (wrT (eW r9 0) tn n w9 R9)) (fun X σ1 => X = "java/util/NoSuchElementException" ∧ σ1 = σ ∧ ¬ HSq (mv_i σ 32 1) (mv_a σ 34 t9.toNatClampNeg) t9 i9)) := by
  refine mv_C.ofV (cc := b_Loom_poke) (nL := 5) (ret := (Option.none : Option Jvm.ClassFile.FieldType)) (by decide +kernel) rfl hi (Nat.le_of_ble_eq_true rfl) ?_
  intro p e s m below meth c B hNs hr hnm hno
  have hC9 := hC
  obtain ⟨hPP, hI, hR, hW, ⟨th, sl, hO9, ho0, ho1, ho2⟩, hLS⟩ := hC
  have hT9 := hO9.1
  obtain ⟨hT1, hT2, hT3, hT4, hT5, hT6, hT7, hT8⟩ := hO9.1
  refine mv_aload_n (pc := 0) B d_Loom_poke_0 rfl 0 rfl ?_
  refine mv_getR (pc := 1) (ci := 0) (C := R_Loom) (T := F_Loom) (N := 10) B 9 rfl rfl (by decide) i_Loom (B.2.2.2.1 _ k_495) rfl (hR.1 _ 9 _ rfl) d_Loom_poke_1 ?_
  refine mv_getR (pc := 4) (ci := 9) (C := R_Machine) (T := F_Machine) (N := 13) B 0 rfl rfl (by decide) i_Machine (B.2.2.2.1 _ k_441) rfl hR.2.2 d_Loom_poke_4 ?_
  refine mv_iload_n (pc := 7) B d_Loom_poke_7 rfl 1 rfl ?_
  refine mv_iload_n (pc := 8) B d_Loom_poke_8 rfl 2 rfl ?_
  refine mv_callVi (pc := 9) (n := 2) (ci := 7) (C := R_Program) B (mK_ok sk sv) hNs.1 rfl rfl (mv_C.twoi (c_Program_has_a l hi _ _ _ hR.2.1 (by omega)) (c_kh_Program_has_a l hi _ _ _ hR.2.1 (by omega))) rfl (ma_goodc kc_Program_has) (B.2.2.2.1 _ k_1774) (B.2.2.2.1 _ k_1775) (B.2.2.2.1 _ k_1776) (B.2.2.2.1 _ k_8) ⟨by decide +kernel, by decide +kernel, by decide +kernel⟩ rfl d_Loom_poke_9 rfl (Nat.le_of_ble_eq_true rfl) ⟨by decide, by decide⟩ ⟨by decide, by decide⟩ ⟨by decide, by decide⟩ (mv_noH hno _) (fun v9 σ9 h9 => ?_)
  obtain ⟨⟨e9, z9⟩, υ9, ⟨-, y9⟩, -⟩ := h9
  have e9 := e9.symm
  subst e9
  refine mv_if_ne (pc := 12) (tgt := 23) B d_Loom_poke_12 rfl (fun h12 => ?_) (fun h12 => ?_)
  · skip
    have hye := (y9.resolve_left (fun z => h12 z.1)).2
    obtain ⟨tn, n, etn, ein, htn, hin⟩ := hs_n hS hye
    obtain ⟨t30, e30, v30, f30⟩ := put_V (P := 32) hK hS hV htn hin w9
    rw [← etn, ← ein] at e30
    refine mv_aload_n (pc := 23) B d_Loom_poke_23 rfl 0 rfl ?_
    refine mv_getR (pc := 24) (ci := 0) (C := R_Loom) (T := F_Loom) (N := 10) B 9 rfl rfl (by decide) i_Loom (B.2.2.2.1 _ k_495) rfl (hR.1 _ 9 _ rfl) d_Loom_poke_24 ?_
    refine mv_iload_n (pc := 27) B d_Loom_poke_27 rfl 1 rfl ?_
    refine mv_iload_n (pc := 28) B d_Loom_poke_28 rfl 2 rfl ?_
    refine mv_lload_n (pc := 29) B d_Loom_poke_29 rfl 3 rfl ?_
    refine mv_callVv (pc := 30) (n := 3) (ci := 9) (C := R_Machine) B (mK_ok sk sv) hNs.1 rfl rfl (ch_Machine_put_a l hi _ hR _ _ _ e30) rfl (ma_goodc kc_Machine_put) (B.2.2.2.1 _ k_1778) (B.2.2.2.1 _ k_1601) (B.2.2.2.1 _ k_1602) (B.2.2.2.1 _ k_11) ⟨by decide +kernel, by decide +kernel, by decide +kernel⟩ rfl d_Loom_poke_30 rfl (Nat.le_of_ble_eq_true rfl) ⟨by decide, by decide⟩ ⟨by decide, by decide⟩ ⟨by decide, by decide⟩ (mv_noH hno _) (fun σ30 h30 => ?_)
    obtain ⟨x30, -⟩ := h30
    subst x30
    exact mv_vret (pc := 33) B hr d_Loom_poke_33 (Nat.le_of_ble_eq_true rfl) (Nat.le_of_ble_eq_true rfl) (Or.inl ⟨rfl, hC9.fm f30.fm, GF.fm f30.fm, GPr.fm f30.fm, hye, f30, tn, n, etn, ein, htn, hin, v30⟩)
  · skip
    have hnp := (y9.resolve_right (fun z => by rw [h12] at z; exact absurd z.1 (by decide))).2
    exact mv_throw0 (pc := 15) (ik := 131) (ic := 133) B hlt hNs.2.1 (X := "java/util/NoSuchElementException") (by decide +kernel) (B.2.2.2.1 _ k_1751) (B.2.2.2.1 _ k_36) (B.2.2.2.1 _ k_1752) rfl (fun s9 hv9 a9 b9 c9 d9 => have hm9 := mt_ma B.2.2.2.1 hv9; mt_w_nse hm9 (hm9 _ k_1760) a9 b9 c9 d9) d_Loom_poke_15 d_Loom_poke_18 d_Loom_poke_19 d_Loom_poke_22 (mv_noH hno _) ⟨by decide, by decide⟩ ⟨by decide, by decide⟩ ⟨by decide, by decide⟩ (fun a9 => Or.inr ⟨_, a9, rfl, rfl, rfl, hnp⟩)
set_option maxHeartbeats 4000000 in
set_option maxRecDepth 100000 in
theorem c_kq_Loom_poke_b (l : Launch) {dA : FieldType → ClassId} {D : va_G} {al : Nat → Nat} {ext : mv_Sh} {sk sv : Nat → Nat} (hi : mv_inj (mg dA D al ext)) (σ : mv_H) (hlt : l.stackTraces = false) (t9 i9 : Int32) (w9 : Int64) (k9 : Nat) (hC : LC ext σ 48 32768 512 k9) (r9 : SI × LZ × List DnS) (R9 : Nat → Nat → Int64) (hK : KOx 48 r9 σ) (hS : SPq 48 r9.1 σ) (hV : VLr r9 σ R9) : mv_C l y_Loom_poke (Cond.code y_Loom_poke b_Loom_poke 5 (Option.none : Option Jvm.ClassFile.FieldType) :: ma) ({ frames := 6, cells := 1, slots := 6, locals := 81 }) (mg dA D al ext) (mKt sk sv) [.ref (al 0), .int t9, .int i9, .long w9] σ (mv_Tv (fun σ1 => LC ext σ1 48 32768 512 k9 ∧ GF σ σ1 ∧ GPr σ σ1 ∧ HSq (mv_i σ 48 1) (mv_a σ 50 t9.toNatClampNeg) t9 i9 ∧ F6v σ σ1 ∧ ∃ tn n, t9 = nI tn ∧ i9 = nI n ∧ tn < r9.1.tl.length ∧ n < ncT (r9.1.tl.getD tn (0, 0, false)) ∧ VLr r9 σ1 (wrT (eW r9 0) tn n w9 R9)) (fun X σ1 => X = "java/util/NoSuchElementException" ∧ σ1 = σ ∧ ¬ HSq (mv_i σ 48 1) (mv_a σ 50 t9.toNatClampNeg) t9 i9)) := by
  refine mv_C.ofV (cc := b_Loom_poke) (nL := 5) (ret := (Option.none : Option Jvm.ClassFile.FieldType)) (by decide +kernel) rfl hi (Nat.le_of_ble_eq_true rfl) ?_
  intro p e s m below meth c B hNs hr hnm hno
  have hC9 := hC
  obtain ⟨hPP, hI, hR, hW, ⟨th, sl, hO9, ho0, ho1, ho2⟩, hLS⟩ := hC
  have hT9 := hO9.1
  obtain ⟨hT1, hT2, hT3, hT4, hT5, hT6, hT7, hT8⟩ := hO9.1
  refine mv_aload_n (pc := 0) B d_Loom_poke_0 rfl 0 rfl ?_
  refine mv_getR (pc := 1) (ci := 0) (C := R_Loom) (T := F_Loom) (N := 10) B 9 rfl rfl (by decide) i_Loom (B.2.2.2.1 _ k_495) rfl (hR.1 _ 9 _ rfl) d_Loom_poke_1 ?_
  refine mv_getR (pc := 4) (ci := 9) (C := R_Machine) (T := F_Machine) (N := 13) B 0 rfl rfl (by decide) i_Machine (B.2.2.2.1 _ k_441) rfl hR.2.2 d_Loom_poke_4 ?_
  refine mv_iload_n (pc := 7) B d_Loom_poke_7 rfl 1 rfl ?_
  refine mv_iload_n (pc := 8) B d_Loom_poke_8 rfl 2 rfl ?_
  refine mv_callVi (pc := 9) (n := 2) (ci := 7) (C := R_Program) B (mK_ok sk sv) hNs.1 rfl rfl (mv_C.twoi (c_Program_has_b l hi _ _ _ hR.2.1 (by omega)) (c_kh_Program_has_b l hi _ _ _ hR.2.1 (by omega))) rfl (ma_goodc kc_Program_has) (B.2.2.2.1 _ k_1774) (B.2.2.2.1 _ k_1775) (B.2.2.2.1 _ k_1776) (B.2.2.2.1 _ k_8) ⟨by decide +kernel, by decide +kernel, by decide +kernel⟩ rfl d_Loom_poke_9 rfl (Nat.le_of_ble_eq_true rfl) ⟨by decide, by decide⟩ ⟨by decide, by decide⟩ ⟨by decide, by decide⟩ (mv_noH hno _) (fun v9 σ9 h9 => ?_)
  obtain ⟨⟨e9, z9⟩, υ9, ⟨-, y9⟩, -⟩ := h9
  have e9 := e9.symm
  subst e9
  refine mv_if_ne (pc := 12) (tgt := 23) B d_Loom_poke_12 rfl (fun h12 => ?_) (fun h12 => ?_)
  · skip
    have hye := (y9.resolve_left (fun z => h12 z.1)).2
    obtain ⟨tn, n, etn, ein, htn, hin⟩ := hs_n hS hye
    obtain ⟨t30, e30, v30, f30⟩ := put_V (P := 48) hK hS hV htn hin w9
    rw [← etn, ← ein] at e30
    refine mv_aload_n (pc := 23) B d_Loom_poke_23 rfl 0 rfl ?_
    refine mv_getR (pc := 24) (ci := 0) (C := R_Loom) (T := F_Loom) (N := 10) B 9 rfl rfl (by decide) i_Loom (B.2.2.2.1 _ k_495) rfl (hR.1 _ 9 _ rfl) d_Loom_poke_24 ?_
    refine mv_iload_n (pc := 27) B d_Loom_poke_27 rfl 1 rfl ?_
    refine mv_iload_n (pc := 28) B d_Loom_poke_28 rfl 2 rfl ?_
    refine mv_lload_n (pc := 29) B d_Loom_poke_29 rfl 3 rfl ?_
    refine mv_callVv (pc := 30) (n := 3) (ci := 9) (C := R_Machine) B (mK_ok sk sv) hNs.1 rfl rfl (ch_Machine_put_b l hi _ hR _ _ _ e30) rfl (ma_goodc kc_Machine_put) (B.2.2.2.1 _ k_1778) (B.2.2.2.1 _ k_1601) (B.2.2.2.1 _ k_1602) (B.2.2.2.1 _ k_11) ⟨by decide +kernel, by decide +kernel, by decide +kernel⟩ rfl d_Loom_poke_30 rfl (Nat.le_of_ble_eq_true rfl) ⟨by decide, by decide⟩ ⟨by decide, by decide⟩ ⟨by decide, by decide⟩ (mv_noH hno _) (fun σ30 h30 => ?_)
    obtain ⟨x30, -⟩ := h30
    subst x30
    exact mv_vret (pc := 33) B hr d_Loom_poke_33 (Nat.le_of_ble_eq_true rfl) (Nat.le_of_ble_eq_true rfl) (Or.inl ⟨rfl, hC9.fm f30.fm, GF.fm f30.fm, GPr.fm f30.fm, hye, f30, tn, n, etn, ein, htn, hin, v30⟩)
  · skip
    have hnp := (y9.resolve_right (fun z => by rw [h12] at z; exact absurd z.1 (by decide))).2
    exact mv_throw0 (pc := 15) (ik := 131) (ic := 133) B hlt hNs.2.1 (X := "java/util/NoSuchElementException") (by decide +kernel) (B.2.2.2.1 _ k_1751) (B.2.2.2.1 _ k_36) (B.2.2.2.1 _ k_1752) rfl (fun s9 hv9 a9 b9 c9 d9 => have hm9 := mt_ma B.2.2.2.1 hv9; mt_w_nse hm9 (hm9 _ k_1760) a9 b9 c9 d9) d_Loom_poke_15 d_Loom_poke_18 d_Loom_poke_19 d_Loom_poke_22 (mv_noH hno _) ⟨by decide, by decide⟩ ⟨by decide, by decide⟩ ⟨by decide, by decide⟩ (fun a9 => Or.inr ⟨_, a9, rfl, rfl, rfl, hnp⟩)
set_option maxHeartbeats 4000000 in
set_option maxRecDepth 100000 in
theorem c_kq_Loom_poke_c (l : Launch) {dA : FieldType → ClassId} {D : va_G} {al : Nat → Nat} {sk sv : Nat → Nat} (hi : mv_inj (mg dA D al me)) (σ : mv_H) (hlt : l.stackTraces = false) (t9 i9 : Int32) (w9 : Int64) (k9 : Nat) (hC : LC me σ 145 8192 48 k9) (r9 : SI × LZ × List DnS) (R9 : Nat → Nat → Int64) (hK : KOx 145 r9 σ) (hS : SPq 145 r9.1 σ) (hV : VLr r9 σ R9) : mv_C l y_Loom_poke (Cond.code y_Loom_poke b_Loom_poke 5 (Option.none : Option Jvm.ClassFile.FieldType) :: ma) ({ frames := 6, cells := 1, slots := 6, locals := 81 }) (mg dA D al me) (mKt sk sv) [.ref (al 0), .int t9, .int i9, .long w9] σ (mv_Tv (fun σ1 => LC me σ1 145 8192 48 k9 ∧ GF σ σ1 ∧ GPr σ σ1 ∧ HSq (mv_i σ 145 1) (mv_a σ 147 t9.toNatClampNeg) t9 i9 ∧ F6v σ σ1 ∧ ∃ tn n, t9 = nI tn ∧ i9 = nI n ∧ tn < r9.1.tl.length ∧ n < ncT (r9.1.tl.getD tn (0, 0, false)) ∧ VLr r9 σ1 (wrT (eW r9 0) tn n w9 R9)) (fun X σ1 => X = "java/util/NoSuchElementException" ∧ σ1 = σ ∧ ¬ HSq (mv_i σ 145 1) (mv_a σ 147 t9.toNatClampNeg) t9 i9)) := by
  refine mv_C.ofV (cc := b_Loom_poke) (nL := 5) (ret := (Option.none : Option Jvm.ClassFile.FieldType)) (by decide +kernel) rfl hi (Nat.le_of_ble_eq_true rfl) ?_
  intro p e s m below meth c B hNs hr hnm hno
  have hC9 := hC
  obtain ⟨hPP, hI, hR, hW, ⟨th, sl, hO9, ho0, ho1, ho2⟩, hLS⟩ := hC
  have hT9 := hO9.1
  obtain ⟨hT1, hT2, hT3, hT4, hT5, hT6, hT7, hT8⟩ := hO9.1
  refine mv_aload_n (pc := 0) B d_Loom_poke_0 rfl 0 rfl ?_
  refine mv_getR (pc := 1) (ci := 0) (C := R_Loom) (T := F_Loom) (N := 10) B 9 rfl rfl (by decide) i_Loom (B.2.2.2.1 _ k_495) rfl (hR.1 _ 9 _ rfl) d_Loom_poke_1 ?_
  refine mv_getR (pc := 4) (ci := 9) (C := R_Machine) (T := F_Machine) (N := 13) B 0 rfl rfl (by decide) i_Machine (B.2.2.2.1 _ k_441) rfl hR.2.2 d_Loom_poke_4 ?_
  refine mv_iload_n (pc := 7) B d_Loom_poke_7 rfl 1 rfl ?_
  refine mv_iload_n (pc := 8) B d_Loom_poke_8 rfl 2 rfl ?_
  refine mv_callVi (pc := 9) (n := 2) (ci := 7) (C := R_Program) B (mK_ok sk sv) hNs.1 rfl rfl (mv_C.twoi (c_Program_has_c l hi _ _ _ hR.2.1 (by omega)) (c_kh_Program_has_c l hi _ _ _ hR.2.1 (by omega))) rfl (ma_goodc kc_Program_has) (B.2.2.2.1 _ k_1774) (B.2.2.2.1 _ k_1775) (B.2.2.2.1 _ k_1776) (B.2.2.2.1 _ k_8) ⟨by decide +kernel, by decide +kernel, by decide +kernel⟩ rfl d_Loom_poke_9 rfl (Nat.le_of_ble_eq_true rfl) ⟨by decide, by decide⟩ ⟨by decide, by decide⟩ ⟨by decide, by decide⟩ (mv_noH hno _) (fun v9 σ9 h9 => ?_)
  obtain ⟨⟨e9, z9⟩, υ9, ⟨-, y9⟩, -⟩ := h9
  have e9 := e9.symm
  subst e9
  refine mv_if_ne (pc := 12) (tgt := 23) B d_Loom_poke_12 rfl (fun h12 => ?_) (fun h12 => ?_)
  · skip
    have hye := (y9.resolve_left (fun z => h12 z.1)).2
    obtain ⟨tn, n, etn, ein, htn, hin⟩ := hs_n hS hye
    obtain ⟨t30, e30, v30, f30⟩ := put_V (P := 145) hK hS hV htn hin w9
    rw [← etn, ← ein] at e30
    refine mv_aload_n (pc := 23) B d_Loom_poke_23 rfl 0 rfl ?_
    refine mv_getR (pc := 24) (ci := 0) (C := R_Loom) (T := F_Loom) (N := 10) B 9 rfl rfl (by decide) i_Loom (B.2.2.2.1 _ k_495) rfl (hR.1 _ 9 _ rfl) d_Loom_poke_24 ?_
    refine mv_iload_n (pc := 27) B d_Loom_poke_27 rfl 1 rfl ?_
    refine mv_iload_n (pc := 28) B d_Loom_poke_28 rfl 2 rfl ?_
    refine mv_lload_n (pc := 29) B d_Loom_poke_29 rfl 3 rfl ?_
    refine mv_callVv (pc := 30) (n := 3) (ci := 9) (C := R_Machine) B (mK_ok sk sv) hNs.1 rfl rfl (ch_Machine_put_s_c l hi _ hR _ _ _ (by rw [s_put]; exact e30)) rfl (ma_goodc kc_Machine_put) (B.2.2.2.1 _ k_1778) (B.2.2.2.1 _ k_1601) (B.2.2.2.1 _ k_1602) (B.2.2.2.1 _ k_11) ⟨by decide +kernel, by decide +kernel, by decide +kernel⟩ rfl d_Loom_poke_30 rfl (Nat.le_of_ble_eq_true rfl) ⟨by decide, by decide⟩ ⟨by decide, by decide⟩ ⟨by decide, by decide⟩ (mv_noH hno _) (fun σ30 h30 => ?_)
    obtain ⟨x30, -⟩ := h30
    subst x30
    exact mv_vret (pc := 33) B hr d_Loom_poke_33 (Nat.le_of_ble_eq_true rfl) (Nat.le_of_ble_eq_true rfl) (Or.inl ⟨rfl, hC9.fm f30.fm, GF.fm f30.fm, GPr.fm f30.fm, hye, f30, tn, n, etn, ein, htn, hin, v30⟩)
  · skip
    have hnp := (y9.resolve_right (fun z => by rw [h12] at z; exact absurd z.1 (by decide))).2
    exact mv_throw0 (pc := 15) (ik := 131) (ic := 133) B hlt hNs.2.1 (X := "java/util/NoSuchElementException") (by decide +kernel) (B.2.2.2.1 _ k_1751) (B.2.2.2.1 _ k_36) (B.2.2.2.1 _ k_1752) rfl (fun s9 hv9 a9 b9 c9 d9 => have hm9 := mt_ma B.2.2.2.1 hv9; mt_w_nse hm9 (hm9 _ k_1760) a9 b9 c9 d9) d_Loom_poke_15 d_Loom_poke_18 d_Loom_poke_19 d_Loom_poke_22 (mv_noH hno _) ⟨by decide, by decide⟩ ⟨by decide, by decide⟩ ⟨by decide, by decide⟩ (fun a9 => Or.inr ⟨_, a9, rfl, rfl, rfl, hnp⟩)
