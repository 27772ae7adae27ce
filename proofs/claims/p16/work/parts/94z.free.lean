/-! the free words, exactly -/
theorem cl_inc {j : Int32} (h0 : 0 ≤ j.toInt) (h1 : j.toInt < 2147483647) : (j + 1).toNatClampNeg = j.toNatClampNeg + 1 := by
  have w : (j + 1).toInt = j.toInt + 1 := i32_inc (by omega)
  have a := i32_cl h0
  have b := i32_cl (x := j + 1) (by omega)
  omega
theorem cl_eq {a b : Int32} (h1 : a.toInt ≤ b.toInt) (h2 : b.toInt ≤ a.toInt) : a = b := Int32.toInt_inj.mp (by omega)
/-- the class's powers of two -/
def pwr (b : Int32) : Int64 := if b < 64 then 1 <<< (b.toInt64 &&& 63) else 0
def bcI (a : Int64) : Int32 := nI (pcK 64 a.toBitVec.toNat)
theorem bc_I (h : mv_H) (a : Int64) : f_Long_bitCount h a = some (bcI a, h) := by
  have e := bc_n h (x := a.toBitVec.toNat) (by have := a.toBitVec.isLt; omega)
  rw [nJ_bv] at e
  exact e
/-- the class's free words: n ops are taken off -/
def uC (r : Nat → Int64) (L : Int32) : Nat → Int64
  | 0 => pwr L
  | n + 1 => uC r L n - pwr (L - bcI (r n))
theorem uC_s {r : Nat → Int64} {L j : Int32} {m v : Int64} (h0 : 0 ≤ j.toInt) (h1 : j.toInt < 2147483647) (hm : m = uC r L j.toNatClampNeg) (hv : v = pwr (L - bcI (r j.toNatClampNeg))) : m - v = uC r L (j + 1).toNatClampNeg := by
  rw [cl_inc h0 h1, hm, hv]
  rfl
/-- the reference's powers of two -/
def pwq (b : Int32) : Int64 := if b = 64 then 0 else 1 <<< (b.toInt64 &&& 63)
/-- places of a code that are not fixed, among the first i -/
def opN (r : Nat → Int32) (c : Nat) : Nat → Nat
  | 0 => 0
  | i + 1 => opN r c i + (if r (c + i) = 48 ∨ r (c + i) = 49 then 0 else 1)
theorem opN_b (r : Nat → Int32) (c : Nat) : ∀ i, opN r c i ≤ i := by
  intro i
  induction i with
  | zero => exact Nat.le_refl _
  | succ i ih =>
    show opN r c i + (if r (c + i) = 48 ∨ r (c + i) = 49 then 0 else 1) ≤ i + 1
    split <;> omega
def uR (r10 r13 : Nat → Int32) (L : Int32) : Nat → Int64
  | 0 => pwq L
  | n + 1 => uR r10 r13 L n - pwq (nI (opN r13 (r10 n).toNatClampNeg L.toNatClampNeg))
theorem op_k {r : Nat → Int32} {c y i n : Int32} (fy : y.toInt = c.toInt + i.toInt) (hc : 0 ≤ c.toInt) (h0 : 0 ≤ i.toInt) (h1 : i.toInt < 2147483647) (h : r y.toNatClampNeg = 48 ∨ r y.toNatClampNeg = 49) (hn : n = nI (opN r c.toNatClampNeg i.toNatClampNeg)) : n = nI (opN r c.toNatClampNeg (i + 1).toNatClampNeg) := by
  have a := i32_cl hc
  have b := i32_cl h0
  have d := i32_cl (x := y) (by omega)
  rw [show y.toNatClampNeg = c.toNatClampNeg + i.toNatClampNeg by omega] at h
  rw [cl_inc h0 h1, hn]
  show _ = nI (opN r c.toNatClampNeg i.toNatClampNeg + (if r (c.toNatClampNeg + i.toNatClampNeg) = 48 ∨ r (c.toNatClampNeg + i.toNatClampNeg) = 49 then 0 else 1))
  rw [if_pos h]
  rfl
theorem op_c {r : Nat → Int32} {c y z i n : Int32} (fy : y.toInt = c.toInt + i.toInt) (fz : z.toInt = c.toInt + i.toInt) (hc : 0 ≤ c.toInt) (h0 : 0 ≤ i.toInt) (h1 : i.toInt < 2147483647) (h : ¬ r y.toNatClampNeg = 48) (g : ¬ r z.toNatClampNeg = 49) (hn : n = nI (opN r c.toNatClampNeg i.toNatClampNeg)) : n + 1 = nI (opN r c.toNatClampNeg (i + 1).toNatClampNeg) := by
  have a := i32_cl hc
  have b := i32_cl h0
  have d := i32_cl (x := y) (by omega)
  have d2 := i32_cl (x := z) (by omega)
  rw [show y.toNatClampNeg = c.toNatClampNeg + i.toNatClampNeg by omega] at h
  rw [show z.toNatClampNeg = c.toNatClampNeg + i.toNatClampNeg by omega] at g
  have e := opN_b r c.toNatClampNeg i.toNatClampNeg
  rw [cl_inc h0 h1, hn, nI1 (by omega)]
  show _ = nI (opN r c.toNatClampNeg i.toNatClampNeg + (if r (c.toNatClampNeg + i.toNatClampNeg) = 48 ∨ r (c.toNatClampNeg + i.toNatClampNeg) = 49 then 0 else 1))
  rw [if_neg (fun q => q.elim h g)]
theorem uR_z {r10 r13 : Nat → Int32} {L o n : Int32} {s : Int64} (h0 : 0 ≤ o.toInt) (h1 : o.toInt < 2147483647) (hs : s = uR r10 r13 L o.toNatClampNeg) (hn : n = nI (opN r13 (r10 o.toNatClampNeg).toNatClampNeg L.toNatClampNeg)) (h : n = 64) : s - 0 = uR r10 r13 L (o + 1).toNatClampNeg := by
  rw [cl_inc h0 h1, hs]
  show _ = uR r10 r13 L o.toNatClampNeg - pwq (nI (opN r13 (r10 o.toNatClampNeg).toNatClampNeg L.toNatClampNeg))
  rw [← hn]
  unfold pwq
  rw [if_pos h]
theorem uR_s {r10 r13 : Nat → Int32} {L o n : Int32} {s : Int64} (h0 : 0 ≤ o.toInt) (h1 : o.toInt < 2147483647) (hs : s = uR r10 r13 L o.toNatClampNeg) (hn : n = nI (opN r13 (r10 o.toNatClampNeg).toNatClampNeg L.toNatClampNeg)) (h : ¬ n = 64) : s - 1 <<< (n.toInt64 &&& 63) = uR r10 r13 L (o + 1).toNatClampNeg := by
  rw [cl_inc h0 h1, hs]
  show _ = uR r10 r13 L o.toNatClampNeg - pwq (nI (opN r13 (r10 o.toNatClampNeg).toNatClampNeg L.toNatClampNeg))
  rw [← hn]
  unfold pwq
  rw [if_neg h]
/-- the shipped machine's ops: the bits that are open -/
def shO (o : Int32) : Int32 := if 3 ≤ o then (if o = 37 then 22 else if o = 38 then 0 else if o = 39 then 0 else if 24 ≤ o then 15 else 22) else 25
def shT : Nat → Int64
  | 0 => 0
  | n + 1 => shT n + 1 <<< ((shO (nI n)).toInt64 &&& 63)
theorem shT_s {o v : Int32} {u : Int64} (h0 : 0 ≤ o.toInt) (h1 : o.toInt < 2147483647) (hu : u = shT o.toNatClampNeg) (hv : v = shO o) : u + 1 <<< (v.toInt64 &&& 63) = shT (o + 1).toNatClampNeg := by
  rw [cl_inc h0 h1, hu, hv]
  show _ = shT o.toNatClampNeg + 1 <<< ((shO (nI o.toNatClampNeg)).toInt64 &&& 63)
  rw [← nI_o2 (i32_cl h0).symm]

set_option maxHeartbeats 4000000 in
set_option maxRecDepth 100000 in
theorem c_ku_Program_power (l : Launch) {dA : FieldType → ClassId} {D : va_G} {al : Nat → Nat} {ext : mv_Sh} {sk sv : Nat → Nat} (hi : mv_inj (mg dA D al ext)) (σ : mv_H) (w : Int32) : mv_C l y_Program_power (Cond.code y_Program_power b_Program_power 1 (Option.some Jvm.ClassFile.FieldType.long) :: ma) ({ frames := 0, cells := 0, slots := 0, locals := 0 }) (mg dA D al ext) (mK sk sv) [.int w] σ (mv_Rl (fun v σ1 => σ1 = σ ∧ v = pwr w)) := by
  refine mv_C.ofV (cc := b_Program_power) (nL := 1) (ret := (Option.some Jvm.ClassFile.FieldType.long)) (by decide +kernel) rfl hi (Nat.le_of_ble_eq_true rfl) ?_
  intro p e s m below meth c B hNs hr hnm hno
  refine mv_iload_n (pc := 0) B d_Program_power_0 rfl 0 rfl ?_
  refine mv_bipush (pc := 1) (v := 64) B d_Program_power_1 (by decide) ?_
  refine mv_icmp_lt (pc := 3) (tgt := 10) B d_Program_power_3 rfl (fun h3 => ?_) (fun h3 => ?_)
  · skip
    refine mv_lconst (pc := 10) (v := 1) B d_Program_power_10 (by decide) ?_
    refine mv_iload_n (pc := 11) B d_Program_power_11 rfl 0 rfl ?_
    refine mv_lshl (pc := 12) B d_Program_power_12 ?_
    exact mv_lret (pc := 13) B hr d_Program_power_13 (Nat.le_refl _) (Nat.le_refl _) ⟨_, rfl, rfl, by first | exact (if_pos h3).symm | exact (if_neg h3).symm⟩
  · skip
    refine mv_lconst (pc := 6) (v := 0) B d_Program_power_6 (by decide) ?_
    refine mv_goto (pc := 7) (tgt := 13) B d_Program_power_7 rfl ?_
    exact mv_lret (pc := 13) B hr d_Program_power_13 (Nat.le_refl _) (Nat.le_refl _) ⟨_, rfl, rfl, by first | exact (if_pos h3).symm | exact (if_neg h3).symm⟩
set_option maxHeartbeats 4000000 in
set_option maxRecDepth 100000 in
theorem c_ku_Program_unused_a (l : Launch) {dA : FieldType → ClassId} {D : va_G} {al : Nat → Nat} {ext : mv_Sh} {sk sv : Nat → Nat} (hi : mv_inj (mg dA D al ext)) (σ : mv_H) (hq : Ph 32 (mv_r σ)) (g0 : 0 ≤ (mv_i σ 32 10).toInt) (g3 : (mv_i σ 32 10).toInt ≤ 512) : mv_C l y_Program_unused (Cond.code y_Program_unused b_Program_unused 4 (Option.some Jvm.ClassFile.FieldType.long) :: ma) ({ frames := 1, cells := 0, slots := 0, locals := 21 }) (mg dA D al ext) (mK sk sv) [.ref (al 32)] σ (mv_Rl (fun v σ1 => σ1 = σ ∧ v = uC (mv_b σ 37) (mv_i σ 32 0) (mv_i σ 32 10).toNatClampNeg)) := by
  refine mv_C.ofV (cc := b_Program_unused) (nL := 4) (ret := (Option.some Jvm.ClassFile.FieldType.long)) (by decide +kernel) rfl hi (Nat.le_of_ble_eq_true rfl) ?_
  intro p e s m below meth c B hNs hr hnm hno
  have lp : ∀ (nn : Nat) (j : Int32) (m9 : Int64) (q0 : 0 ≤ j.toInt) (q1 : j.toInt ≤ (mv_i σ 32 10).toInt) (hw : m9 = uC (mv_b σ 37) (mv_i σ 32 0) j.toNatClampNeg), (512 - j.toInt).toNat < nn → mv_V p l e ({ frames := 1, cells := 0, slots := 0, locals := 21 }) s m ([.ref (al 32)] : List Value).toArray below meth c (mg dA D al ext) 4 0 0 (mv_Q (mg dA D al ext) below s 0 0 (mv_Rl (fun v σ1 => σ1 = σ ∧ v = uC (mv_b σ 37) (mv_i σ 32 0) (mv_i σ 32 10).toNatClampNeg))) σ 10 [(3, .int j), (1, .long m9), (0, .ref (al 32))] [] := by
    intro nn
    induction nn with
    | zero => intro j m9 q0 q1 hw hm; exact absurd hm (Nat.not_lt_zero _)
    | succ nn ih =>
      intro j m9 q0 q1 hw hm
      refine mv_iload_n (pc := 10) B d_Program_unused_10 rfl 0 rfl ?_
      refine mv_aload_n (pc := 11) B d_Program_unused_11 rfl 2 rfl ?_
      refine mv_getI (pc := 12) (ci := 7) (C := R_Program) (T := F_Program) (N := 19) B 10 rfl rfl (by decide) i_Program (B.2.2.2.1 _ k_345) rfl d_Program_unused_12 ?_
      refine mv_icmp_ge (pc := 15) (tgt := 44) B d_Program_unused_15 rfl (fun h15 => ?_) (fun h15 => ?_)
      · skip
        rw [Int32.le_iff_toInt_le] at h15
        refine mv_lload_n (pc := 44) B d_Program_unused_44 rfl 1 rfl ?_
        exact mv_lret (pc := 45) B hr d_Program_unused_45 (Nat.le_refl _) (Nat.le_refl _) ⟨_, rfl, rfl, by rw [← cl_eq q1 h15]; exact hw⟩
      · skip
        rw [Int32.le_iff_toInt_le] at h15
        have w2 : (j + 1).toInt = j.toInt + 1 := i32_inc (by omega)
        refine mv_lload_n (pc := 18) B d_Program_unused_18 rfl 1 rfl ?_
        refine mv_aload_n (pc := 19) B d_Program_unused_19 rfl 2 rfl ?_
        refine mv_getI (pc := 20) (ci := 7) (C := R_Program) (T := F_Program) (N := 19) B 0 rfl rfl (by decide) i_Program (B.2.2.2.1 _ k_311) rfl d_Program_unused_20 ?_
        refine mv_aload_n (pc := 23) B d_Program_unused_23 rfl 2 rfl ?_
        refine mv_getR (pc := 24) (ci := 7) (C := R_Program) (T := F_Program) (N := 19) B 11 rfl rfl (by decide) i_Program (B.2.2.2.1 _ k_348) rfl (hq _ 11 37 rfl) d_Program_unused_24 ?_
        refine mv_iload_n (pc := 27) B d_Program_unused_27 rfl 0 rfl ?_
        refine mv_lald (pc := 28) B rfl (i32_in (by omega) (by omega)) d_Program_unused_28 ?_
        refine mv_callSi (pc := 29) (n := 1) B (mK_ok sk sv) hNs (ch_Long_bitCount l hi _ _ (bc_I _ _)) rfl (ma_goodc kc_Long_bitCount) (B.2.2.2.1 _ k_1658) (B.2.2.2.1 _ k_424) (B.2.2.2.1 _ k_10) ⟨by decide +kernel, by decide +kernel, by decide +kernel⟩ rfl d_Program_unused_29 rfl (Nat.le_of_ble_eq_true rfl) ⟨by decide, by decide⟩ ⟨by decide, by decide⟩ ⟨by decide, by decide⟩ (mv_noH hno _) (fun v29 σ29 h29 => ?_)
        obtain ⟨z29, e29, -⟩ := h29
        subst e29
        subst z29
        refine mv_isub (pc := 32) B d_Program_unused_32 ?_
        refine mv_callSl (pc := 33) (n := 1) B (mK_ok sk sv) hNs (c_ku_Program_power l hi _ _) rfl (ma_goodc kc_Program_power) (B.2.2.2.1 _ k_1655) (B.2.2.2.1 _ k_1656) (B.2.2.2.1 _ k_8) ⟨by decide +kernel, by decide +kernel, by decide +kernel⟩ rfl d_Program_unused_33 rfl (Nat.le_of_ble_eq_true rfl) ⟨by decide, by decide⟩ ⟨by decide, by decide⟩ ⟨by decide, by decide⟩ (mv_noH hno _) (fun v33 σ33 h33 => ?_)
        obtain ⟨e33, z33⟩ := h33
        have e33 := e33.symm
        subst e33
        refine mv_lsub (pc := 36) B d_Program_unused_36 ?_
        refine mv_lstore_n (pc := 37) B d_Program_unused_37 rfl (by decide) rfl ?_
        refine mv_iinc (pc := 38) (j := 1) (v := 1) B d_Program_unused_38 rfl (by decide) (by decide) rfl ?_
        refine mv_goto (pc := 41) (tgt := 10) B d_Program_unused_41 rfl ?_
        refine mv_lpick [0, 1, 2] rfl ?_
        exact ih _ _ (by omega) (by omega) (uC_s q0 (by omega) hw z33) (by omega)
  refine mv_aload_n (pc := 0) B d_Program_unused_0 rfl 0 rfl ?_
  refine mv_getI (pc := 1) (ci := 7) (C := R_Program) (T := F_Program) (N := 19) B 0 rfl rfl (by decide) i_Program (B.2.2.2.1 _ k_311) rfl d_Program_unused_1 ?_
  refine mv_callSl (pc := 4) (n := 1) B (mK_ok sk sv) hNs (c_ku_Program_power l hi _ _) rfl (ma_goodc kc_Program_power) (B.2.2.2.1 _ k_1655) (B.2.2.2.1 _ k_1656) (B.2.2.2.1 _ k_8) ⟨by decide +kernel, by decide +kernel, by decide +kernel⟩ rfl d_Program_unused_4 rfl (Nat.le_of_ble_eq_true rfl) ⟨by decide, by decide⟩ ⟨by decide, by decide⟩ ⟨by decide, by decide⟩ (mv_noH hno _) (fun v4 σ4 h4 => ?_)
  obtain ⟨e4, z4⟩ := h4
  have e4 := e4.symm
  subst e4
  refine mv_lstore_n (pc := 7) B d_Program_unused_7 rfl (by decide) rfl ?_
  refine mv_iconst (pc := 8) (v := 0) B d_Program_unused_8 (by decide) ?_
  refine mv_istore_n (pc := 9) B d_Program_unused_9 rfl (by decide) rfl ?_
  refine mv_lpick [0, 1, 2] rfl ?_
  exact lp _ _ _ (by decide) g0 z4 (Nat.lt_succ_self _)
set_option maxHeartbeats 4000000 in
set_option maxRecDepth 100000 in
theorem c_ku_Program_unused_b (l : Launch) {dA : FieldType → ClassId} {D : va_G} {al : Nat → Nat} {ext : mv_Sh} {sk sv : Nat → Nat} (hi : mv_inj (mg dA D al ext)) (σ : mv_H) (hq : Ph 48 (mv_r σ)) (g0 : 0 ≤ (mv_i σ 48 10).toInt) (g3 : (mv_i σ 48 10).toInt ≤ 512) : mv_C l y_Program_unused (Cond.code y_Program_unused b_Program_unused 4 (Option.some Jvm.ClassFile.FieldType.long) :: ma) ({ frames := 1, cells := 0, slots := 0, locals := 21 }) (mg dA D al ext) (mK sk sv) [.ref (al 48)] σ (mv_Rl (fun v σ1 => σ1 = σ ∧ v = uC (mv_b σ 53) (mv_i σ 48 0) (mv_i σ 48 10).toNatClampNeg)) := by
  refine mv_C.ofV (cc := b_Program_unused) (nL := 4) (ret := (Option.some Jvm.ClassFile.FieldType.long)) (by decide +kernel) rfl hi (Nat.le_of_ble_eq_true rfl) ?_
  intro p e s m below meth c B hNs hr hnm hno
  have lp : ∀ (nn : Nat) (j : Int32) (m9 : Int64) (q0 : 0 ≤ j.toInt) (q1 : j.toInt ≤ (mv_i σ 48 10).toInt) (hw : m9 = uC (mv_b σ 53) (mv_i σ 48 0) j.toNatClampNeg), (512 - j.toInt).toNat < nn → mv_V p l e ({ frames := 1, cells := 0, slots := 0, locals := 21 }) s m ([.ref (al 48)] : List Value).toArray below meth c (mg dA D al ext) 4 0 0 (mv_Q (mg dA D al ext) below s 0 0 (mv_Rl (fun v σ1 => σ1 = σ ∧ v = uC (mv_b σ 53) (mv_i σ 48 0) (mv_i σ 48 10).toNatClampNeg))) σ 10 [(3, .int j), (1, .long m9), (0, .ref (al 48))] [] := by
    intro nn
    induction nn with
    | zero => intro j m9 q0 q1 hw hm; exact absurd hm (Nat.not_lt_zero _)
    | succ nn ih =>
      intro j m9 q0 q1 hw hm
      refine mv_iload_n (pc := 10) B d_Program_unused_10 rfl 0 rfl ?_
      refine mv_aload_n (pc := 11) B d_Program_unused_11 rfl 2 rfl ?_
      refine mv_getI (pc := 12) (ci := 7) (C := R_Program) (T := F_Program) (N := 19) B 10 rfl rfl (by decide) i_Program (B.2.2.2.1 _ k_345) rfl d_Program_unused_12 ?_
      refine mv_icmp_ge (pc := 15) (tgt := 44) B d_Program_unused_15 rfl (fun h15 => ?_) (fun h15 => ?_)
      · skip
        rw [Int32.le_iff_toInt_le] at h15
        refine mv_lload_n (pc := 44) B d_Program_unused_44 rfl 1 rfl ?_
        exact mv_lret (pc := 45) B hr d_Program_unused_45 (Nat.le_refl _) (Nat.le_refl _) ⟨_, rfl, rfl, by rw [← cl_eq q1 h15]; exact hw⟩
      · skip
        rw [Int32.le_iff_toInt_le] at h15
        have w2 : (j + 1).toInt = j.toInt + 1 := i32_inc (by omega)
        refine mv_lload_n (pc := 18) B d_Program_unused_18 rfl 1 rfl ?_
        refine mv_aload_n (pc := 19) B d_Program_unused_19 rfl 2 rfl ?_
        refine mv_getI (pc := 20) (ci := 7) (C := R_Program) (T := F_Program) (N := 19) B 0 rfl rfl (by decide) i_Program (B.2.2.2.1 _ k_311) rfl d_Program_unused_20 ?_
        refine mv_aload_n (pc := 23) B d_Program_unused_23 rfl 2 rfl ?_
        refine mv_getR (pc := 24) (ci := 7) (C := R_Program) (T := F_Program) (N := 19) B 11 rfl rfl (by decide) i_Program (B.2.2.2.1 _ k_348) rfl (hq _ 11 53 rfl) d_Program_unused_24 ?_
        refine mv_iload_n (pc := 27) B d_Program_unused_27 rfl 0 rfl ?_
        refine mv_lald (pc := 28) B rfl (i32_in (by omega) (by omega)) d_Program_unused_28 ?_
        refine mv_callSi (pc := 29) (n := 1) B (mK_ok sk sv) hNs (ch_Long_bitCount l hi _ _ (bc_I _ _)) rfl (ma_goodc kc_Long_bitCount) (B.2.2.2.1 _ k_1658) (B.2.2.2.1 _ k_424) (B.2.2.2.1 _ k_10) ⟨by decide +kernel, by decide +kernel, by decide +kernel⟩ rfl d_Program_unused_29 rfl (Nat.le_of_ble_eq_true rfl) ⟨by decide, by decide⟩ ⟨by decide, by decide⟩ ⟨by decide, by decide⟩ (mv_noH hno _) (fun v29 σ29 h29 => ?_)
        obtain ⟨z29, e29, -⟩ := h29
        subst e29
        subst z29
        refine mv_isub (pc := 32) B d_Program_unused_32 ?_
        refine mv_callSl (pc := 33) (n := 1) B (mK_ok sk sv) hNs (c_ku_Program_power l hi _ _) rfl (ma_goodc kc_Program_power) (B.2.2.2.1 _ k_1655) (B.2.2.2.1 _ k_1656) (B.2.2.2.1 _ k_8) ⟨by decide +kernel, by decide +kernel, by decide +kernel⟩ rfl d_Program_unused_33 rfl (Nat.le_of_ble_eq_true rfl) ⟨by decide, by decide⟩ ⟨by decide, by decide⟩ ⟨by decide, by decide⟩ (mv_noH hno _) (fun v33 σ33 h33 => ?_)
        obtain ⟨e33, z33⟩ := h33
        have e33 := e33.symm
        subst e33
        refine mv_lsub (pc := 36) B d_Program_unused_36 ?_
        refine mv_lstore_n (pc := 37) B d_Program_unused_37 rfl (by decide) rfl ?_
        refine mv_iinc (pc := 38) (j := 1) (v := 1) B d_Program_unused_38 rfl (by decide) (by decide) rfl ?_
        refine mv_goto (pc := 41) (tgt := 10) B d_Program_unused_41 rfl ?_
        refine mv_lpick [0, 1, 2] rfl ?_
        exact ih _ _ (by omega) (by omega) (uC_s q0 (by omega) hw z33) (by omega)
  refine mv_aload_n (pc := 0) B d_Program_unused_0 rfl 0 rfl ?_
  refine mv_getI (pc := 1) (ci := 7) (C := R_Program) (T := F_Program) (N := 19) B 0 rfl rfl (by decide) i_Program (B.2.2.2.1 _ k_311) rfl d_Program_unused_1 ?_
  refine mv_callSl (pc := 4) (n := 1) B (mK_ok sk sv) hNs (c_ku_Program_power l hi _ _) rfl (ma_goodc kc_Program_power) (B.2.2.2.1 _ k_1655) (B.2.2.2.1 _ k_1656) (B.2.2.2.1 _ k_8) ⟨by decide +kernel, by decide +kernel, by decide +kernel⟩ rfl d_Program_unused_4 rfl (Nat.le_of_ble_eq_true rfl) ⟨by decide, by decide⟩ ⟨by decide, by decide⟩ ⟨by decide, by decide⟩ (mv_noH hno _) (fun v4 σ4 h4 => ?_)
  obtain ⟨e4, z4⟩ := h4
  have e4 := e4.symm
  subst e4
  refine mv_lstore_n (pc := 7) B d_Program_unused_7 rfl (by decide) rfl ?_
  refine mv_iconst (pc := 8) (v := 0) B d_Program_unused_8 (by decide) ?_
  refine mv_istore_n (pc := 9) B d_Program_unused_9 rfl (by decide) rfl ?_
  refine mv_lpick [0, 1, 2] rfl ?_
  exact lp _ _ _ (by decide) g0 z4 (Nat.lt_succ_self _)
set_option maxHeartbeats 4000000 in
set_option maxRecDepth 100000 in
theorem c_ku_Program_unused_c (l : Launch) {dA : FieldType → ClassId} {D : va_G} {al : Nat → Nat} {sk sv : Nat → Nat} (hi : mv_inj (mg dA D al me)) (σ : mv_H) (hq : Ph 145 (mv_r σ)) (g0 : 0 ≤ (mv_i σ 145 10).toInt) (g3 : (mv_i σ 145 10).toInt ≤ 48) : mv_C l y_Program_unused (Cond.code y_Program_unused b_Program_unused 4 (Option.some Jvm.ClassFile.FieldType.long) :: ma) ({ frames := 1, cells := 0, slots := 0, locals := 21 }) (mg dA D al me) (mK sk sv) [.ref (al 145)] σ (mv_Rl (fun v σ1 => σ1 = σ ∧ v = uC (mv_b σ 150) (mv_i σ 145 0) (mv_i σ 145 10).toNatClampNeg)) := by
  refine mv_C.ofV (cc := b_Program_unused) (nL := 4) (ret := (Option.some Jvm.ClassFile.FieldType.long)) (by decide +kernel) rfl hi (Nat.le_of_ble_eq_true rfl) ?_
  intro p e s m below meth c B hNs hr hnm hno
  have lp : ∀ (nn : Nat) (j : Int32) (m9 : Int64) (q0 : 0 ≤ j.toInt) (q1 : j.toInt ≤ (mv_i σ 145 10).toInt) (hw : m9 = uC (mv_b σ 150) (mv_i σ 145 0) j.toNatClampNeg), (48 - j.toInt).toNat < nn → mv_V p l e ({ frames := 1, cells := 0, slots := 0, locals := 21 }) s m ([.ref (al 145)] : List Value).toArray below meth c (mg dA D al me) 4 0 0 (mv_Q (mg dA D al me) below s 0 0 (mv_Rl (fun v σ1 => σ1 = σ ∧ v = uC (mv_b σ 150) (mv_i σ 145 0) (mv_i σ 145 10).toNatClampNeg))) σ 10 [(3, .int j), (1, .long m9), (0, .ref (al 145))] [] := by
    intro nn
    induction nn with
    | zero => intro j m9 q0 q1 hw hm; exact absurd hm (Nat.not_lt_zero _)
    | succ nn ih =>
      intro j m9 q0 q1 hw hm
      refine mv_iload_n (pc := 10) B d_Program_unused_10 rfl 0 rfl ?_
      refine mv_aload_n (pc := 11) B d_Program_unused_11 rfl 2 rfl ?_
      refine mv_getI (pc := 12) (ci := 7) (C := R_Program) (T := F_Program) (N := 19) B 10 rfl rfl (by decide) i_Program (B.2.2.2.1 _ k_345) rfl d_Program_unused_12 ?_
      refine mv_icmp_ge (pc := 15) (tgt := 44) B d_Program_unused_15 rfl (fun h15 => ?_) (fun h15 => ?_)
      · skip
        rw [Int32.le_iff_toInt_le] at h15
        refine mv_lload_n (pc := 44) B d_Program_unused_44 rfl 1 rfl ?_
        exact mv_lret (pc := 45) B hr d_Program_unused_45 (Nat.le_refl _) (Nat.le_refl _) ⟨_, rfl, rfl, by rw [← cl_eq q1 h15]; exact hw⟩
      · skip
        rw [Int32.le_iff_toInt_le] at h15
        have w2 : (j + 1).toInt = j.toInt + 1 := i32_inc (by omega)
        refine mv_lload_n (pc := 18) B d_Program_unused_18 rfl 1 rfl ?_
        refine mv_aload_n (pc := 19) B d_Program_unused_19 rfl 2 rfl ?_
        refine mv_getI (pc := 20) (ci := 7) (C := R_Program) (T := F_Program) (N := 19) B 0 rfl rfl (by decide) i_Program (B.2.2.2.1 _ k_311) rfl d_Program_unused_20 ?_
        refine mv_aload_n (pc := 23) B d_Program_unused_23 rfl 2 rfl ?_
        refine mv_getR (pc := 24) (ci := 7) (C := R_Program) (T := F_Program) (N := 19) B 11 rfl rfl (by decide) i_Program (B.2.2.2.1 _ k_348) rfl (hq _ 11 150 rfl) d_Program_unused_24 ?_
        refine mv_iload_n (pc := 27) B d_Program_unused_27 rfl 0 rfl ?_
        refine mv_lald (pc := 28) B rfl (i32_in (by omega) (by omega)) d_Program_unused_28 ?_
        refine mv_callSi (pc := 29) (n := 1) B (mK_ok sk sv) hNs (ch_Long_bitCount l hi _ _ (bc_I _ _)) rfl (ma_goodc kc_Long_bitCount) (B.2.2.2.1 _ k_1658) (B.2.2.2.1 _ k_424) (B.2.2.2.1 _ k_10) ⟨by decide +kernel, by decide +kernel, by decide +kernel⟩ rfl d_Program_unused_29 rfl (Nat.le_of_ble_eq_true rfl) ⟨by decide, by decide⟩ ⟨by decide, by decide⟩ ⟨by decide, by decide⟩ (mv_noH hno _) (fun v29 σ29 h29 => ?_)
        obtain ⟨z29, e29, -⟩ := h29
        subst e29
        subst z29
        refine mv_isub (pc := 32) B d_Program_unused_32 ?_
        refine mv_callSl (pc := 33) (n := 1) B (mK_ok sk sv) hNs (c_ku_Program_power l hi _ _) rfl (ma_goodc kc_Program_power) (B.2.2.2.1 _ k_1655) (B.2.2.2.1 _ k_1656) (B.2.2.2.1 _ k_8) ⟨by decide +kernel, by decide +kernel, by decide +kernel⟩ rfl d_Program_unused_33 rfl (Nat.le_of_ble_eq_true rfl) ⟨by decide, by decide⟩ ⟨by decide, by decide⟩ ⟨by decide, by decide⟩ (mv_noH hno _) (fun v33 σ33 h33 => ?_)
        obtain ⟨e33, z33⟩ := h33
        have e33 := e33.symm
        subst e33
        refine mv_lsub (pc := 36) B d_Program_unused_36 ?_
        refine mv_lstore_n (pc := 37) B d_Program_unused_37 rfl (by decide) rfl ?_
        refine mv_iinc (pc := 38) (j := 1) (v := 1) B d_Program_unused_38 rfl (by decide) (by decide) rfl ?_
        refine mv_goto (pc := 41) (tgt := 10) B d_Program_unused_41 rfl ?_
        refine mv_lpick [0, 1, 2] rfl ?_
        exact ih _ _ (by omega) (by omega) (uC_s q0 (by omega) hw z33) (by omega)
  refine mv_aload_n (pc := 0) B d_Program_unused_0 rfl 0 rfl ?_
  refine mv_getI (pc := 1) (ci := 7) (C := R_Program) (T := F_Program) (N := 19) B 0 rfl rfl (by decide) i_Program (B.2.2.2.1 _ k_311) rfl d_Program_unused_1 ?_
  refine mv_callSl (pc := 4) (n := 1) B (mK_ok sk sv) hNs (c_ku_Program_power l hi _ _) rfl (ma_goodc kc_Program_power) (B.2.2.2.1 _ k_1655) (B.2.2.2.1 _ k_1656) (B.2.2.2.1 _ k_8) ⟨by decide +kernel, by decide +kernel, by decide +kernel⟩ rfl d_Program_unused_4 rfl (Nat.le_of_ble_eq_true rfl) ⟨by decide, by decide⟩ ⟨by decide, by decide⟩ ⟨by decide, by decide⟩ (mv_noH hno _) (fun v4 σ4 h4 => ?_)
  obtain ⟨e4, z4⟩ := h4
  have e4 := e4.symm
  subst e4
  refine mv_lstore_n (pc := 7) B d_Program_unused_7 rfl (by decide) rfl ?_
  refine mv_iconst (pc := 8) (v := 0) B d_Program_unused_8 (by decide) ?_
  refine mv_istore_n (pc := 9) B d_Program_unused_9 rfl (by decide) rfl ?_
  refine mv_lpick [0, 1, 2] rfl ?_
  exact lp _ _ _ (by decide) g0 z4 (Nat.lt_succ_self _)
set_option maxHeartbeats 4000000 in
set_option maxRecDepth 100000 in
theorem c_ku_Loom_free_a (l : Launch) {dA : FieldType → ClassId} {D : va_G} {al : Nat → Nat} {ext : mv_Sh} {sk sv : Nat → Nat} (hi : mv_inj (mg dA D al ext)) (σ : mv_H) (hR : Rf 32 (mv_r σ)) (g0 : 0 ≤ (mv_i σ 32 10).toInt) (g3 : (mv_i σ 32 10).toInt ≤ 512) : mv_C l y_Loom_free (Cond.code y_Loom_free b_Loom_free 1 (Option.some Jvm.ClassFile.FieldType.long) :: ma) ({ frames := 2, cells := 0, slots := 0, locals := 44 }) (mg dA D al ext) (mK sk sv) [.ref (al 0)] σ (mv_Rl (fun v σ1 => σ1 = σ ∧ v = uC (mv_b σ 37) (mv_i σ 32 0) (mv_i σ 32 10).toNatClampNeg)) := by
  refine mv_C.ofV (cc := b_Loom_free) (nL := 1) (ret := (Option.some Jvm.ClassFile.FieldType.long)) (by decide +kernel) rfl hi (Nat.le_of_ble_eq_true rfl) ?_
  intro p e s m below meth c B hNs hr hnm hno
  refine mv_aload_n (pc := 0) B d_Loom_free_0 rfl 0 rfl ?_
  refine mv_getR (pc := 1) (ci := 0) (C := R_Loom) (T := F_Loom) (N := 10) B 9 rfl rfl (by decide) i_Loom (B.2.2.2.1 _ k_495) rfl (hR.1 _ 9 _ rfl) d_Loom_free_1 ?_
  refine mv_getR (pc := 4) (ci := 9) (C := R_Machine) (T := F_Machine) (N := 13) B 0 rfl rfl (by decide) i_Machine (B.2.2.2.1 _ k_441) rfl hR.2.2 d_Loom_free_4 ?_
  refine mv_callVl (pc := 7) (n := 0) (ci := 7) (C := R_Program) B (mK_ok sk sv) hNs rfl rfl (c_ku_Program_unused_a l hi _ hR.2.1 g0 g3) rfl (ma_goodc kc_Program_unused) (B.2.2.2.1 _ k_1651) (B.2.2.2.1 _ k_1652) (B.2.2.2.1 _ k_1653) (B.2.2.2.1 _ k_8) ⟨by decide +kernel, by decide +kernel, by decide +kernel⟩ rfl d_Loom_free_7 rfl (Nat.le_of_ble_eq_true rfl) ⟨by decide, by decide⟩ ⟨by decide, by decide⟩ ⟨by decide, by decide⟩ (mv_noH hno _) (fun v7 σ7 h7 => ?_)
  exact mv_lret (pc := 10) B hr d_Loom_free_10 (Nat.le_refl _) (Nat.le_refl _) ⟨_, rfl, h7⟩
set_option maxHeartbeats 4000000 in
set_option maxRecDepth 100000 in
theorem c_ku_Loom_free_b (l : Launch) {dA : FieldType → ClassId} {D : va_G} {al : Nat → Nat} {ext : mv_Sh} {sk sv : Nat → Nat} (hi : mv_inj (mg dA D al ext)) (σ : mv_H) (hR : Rf 48 (mv_r σ)) (g0 : 0 ≤ (mv_i σ 48 10).toInt) (g3 : (mv_i σ 48 10).toInt ≤ 512) : mv_C l y_Loom_free (Cond.code y_Loom_free b_Loom_free 1 (Option.some Jvm.ClassFile.FieldType.long) :: ma) ({ frames := 2, cells := 0, slots := 0, locals := 44 }) (mg dA D al ext) (mK sk sv) [.ref (al 0)] σ (mv_Rl (fun v σ1 => σ1 = σ ∧ v = uC (mv_b σ 53) (mv_i σ 48 0) (mv_i σ 48 10).toNatClampNeg)) := by
  refine mv_C.ofV (cc := b_Loom_free) (nL := 1) (ret := (Option.some Jvm.ClassFile.FieldType.long)) (by decide +kernel) rfl hi (Nat.le_of_ble_eq_true rfl) ?_
  intro p e s m below meth c B hNs hr hnm hno
  refine mv_aload_n (pc := 0) B d_Loom_free_0 rfl 0 rfl ?_
  refine mv_getR (pc := 1) (ci := 0) (C := R_Loom) (T := F_Loom) (N := 10) B 9 rfl rfl (by decide) i_Loom (B.2.2.2.1 _ k_495) rfl (hR.1 _ 9 _ rfl) d_Loom_free_1 ?_
  refine mv_getR (pc := 4) (ci := 9) (C := R_Machine) (T := F_Machine) (N := 13) B 0 rfl rfl (by decide) i_Machine (B.2.2.2.1 _ k_441) rfl hR.2.2 d_Loom_free_4 ?_
  refine mv_callVl (pc := 7) (n := 0) (ci := 7) (C := R_Program) B (mK_ok sk sv) hNs rfl rfl (c_ku_Program_unused_b l hi _ hR.2.1 g0 g3) rfl (ma_goodc kc_Program_unused) (B.2.2.2.1 _ k_1651) (B.2.2.2.1 _ k_1652) (B.2.2.2.1 _ k_1653) (B.2.2.2.1 _ k_8) ⟨by decide +kernel, by decide +kernel, by decide +kernel⟩ rfl d_Loom_free_7 rfl (Nat.le_of_ble_eq_true rfl) ⟨by decide, by decide⟩ ⟨by decide, by decide⟩ ⟨by decide, by decide⟩ (mv_noH hno _) (fun v7 σ7 h7 => ?_)
  exact mv_lret (pc := 10) B hr d_Loom_free_10 (Nat.le_refl _) (Nat.le_refl _) ⟨_, rfl, h7⟩
set_option maxHeartbeats 4000000 in
set_option maxRecDepth 100000 in
theorem c_ku_Loom_free_c (l : Launch) {dA : FieldType → ClassId} {D : va_G} {al : Nat → Nat} {sk sv : Nat → Nat} (hi : mv_inj (mg dA D al me)) (σ : mv_H) (hR : Rf 145 (mv_r σ)) (g0 : 0 ≤ (mv_i σ 145 10).toInt) (g3 : (mv_i σ 145 10).toInt ≤ 48) : mv_C l y_Loom_free (Cond.code y_Loom_free b_Loom_free 1 (Option.some Jvm.ClassFile.FieldType.long) :: ma) ({ frames := 2, cells := 0, slots := 0, locals := 44 }) (mg dA D al me) (mK sk sv) [.ref (al 0)] σ (mv_Rl (fun v σ1 => σ1 = σ ∧ v = uC (mv_b σ 150) (mv_i σ 145 0) (mv_i σ 145 10).toNatClampNeg)) := by
  refine mv_C.ofV (cc := b_Loom_free) (nL := 1) (ret := (Option.some Jvm.ClassFile.FieldType.long)) (by decide +kernel) rfl hi (Nat.le_of_ble_eq_true rfl) ?_
  intro p e s m below meth c B hNs hr hnm hno
  refine mv_aload_n (pc := 0) B d_Loom_free_0 rfl 0 rfl ?_
  refine mv_getR (pc := 1) (ci := 0) (C := R_Loom) (T := F_Loom) (N := 10) B 9 rfl rfl (by decide) i_Loom (B.2.2.2.1 _ k_495) rfl (hR.1 _ 9 _ rfl) d_Loom_free_1 ?_
  refine mv_getR (pc := 4) (ci := 9) (C := R_Machine) (T := F_Machine) (N := 13) B 0 rfl rfl (by decide) i_Machine (B.2.2.2.1 _ k_441) rfl hR.2.2 d_Loom_free_4 ?_
  refine mv_callVl (pc := 7) (n := 0) (ci := 7) (C := R_Program) B (mK_ok sk sv) hNs rfl rfl (c_ku_Program_unused_c l hi _ hR.2.1 g0 g3) rfl (ma_goodc kc_Program_unused) (B.2.2.2.1 _ k_1651) (B.2.2.2.1 _ k_1652) (B.2.2.2.1 _ k_1653) (B.2.2.2.1 _ k_8) ⟨by decide +kernel, by decide +kernel, by decide +kernel⟩ rfl d_Loom_free_7 rfl (Nat.le_of_ble_eq_true rfl) ⟨by decide, by decide⟩ ⟨by decide, by decide⟩ ⟨by decide, by decide⟩ (mv_noH hno _) (fun v7 σ7 h7 => ?_)
  exact mv_lret (pc := 10) B hr d_Loom_free_10 (Nat.le_refl _) (Nat.le_refl _) ⟨_, rfl, h7⟩
set_option maxHeartbeats 4000000 in
set_option maxRecDepth 100000 in
theorem c_ku_Book_free_x (l : Launch) {dA : FieldType → ClassId} {D : va_G} {al : Nat → Nat} {ext : mv_Sh} {sk sv : Nat → Nat} (hi : mv_inj (mg dA D al ext)) (σ : mv_H) (k : Nat) (hmr : mh (mv_r σ)) (hC : CO 74 k σ) : mv_C l y_Book_free (Cond.code y_Book_free b_Book_free 6 (Option.some Jvm.ClassFile.FieldType.long) :: ma) ({ frames := 0, cells := 0, slots := 0, locals := 0 }) (mg dA D al ext) (mK sk sv) [.ref (al 74)] σ (mv_Rl (fun v σ1 => σ1 = σ ∧ v = uR (mv_a σ 84) (mv_a σ 87) (mv_i σ 74 20) (mv_i σ 74 29).toNatClampNeg)) := by
  refine mv_C.ofV (cc := b_Book_free) (nL := 6) (ret := (Option.some Jvm.ClassFile.FieldType.long)) (by decide +kernel) rfl hi (Nat.le_of_ble_eq_true rfl) ?_
  intro p e s m below meth c B hNs hr hnm hno
  obtain ⟨c1, c2, ⟨c3, c4⟩, c5⟩ := hC
  have lp : ∀ (nn : Nat) (o9 : Int32) (s9 : Int64) (q0 : 0 ≤ o9.toInt) (q3 : o9.toInt ≤ (mv_i σ 74 29).toInt) (hs : s9 = uR (mv_a σ 84) (mv_a σ 87) (mv_i σ 74 20) o9.toNatClampNeg), (20000 - o9.toInt).toNat < nn → mv_V p l e ({ frames := 0, cells := 0, slots := 0, locals := 0 }) s m ([.ref (al 74)] : List Value).toArray below meth c (mg dA D al ext) 6 0 0 (mv_Q (mg dA D al ext) below s 0 0 (mv_Rl (fun v σ1 => σ1 = σ ∧ v = uR (mv_a σ 84) (mv_a σ 87) (mv_i σ 74 20) (mv_i σ 74 29).toNatClampNeg))) σ 22 [(3, .int o9), (1, .long s9), (0, .ref (al 74))] [] := by
    intro nn
    induction nn with
    | zero => intro o9 s9 q0 q3 hs hm; exact absurd hm (Nat.not_lt_zero _)
    | succ nn ih =>
      intro o9 s9 q0 q3 hs hm
      refine mv_iload_n (pc := 22) B d_Book_free_22 rfl 0 rfl ?_
      refine mv_aload_n (pc := 23) B d_Book_free_23 rfl 2 rfl ?_
      refine mv_getI (pc := 24) (ci := 12) (C := R_Book) (T := F_Book) (N := 65) B 29 rfl rfl (by decide) i_Book (B.2.2.2.1 _ k_1874) rfl d_Book_free_24 ?_
      refine mv_icmp_ge (pc := 27) (tgt := 116) B d_Book_free_27 rfl (fun h27 => ?_) (fun h27 => ?_)
      · skip
        rw [Int32.le_iff_toInt_le] at h27
        refine mv_lload_n (pc := 116) B d_Book_free_116 rfl 1 rfl ?_
        exact mv_lret (pc := 117) B hr d_Book_free_117 (Nat.le_refl _) (Nat.le_refl _) ⟨_, rfl, rfl, by rw [← cl_eq q3 h27]; exact hs⟩
      · skip
        rw [Int32.le_iff_toInt_le] at h27
        have w1 : (o9 + 1).toInt = o9.toInt + 1 := i32_inc (by omega)
        have ci : 0 ≤ (mv_a σ 84 o9.toNatClampNeg).toInt ∧ (mv_a σ 84 o9.toNatClampNeg).toInt + (mv_i σ 74 20).toInt ≤ 32768 := c5 o9.toNatClampNeg (by have := i32_cl q0; omega)
        have ihO := ih
        clear ih
        have lpi : ∀ (nn : Nat) (i9 : Int32) (n9 : Int32) (q1 : 0 ≤ i9.toInt) (q2 : i9.toInt ≤ (mv_i σ 74 20).toInt) (hn : n9 = nI (opN (mv_a σ 87) (mv_a σ 84 o9.toNatClampNeg).toNatClampNeg i9.toNatClampNeg)), (20000 - i9.toInt).toNat < nn → mv_V p l e ({ frames := 0, cells := 0, slots := 0, locals := 0 }) s m ([.ref (al 74)] : List Value).toArray below meth c (mg dA D al ext) 6 0 0 (mv_Q (mg dA D al ext) below s 0 0 (mv_Rl (fun v σ1 => σ1 = σ ∧ v = uR (mv_a σ 84) (mv_a σ 87) (mv_i σ 74 20) (mv_i σ 74 29).toNatClampNeg))) σ 36 [(5, .int i9), (4, .int n9), (3, .int o9), (1, .long s9), (0, .ref (al 74))] [] := by
          intro nn
          induction nn with
          | zero => intro i9 n9 q1 q2 hn hm; exact absurd hm (Nat.not_lt_zero _)
          | succ nn ih =>
            intro i9 n9 q1 q2 hn hm
            refine mv_iload (pc := 36) B d_Book_free_36 0 rfl ?_
            refine mv_aload_n (pc := 38) B d_Book_free_38 rfl 4 rfl ?_
            refine mv_getI (pc := 39) (ci := 12) (C := R_Book) (T := F_Book) (N := 65) B 20 rfl rfl (by decide) i_Book (B.2.2.2.1 _ k_1865) rfl d_Book_free_39 ?_
            refine mv_icmp_ge (pc := 42) (tgt := 92) B d_Book_free_42 rfl (fun h42 => ?_) (fun h42 => ?_)
            · skip
              rw [Int32.le_iff_toInt_le] at h42
              have hi9 := cl_eq q2 h42
              rw [hi9] at hn
              refine mv_lload_n (pc := 92) B d_Book_free_92 rfl 3 rfl ?_
              refine mv_iload (pc := 93) B d_Book_free_93 1 rfl ?_
              refine mv_bipush (pc := 95) (v := 64) B d_Book_free_95 (by decide) ?_
              refine mv_icmp_ne (pc := 97) (tgt := 104) B d_Book_free_97 rfl (fun h97 => ?_) (fun h97 => ?_)
              · skip
                refine mv_lconst (pc := 104) (v := 1) B d_Book_free_104 (by decide) ?_
                refine mv_iload (pc := 105) B d_Book_free_105 1 rfl ?_
                refine mv_lshl (pc := 107) B d_Book_free_107 ?_
                refine mv_lsub (pc := 108) B d_Book_free_108 ?_
                refine mv_lstore_n (pc := 109) B d_Book_free_109 rfl (by decide) rfl ?_
                refine mv_iinc (pc := 110) (j := 3) (v := 1) B d_Book_free_110 rfl (by decide) (by decide) rfl ?_
                refine mv_goto (pc := 113) (tgt := 22) B d_Book_free_113 rfl ?_
                refine mv_lpick [0, 1, 4] rfl ?_
                exact ihO _ _ (by omega) (by omega) (by first | exact uR_z q0 (by omega) hs hn h97 | exact uR_s q0 (by omega) hs hn h97) (by omega)
              · skip
                refine mv_lconst (pc := 100) (v := 0) B d_Book_free_100 (by decide) ?_
                refine mv_goto (pc := 101) (tgt := 108) B d_Book_free_101 rfl ?_
                refine mv_lsub (pc := 108) B d_Book_free_108 ?_
                refine mv_lstore_n (pc := 109) B d_Book_free_109 rfl (by decide) rfl ?_
                refine mv_iinc (pc := 110) (j := 3) (v := 1) B d_Book_free_110 rfl (by decide) (by decide) rfl ?_
                refine mv_goto (pc := 113) (tgt := 22) B d_Book_free_113 rfl ?_
                refine mv_lpick [0, 1, 4] rfl ?_
                exact ihO _ _ (by omega) (by omega) (by first | exact uR_z q0 (by omega) hs hn h97 | exact uR_s q0 (by omega) hs hn h97) (by omega)
            · skip
              rw [Int32.le_iff_toInt_le] at h42
              have w2 : (i9 + 1).toInt = i9.toInt + 1 := i32_inc (by omega)
              refine mv_aload_n (pc := 45) B d_Book_free_45 rfl 4 rfl ?_
              refine mv_getR (pc := 46) (ci := 12) (C := R_Book) (T := F_Book) (N := 65) B 28 rfl rfl (by decide) i_Book (B.2.2.2.1 _ k_1873) rfl (hmr _ 28 _ rfl) d_Book_free_46 ?_
              refine mv_aload_n (pc := 49) B d_Book_free_49 rfl 4 rfl ?_
              refine mv_getR (pc := 50) (ci := 12) (C := R_Book) (T := F_Book) (N := 65) B 25 rfl rfl (by decide) i_Book (B.2.2.2.1 _ k_1870) rfl (hmr _ 25 _ rfl) d_Book_free_50 ?_
              refine mv_iload_n (pc := 53) B d_Book_free_53 rfl 2 rfl ?_
              refine mv_iald (pc := 54) B rfl (i32_in q0 (show o9.toInt < 4100 by omega)) d_Book_free_54 ?_
              refine mv_iload (pc := 55) B d_Book_free_55 0 rfl ?_
              refine mv_iadd (pc := 57) B d_Book_free_57 ?_
              refine mv_topi (fun y57 ey57 => ?_)
              have fy57 := i32_addE ey57 (by (try simp only [Int32.reduceToInt]); omega) (by (try simp only [Int32.reduceToInt]); omega)
              try simp only [Int32.reduceToInt] at fy57
              refine mv_bald (pc := 58) B rfl (i32_in (show 0 ≤ y57.toInt by omega) (show y57.toInt < 32768 by omega)) d_Book_free_58 ?_
              refine mv_bipush (pc := 59) (v := 48) B d_Book_free_59 (by decide) ?_
              refine mv_icmp_eq (pc := 61) (tgt := 86) B d_Book_free_61 rfl (fun h61 => ?_) (fun h61 => ?_)
              · skip
                refine mv_iinc (pc := 86) (j := 0) (v := 1) B d_Book_free_86 rfl (by decide) (by decide) rfl ?_
                refine mv_goto (pc := 89) (tgt := 36) B d_Book_free_89 rfl ?_
                refine mv_lpick [0, 1, 2, 3, 4] rfl ?_
                exact ih _ _ (by omega) (by omega) (by first | exact op_k fy57 ci.1 q1 (by omega) (Or.inl h61) hn | exact op_k fy76 ci.1 q1 (by omega) (Or.inr h80) hn | exact op_c fy57 fy76 ci.1 q1 (by omega) h61 h80 hn) (by omega)
              · skip
                refine mv_aload_n (pc := 64) B d_Book_free_64 rfl 4 rfl ?_
                refine mv_getR (pc := 65) (ci := 12) (C := R_Book) (T := F_Book) (N := 65) B 28 rfl rfl (by decide) i_Book (B.2.2.2.1 _ k_1873) rfl (hmr _ 28 _ rfl) d_Book_free_65 ?_
                refine mv_aload_n (pc := 68) B d_Book_free_68 rfl 4 rfl ?_
                refine mv_getR (pc := 69) (ci := 12) (C := R_Book) (T := F_Book) (N := 65) B 25 rfl rfl (by decide) i_Book (B.2.2.2.1 _ k_1870) rfl (hmr _ 25 _ rfl) d_Book_free_69 ?_
                refine mv_iload_n (pc := 72) B d_Book_free_72 rfl 2 rfl ?_
                refine mv_iald (pc := 73) B rfl (i32_in q0 (show o9.toInt < 4100 by omega)) d_Book_free_73 ?_
                refine mv_iload (pc := 74) B d_Book_free_74 0 rfl ?_
                refine mv_iadd (pc := 76) B d_Book_free_76 ?_
                refine mv_topi (fun y76 ey76 => ?_)
                have fy76 := i32_addE ey76 (by (try simp only [Int32.reduceToInt]); omega) (by (try simp only [Int32.reduceToInt]); omega)
                try simp only [Int32.reduceToInt] at fy76
                refine mv_bald (pc := 77) B rfl (i32_in (show 0 ≤ y76.toInt by omega) (show y76.toInt < 32768 by omega)) d_Book_free_77 ?_
                refine mv_bipush (pc := 78) (v := 49) B d_Book_free_78 (by decide) ?_
                refine mv_icmp_eq (pc := 80) (tgt := 86) B d_Book_free_80 rfl (fun h80 => ?_) (fun h80 => ?_)
                · skip
                  refine mv_iinc (pc := 86) (j := 0) (v := 1) B d_Book_free_86 rfl (by decide) (by decide) rfl ?_
                  refine mv_goto (pc := 89) (tgt := 36) B d_Book_free_89 rfl ?_
                  refine mv_lpick [0, 1, 2, 3, 4] rfl ?_
                  exact ih _ _ (by omega) (by omega) (by first | exact op_k fy57 ci.1 q1 (by omega) (Or.inl h61) hn | exact op_k fy76 ci.1 q1 (by omega) (Or.inr h80) hn | exact op_c fy57 fy76 ci.1 q1 (by omega) h61 h80 hn) (by omega)
                · skip
                  refine mv_iinc (pc := 83) (j := 1) (v := 1) B d_Book_free_83 rfl (by decide) (by decide) rfl ?_
                  refine mv_iinc (pc := 86) (j := 1) (v := 1) B d_Book_free_86 rfl (by decide) (by decide) rfl ?_
                  refine mv_goto (pc := 89) (tgt := 36) B d_Book_free_89 rfl ?_
                  refine mv_lpick [0, 1, 2, 3, 4] rfl ?_
                  exact ih _ _ (by omega) (by omega) (by first | exact op_k fy57 ci.1 q1 (by omega) (Or.inl h61) hn | exact op_k fy76 ci.1 q1 (by omega) (Or.inr h80) hn | exact op_c fy57 fy76 ci.1 q1 (by omega) h61 h80 hn) (by omega)
        refine mv_iconst (pc := 30) (v := 0) B d_Book_free_30 (by decide) ?_
        refine mv_istore (pc := 31) B d_Book_free_31 (by decide) rfl ?_
        refine mv_iconst (pc := 33) (v := 0) B d_Book_free_33 (by decide) ?_
        refine mv_istore (pc := 34) B d_Book_free_34 (by decide) rfl ?_
        refine mv_lpick [0, 1, 2, 3, 4] rfl ?_
        exact lpi _ _ _ (by decide) c3 rfl (Nat.lt_succ_self _)
  refine mv_aload_n (pc := 0) B d_Book_free_0 rfl 0 rfl ?_
  refine mv_getI (pc := 1) (ci := 12) (C := R_Book) (T := F_Book) (N := 65) B 20 rfl rfl (by decide) i_Book (B.2.2.2.1 _ k_1865) rfl d_Book_free_1 ?_
  refine mv_bipush (pc := 4) (v := 64) B d_Book_free_4 (by decide) ?_
  refine mv_icmp_ne (pc := 6) (tgt := 13) B d_Book_free_6 rfl (fun h6 => ?_) (fun h6 => ?_)
  · skip
    refine mv_lconst (pc := 13) (v := 1) B d_Book_free_13 (by decide) ?_
    refine mv_aload_n (pc := 14) B d_Book_free_14 rfl 0 rfl ?_
    refine mv_getI (pc := 15) (ci := 12) (C := R_Book) (T := F_Book) (N := 65) B 20 rfl rfl (by decide) i_Book (B.2.2.2.1 _ k_1865) rfl d_Book_free_15 ?_
    refine mv_lshl (pc := 18) B d_Book_free_18 ?_
    refine mv_lstore_n (pc := 19) B d_Book_free_19 rfl (by decide) rfl ?_
    refine mv_iconst (pc := 20) (v := 0) B d_Book_free_20 (by decide) ?_
    refine mv_istore_n (pc := 21) B d_Book_free_21 rfl (by decide) rfl ?_
    refine mv_lpick [0, 1, 2] rfl ?_
    exact lp _ _ _ (by decide) (by rw [c1]; exact Int.natCast_nonneg _) (by first | exact (if_pos h6).symm | exact (if_neg h6).symm) (Nat.lt_succ_self _)
  · skip
    refine mv_lconst (pc := 9) (v := 0) B d_Book_free_9 (by decide) ?_
    refine mv_goto (pc := 10) (tgt := 19) B d_Book_free_10 rfl ?_
    refine mv_lstore_n (pc := 19) B d_Book_free_19 rfl (by decide) rfl ?_
    refine mv_iconst (pc := 20) (v := 0) B d_Book_free_20 (by decide) ?_
    refine mv_istore_n (pc := 21) B d_Book_free_21 rfl (by decide) rfl ?_
    refine mv_lpick [0, 1, 2] rfl ?_
    exact lp _ _ _ (by decide) (by rw [c1]; exact Int.natCast_nonneg _) (by first | exact (if_pos h6).symm | exact (if_neg h6).symm) (Nat.lt_succ_self _)
set_option maxHeartbeats 4000000 in
set_option maxRecDepth 100000 in
theorem c_ku_Book_free_y (l : Launch) {dA : FieldType → ClassId} {D : va_G} {al : Nat → Nat} {ext : mv_Sh} {sk sv : Nat → Nat} (hi : mv_inj (mg dA D al ext)) (σ : mv_H) (k : Nat) (hmr : mh (mv_r σ)) (hC : CO 108 k σ) : mv_C l y_Book_free (Cond.code y_Book_free b_Book_free 6 (Option.some Jvm.ClassFile.FieldType.long) :: ma) ({ frames := 0, cells := 0, slots := 0, locals := 0 }) (mg dA D al ext) (mK sk sv) [.ref (al 108)] σ (mv_Rl (fun v σ1 => σ1 = σ ∧ v = uR (mv_a σ 118) (mv_a σ 121) (mv_i σ 108 20) (mv_i σ 108 29).toNatClampNeg)) := by
  refine mv_C.ofV (cc := b_Book_free) (nL := 6) (ret := (Option.some Jvm.ClassFile.FieldType.long)) (by decide +kernel) rfl hi (Nat.le_of_ble_eq_true rfl) ?_
  intro p e s m below meth c B hNs hr hnm hno
  obtain ⟨c1, c2, ⟨c3, c4⟩, c5⟩ := hC
  have lp : ∀ (nn : Nat) (o9 : Int32) (s9 : Int64) (q0 : 0 ≤ o9.toInt) (q3 : o9.toInt ≤ (mv_i σ 108 29).toInt) (hs : s9 = uR (mv_a σ 118) (mv_a σ 121) (mv_i σ 108 20) o9.toNatClampNeg), (20000 - o9.toInt).toNat < nn → mv_V p l e ({ frames := 0, cells := 0, slots := 0, locals := 0 }) s m ([.ref (al 108)] : List Value).toArray below meth c (mg dA D al ext) 6 0 0 (mv_Q (mg dA D al ext) below s 0 0 (mv_Rl (fun v σ1 => σ1 = σ ∧ v = uR (mv_a σ 118) (mv_a σ 121) (mv_i σ 108 20) (mv_i σ 108 29).toNatClampNeg))) σ 22 [(3, .int o9), (1, .long s9), (0, .ref (al 108))] [] := by
    intro nn
    induction nn with
    | zero => intro o9 s9 q0 q3 hs hm; exact absurd hm (Nat.not_lt_zero _)
    | succ nn ih =>
      intro o9 s9 q0 q3 hs hm
      refine mv_iload_n (pc := 22) B d_Book_free_22 rfl 0 rfl ?_
      refine mv_aload_n (pc := 23) B d_Book_free_23 rfl 2 rfl ?_
      refine mv_getI (pc := 24) (ci := 12) (C := R_Book) (T := F_Book) (N := 65) B 29 rfl rfl (by decide) i_Book (B.2.2.2.1 _ k_1874) rfl d_Book_free_24 ?_
      refine mv_icmp_ge (pc := 27) (tgt := 116) B d_Book_free_27 rfl (fun h27 => ?_) (fun h27 => ?_)
      · skip
        rw [Int32.le_iff_toInt_le] at h27
        refine mv_lload_n (pc := 116) B d_Book_free_116 rfl 1 rfl ?_
        exact mv_lret (pc := 117) B hr d_Book_free_117 (Nat.le_refl _) (Nat.le_refl _) ⟨_, rfl, rfl, by rw [← cl_eq q3 h27]; exact hs⟩
      · skip
        rw [Int32.le_iff_toInt_le] at h27
        have w1 : (o9 + 1).toInt = o9.toInt + 1 := i32_inc (by omega)
        have ci : 0 ≤ (mv_a σ 118 o9.toNatClampNeg).toInt ∧ (mv_a σ 118 o9.toNatClampNeg).toInt + (mv_i σ 108 20).toInt ≤ 32768 := c5 o9.toNatClampNeg (by have := i32_cl q0; omega)
        have ihO := ih
        clear ih
        have lpi : ∀ (nn : Nat) (i9 : Int32) (n9 : Int32) (q1 : 0 ≤ i9.toInt) (q2 : i9.toInt ≤ (mv_i σ 108 20).toInt) (hn : n9 = nI (opN (mv_a σ 121) (mv_a σ 118 o9.toNatClampNeg).toNatClampNeg i9.toNatClampNeg)), (20000 - i9.toInt).toNat < nn → mv_V p l e ({ frames := 0, cells := 0, slots := 0, locals := 0 }) s m ([.ref (al 108)] : List Value).toArray below meth c (mg dA D al ext) 6 0 0 (mv_Q (mg dA D al ext) below s 0 0 (mv_Rl (fun v σ1 => σ1 = σ ∧ v = uR (mv_a σ 118) (mv_a σ 121) (mv_i σ 108 20) (mv_i σ 108 29).toNatClampNeg))) σ 36 [(5, .int i9), (4, .int n9), (3, .int o9), (1, .long s9), (0, .ref (al 108))] [] := by
          intro nn
          induction nn with
          | zero => intro i9 n9 q1 q2 hn hm; exact absurd hm (Nat.not_lt_zero _)
          | succ nn ih =>
            intro i9 n9 q1 q2 hn hm
            refine mv_iload (pc := 36) B d_Book_free_36 0 rfl ?_
            refine mv_aload_n (pc := 38) B d_Book_free_38 rfl 4 rfl ?_
            refine mv_getI (pc := 39) (ci := 12) (C := R_Book) (T := F_Book) (N := 65) B 20 rfl rfl (by decide) i_Book (B.2.2.2.1 _ k_1865) rfl d_Book_free_39 ?_
            refine mv_icmp_ge (pc := 42) (tgt := 92) B d_Book_free_42 rfl (fun h42 => ?_) (fun h42 => ?_)
            · skip
              rw [Int32.le_iff_toInt_le] at h42
              have hi9 := cl_eq q2 h42
              rw [hi9] at hn
              refine mv_lload_n (pc := 92) B d_Book_free_92 rfl 3 rfl ?_
              refine mv_iload (pc := 93) B d_Book_free_93 1 rfl ?_
              refine mv_bipush (pc := 95) (v := 64) B d_Book_free_95 (by decide) ?_
              refine mv_icmp_ne (pc := 97) (tgt := 104) B d_Book_free_97 rfl (fun h97 => ?_) (fun h97 => ?_)
              · skip
                refine mv_lconst (pc := 104) (v := 1) B d_Book_free_104 (by decide) ?_
                refine mv_iload (pc := 105) B d_Book_free_105 1 rfl ?_
                refine mv_lshl (pc := 107) B d_Book_free_107 ?_
                refine mv_lsub (pc := 108) B d_Book_free_108 ?_
                refine mv_lstore_n (pc := 109) B d_Book_free_109 rfl (by decide) rfl ?_
                refine mv_iinc (pc := 110) (j := 3) (v := 1) B d_Book_free_110 rfl (by decide) (by decide) rfl ?_
                refine mv_goto (pc := 113) (tgt := 22) B d_Book_free_113 rfl ?_
                refine mv_lpick [0, 1, 4] rfl ?_
                exact ihO _ _ (by omega) (by omega) (by first | exact uR_z q0 (by omega) hs hn h97 | exact uR_s q0 (by omega) hs hn h97) (by omega)
              · skip
                refine mv_lconst (pc := 100) (v := 0) B d_Book_free_100 (by decide) ?_
                refine mv_goto (pc := 101) (tgt := 108) B d_Book_free_101 rfl ?_
                refine mv_lsub (pc := 108) B d_Book_free_108 ?_
                refine mv_lstore_n (pc := 109) B d_Book_free_109 rfl (by decide) rfl ?_
                refine mv_iinc (pc := 110) (j := 3) (v := 1) B d_Book_free_110 rfl (by decide) (by decide) rfl ?_
                refine mv_goto (pc := 113) (tgt := 22) B d_Book_free_113 rfl ?_
                refine mv_lpick [0, 1, 4] rfl ?_
                exact ihO _ _ (by omega) (by omega) (by first | exact uR_z q0 (by omega) hs hn h97 | exact uR_s q0 (by omega) hs hn h97) (by omega)
            · skip
              rw [Int32.le_iff_toInt_le] at h42
              have w2 : (i9 + 1).toInt = i9.toInt + 1 := i32_inc (by omega)
              refine mv_aload_n (pc := 45) B d_Book_free_45 rfl 4 rfl ?_
              refine mv_getR (pc := 46) (ci := 12) (C := R_Book) (T := F_Book) (N := 65) B 28 rfl rfl (by decide) i_Book (B.2.2.2.1 _ k_1873) rfl (hmr _ 28 _ rfl) d_Book_free_46 ?_
              refine mv_aload_n (pc := 49) B d_Book_free_49 rfl 4 rfl ?_
              refine mv_getR (pc := 50) (ci := 12) (C := R_Book) (T := F_Book) (N := 65) B 25 rfl rfl (by decide) i_Book (B.2.2.2.1 _ k_1870) rfl (hmr _ 25 _ rfl) d_Book_free_50 ?_
              refine mv_iload_n (pc := 53) B d_Book_free_53 rfl 2 rfl ?_
              refine mv_iald (pc := 54) B rfl (i32_in q0 (show o9.toInt < 4100 by omega)) d_Book_free_54 ?_
              refine mv_iload (pc := 55) B d_Book_free_55 0 rfl ?_
              refine mv_iadd (pc := 57) B d_Book_free_57 ?_
              refine mv_topi (fun y57 ey57 => ?_)
              have fy57 := i32_addE ey57 (by (try simp only [Int32.reduceToInt]); omega) (by (try simp only [Int32.reduceToInt]); omega)
              try simp only [Int32.reduceToInt] at fy57
              refine mv_bald (pc := 58) B rfl (i32_in (show 0 ≤ y57.toInt by omega) (show y57.toInt < 32768 by omega)) d_Book_free_58 ?_
              refine mv_bipush (pc := 59) (v := 48) B d_Book_free_59 (by decide) ?_
              refine mv_icmp_eq (pc := 61) (tgt := 86) B d_Book_free_61 rfl (fun h61 => ?_) (fun h61 => ?_)
              · skip
                refine mv_iinc (pc := 86) (j := 0) (v := 1) B d_Book_free_86 rfl (by decide) (by decide) rfl ?_
                refine mv_goto (pc := 89) (tgt := 36) B d_Book_free_89 rfl ?_
                refine mv_lpick [0, 1, 2, 3, 4] rfl ?_
                exact ih _ _ (by omega) (by omega) (by first | exact op_k fy57 ci.1 q1 (by omega) (Or.inl h61) hn | exact op_k fy76 ci.1 q1 (by omega) (Or.inr h80) hn | exact op_c fy57 fy76 ci.1 q1 (by omega) h61 h80 hn) (by omega)
              · skip
                refine mv_aload_n (pc := 64) B d_Book_free_64 rfl 4 rfl ?_
                refine mv_getR (pc := 65) (ci := 12) (C := R_Book) (T := F_Book) (N := 65) B 28 rfl rfl (by decide) i_Book (B.2.2.2.1 _ k_1873) rfl (hmr _ 28 _ rfl) d_Book_free_65 ?_
                refine mv_aload_n (pc := 68) B d_Book_free_68 rfl 4 rfl ?_
                refine mv_getR (pc := 69) (ci := 12) (C := R_Book) (T := F_Book) (N := 65) B 25 rfl rfl (by decide) i_Book (B.2.2.2.1 _ k_1870) rfl (hmr _ 25 _ rfl) d_Book_free_69 ?_
                refine mv_iload_n (pc := 72) B d_Book_free_72 rfl 2 rfl ?_
                refine mv_iald (pc := 73) B rfl (i32_in q0 (show o9.toInt < 4100 by omega)) d_Book_free_73 ?_
                refine mv_iload (pc := 74) B d_Book_free_74 0 rfl ?_
                refine mv_iadd (pc := 76) B d_Book_free_76 ?_
                refine mv_topi (fun y76 ey76 => ?_)
                have fy76 := i32_addE ey76 (by (try simp only [Int32.reduceToInt]); omega) (by (try simp only [Int32.reduceToInt]); omega)
                try simp only [Int32.reduceToInt] at fy76
                refine mv_bald (pc := 77) B rfl (i32_in (show 0 ≤ y76.toInt by omega) (show y76.toInt < 32768 by omega)) d_Book_free_77 ?_
                refine mv_bipush (pc := 78) (v := 49) B d_Book_free_78 (by decide) ?_
                refine mv_icmp_eq (pc := 80) (tgt := 86) B d_Book_free_80 rfl (fun h80 => ?_) (fun h80 => ?_)
                · skip
                  refine mv_iinc (pc := 86) (j := 0) (v := 1) B d_Book_free_86 rfl (by decide) (by decide) rfl ?_
                  refine mv_goto (pc := 89) (tgt := 36) B d_Book_free_89 rfl ?_
                  refine mv_lpick [0, 1, 2, 3, 4] rfl ?_
                  exact ih _ _ (by omega) (by omega) (by first | exact op_k fy57 ci.1 q1 (by omega) (Or.inl h61) hn | exact op_k fy76 ci.1 q1 (by omega) (Or.inr h80) hn | exact op_c fy57 fy76 ci.1 q1 (by omega) h61 h80 hn) (by omega)
                · skip
                  refine mv_iinc (pc := 83) (j := 1) (v := 1) B d_Book_free_83 rfl (by decide) (by decide) rfl ?_
                  refine mv_iinc (pc := 86) (j := 1) (v := 1) B d_Book_free_86 rfl (by decide) (by decide) rfl ?_
                  refine mv_goto (pc := 89) (tgt := 36) B d_Book_free_89 rfl ?_
                  refine mv_lpick [0, 1, 2, 3, 4] rfl ?_
                  exact ih _ _ (by omega) (by omega) (by first | exact op_k fy57 ci.1 q1 (by omega) (Or.inl h61) hn | exact op_k fy76 ci.1 q1 (by omega) (Or.inr h80) hn | exact op_c fy57 fy76 ci.1 q1 (by omega) h61 h80 hn) (by omega)
        refine mv_iconst (pc := 30) (v := 0) B d_Book_free_30 (by decide) ?_
        refine mv_istore (pc := 31) B d_Book_free_31 (by decide) rfl ?_
        refine mv_iconst (pc := 33) (v := 0) B d_Book_free_33 (by decide) ?_
        refine mv_istore (pc := 34) B d_Book_free_34 (by decide) rfl ?_
        refine mv_lpick [0, 1, 2, 3, 4] rfl ?_
        exact lpi _ _ _ (by decide) c3 rfl (Nat.lt_succ_self _)
  refine mv_aload_n (pc := 0) B d_Book_free_0 rfl 0 rfl ?_
  refine mv_getI (pc := 1) (ci := 12) (C := R_Book) (T := F_Book) (N := 65) B 20 rfl rfl (by decide) i_Book (B.2.2.2.1 _ k_1865) rfl d_Book_free_1 ?_
  refine mv_bipush (pc := 4) (v := 64) B d_Book_free_4 (by decide) ?_
  refine mv_icmp_ne (pc := 6) (tgt := 13) B d_Book_free_6 rfl (fun h6 => ?_) (fun h6 => ?_)
  · skip
    refine mv_lconst (pc := 13) (v := 1) B d_Book_free_13 (by decide) ?_
    refine mv_aload_n (pc := 14) B d_Book_free_14 rfl 0 rfl ?_
    refine mv_getI (pc := 15) (ci := 12) (C := R_Book) (T := F_Book) (N := 65) B 20 rfl rfl (by decide) i_Book (B.2.2.2.1 _ k_1865) rfl d_Book_free_15 ?_
    refine mv_lshl (pc := 18) B d_Book_free_18 ?_
    refine mv_lstore_n (pc := 19) B d_Book_free_19 rfl (by decide) rfl ?_
    refine mv_iconst (pc := 20) (v := 0) B d_Book_free_20 (by decide) ?_
    refine mv_istore_n (pc := 21) B d_Book_free_21 rfl (by decide) rfl ?_
    refine mv_lpick [0, 1, 2] rfl ?_
    exact lp _ _ _ (by decide) (by rw [c1]; exact Int.natCast_nonneg _) (by first | exact (if_pos h6).symm | exact (if_neg h6).symm) (Nat.lt_succ_self _)
  · skip
    refine mv_lconst (pc := 9) (v := 0) B d_Book_free_9 (by decide) ?_
    refine mv_goto (pc := 10) (tgt := 19) B d_Book_free_10 rfl ?_
    refine mv_lstore_n (pc := 19) B d_Book_free_19 rfl (by decide) rfl ?_
    refine mv_iconst (pc := 20) (v := 0) B d_Book_free_20 (by decide) ?_
    refine mv_istore_n (pc := 21) B d_Book_free_21 rfl (by decide) rfl ?_
    refine mv_lpick [0, 1, 2] rfl ?_
    exact lp _ _ _ (by decide) (by rw [c1]; exact Int.natCast_nonneg _) (by first | exact (if_pos h6).symm | exact (if_neg h6).symm) (Nat.lt_succ_self _)
set_option maxHeartbeats 4000000 in
set_option maxRecDepth 100000 in
theorem c_ku_Model_shippedOpen (l : Launch) {dA : FieldType → ClassId} {D : va_G} {al : Nat → Nat} {ext : mv_Sh} {sk sv : Nat → Nat} (hi : mv_inj (mg dA D al ext)) (σ : mv_H) (o9 : Int32) : mv_C l y_Model_shippedOpen (Cond.code y_Model_shippedOpen b_Model_shippedOpen 1 (Option.some Jvm.ClassFile.FieldType.int) :: ma) ({ frames := 0, cells := 0, slots := 0, locals := 0 }) (mg dA D al ext) (mK sk sv) [.int o9] σ (mv_Ri (fun v σ1 => σ1 = σ ∧ v = shO o9)) := by
  refine mv_C.ofV (cc := b_Model_shippedOpen) (nL := 1) (ret := (Option.some Jvm.ClassFile.FieldType.int)) (by decide +kernel) rfl hi (Nat.le_of_ble_eq_true rfl) ?_
  intro p e s m below meth c B hNs hr hnm hno
  refine mv_iload_n (pc := 0) B d_Model_shippedOpen_0 rfl 0 rfl ?_
  refine mv_iconst (pc := 1) (v := 3) B d_Model_shippedOpen_1 (by decide) ?_
  refine mv_icmp_ge (pc := 2) (tgt := 8) B d_Model_shippedOpen_2 rfl (fun h2 => ?_) (fun h2 => ?_)
  · skip
    refine mv_iload_n (pc := 8) B d_Model_shippedOpen_8 rfl 0 rfl ?_
    refine mv_bipush (pc := 9) (v := 37) B d_Model_shippedOpen_9 (by decide) ?_
    refine mv_icmp_ne (pc := 11) (tgt := 17) B d_Model_shippedOpen_11 rfl (fun h11 => ?_) (fun h11 => ?_)
    · skip
      refine mv_iload_n (pc := 17) B d_Model_shippedOpen_17 rfl 0 rfl ?_
      refine mv_bipush (pc := 18) (v := 38) B d_Model_shippedOpen_18 (by decide) ?_
      refine mv_icmp_eq (pc := 20) (tgt := 29) B d_Model_shippedOpen_20 rfl (fun h20 => ?_) (fun h20 => ?_)
      · skip
        refine mv_iconst (pc := 29) (v := 0) B d_Model_shippedOpen_29 (by decide) ?_
        exact mv_iret (pc := 30) B hr rfl d_Model_shippedOpen_30 (Nat.le_refl _) (Nat.le_refl _) ⟨_, rfl, rfl, by unfold shO; first | rw [if_pos h2, if_neg h11, if_pos h20] | rw [if_pos h2, if_neg h11, if_neg h20, if_pos h26]⟩
      · skip
        refine mv_iload_n (pc := 23) B d_Model_shippedOpen_23 rfl 0 rfl ?_
        refine mv_bipush (pc := 24) (v := 39) B d_Model_shippedOpen_24 (by decide) ?_
        refine mv_icmp_ne (pc := 26) (tgt := 31) B d_Model_shippedOpen_26 rfl (fun h26 => ?_) (fun h26 => ?_)
        · skip
          refine mv_iload_n (pc := 31) B d_Model_shippedOpen_31 rfl 0 rfl ?_
          refine mv_bipush (pc := 32) (v := 24) B d_Model_shippedOpen_32 (by decide) ?_
          refine mv_icmp_ge (pc := 34) (tgt := 42) B d_Model_shippedOpen_34 rfl (fun h34 => ?_) (fun h34 => ?_)
          · skip
            refine mv_bipush (pc := 42) (v := 15) B d_Model_shippedOpen_42 (by decide) ?_
            exact mv_iret (pc := 44) B hr rfl d_Model_shippedOpen_44 (Nat.le_refl _) (Nat.le_refl _) ⟨_, rfl, rfl, by unfold shO; rw [if_pos h2, if_neg h11, if_neg h20, if_neg h26]; first | rw [if_pos h34] | rw [if_neg h34]⟩
          · skip
            refine mv_bipush (pc := 37) (v := 22) B d_Model_shippedOpen_37 (by decide) ?_
            refine mv_goto (pc := 39) (tgt := 44) B d_Model_shippedOpen_39 rfl ?_
            exact mv_iret (pc := 44) B hr rfl d_Model_shippedOpen_44 (Nat.le_refl _) (Nat.le_refl _) ⟨_, rfl, rfl, by unfold shO; rw [if_pos h2, if_neg h11, if_neg h20, if_neg h26]; first | rw [if_pos h34] | rw [if_neg h34]⟩
        · skip
          refine mv_iconst (pc := 29) (v := 0) B d_Model_shippedOpen_29 (by decide) ?_
          exact mv_iret (pc := 30) B hr rfl d_Model_shippedOpen_30 (Nat.le_refl _) (Nat.le_refl _) ⟨_, rfl, rfl, by unfold shO; first | rw [if_pos h2, if_neg h11, if_pos h20] | rw [if_pos h2, if_neg h11, if_neg h20, if_pos h26]⟩
    · skip
      refine mv_bipush (pc := 14) (v := 22) B d_Model_shippedOpen_14 (by decide) ?_
      exact mv_iret (pc := 16) B hr rfl d_Model_shippedOpen_16 (Nat.le_refl _) (Nat.le_refl _) ⟨_, rfl, rfl, by unfold shO; rw [if_pos h2, if_pos h11]⟩
  · skip
    refine mv_bipush (pc := 5) (v := 25) B d_Model_shippedOpen_5 (by decide) ?_
    exact mv_iret (pc := 7) B hr rfl d_Model_shippedOpen_7 (Nat.le_refl _) (Nat.le_refl _) ⟨_, rfl, rfl, (if_neg h2).symm⟩
set_option maxHeartbeats 4000000 in
set_option maxRecDepth 100000 in
theorem c_ku_Model_free_x (l : Launch) {dA : FieldType → ClassId} {D : va_G} {al : Nat → Nat} {ext : mv_Sh} {sk sv : Nat → Nat} (hi : mv_inj (mg dA D al ext)) (σ : mv_H) (hM : MI 74 108 σ) : mv_C l y_Model_free (Cond.code y_Model_free b_Model_free 4 (Option.some Jvm.ClassFile.FieldType.long) :: ma) ({ frames := 1, cells := 0, slots := 0, locals := 25 }) (mg dA D al ext) (mK sk sv) [.ref (al 70)] σ (mv_Rl (fun v σ1 => QF 74 σ σ1 ∧ ((mv_i σ 70 11 = 0 ∧ v = uR (mv_a σ 84) (mv_a σ 87) (mv_i σ 74 20) (mv_i σ 74 29).toNatClampNeg) ∨ (¬ mv_i σ 70 11 = 0 ∧ v = 4294967296 - shT 48)))) := by
  refine mv_C.ofV (cc := b_Model_free) (nL := 4) (ret := (Option.some Jvm.ClassFile.FieldType.long)) (by decide +kernel) rfl hi (Nat.le_of_ble_eq_true rfl) ?_
  intro p e s m below meth c B hNs hr hnm hno
  have hN : 74 = 74 ∨ 74 = 108 := by decide
  refine mv_aload_n (pc := 0) B d_Model_free_0 rfl 0 rfl ?_
  refine mv_iconst (pc := 1) (v := 0) B d_Model_free_1 (by decide) ?_
  refine mv_putI (pc := 2) (ci := 11) (C := R_Model) (T := F_Model) (N := 16) B 2 rfl rfl (by decide) i_Model t_Model_ok n_Model (B.2.2.2.1 _ k_2047) rfl rfl rfl rfl d_Model_free_2 ?_
  refine mv_gen (fun S5 eS5 => ?_)
  have hF : QF 74 σ S5 := by rw [eS5]; exact QF.si Fx.rf (by decide)
  have hM := hM.qf hF hN
  have e11 : mv_i S5 70 11 = mv_i σ 70 11 := hF.sh hN
  have eR : uR (mv_a S5 84) (mv_a S5 87) (mv_i S5 74 20) (mv_i S5 74 29).toNatClampNeg = uR (mv_a σ 84) (mv_a σ 87) (mv_i σ 74 20) (mv_i σ 74 29).toNatClampNeg := by rw [hF.1 74 29 (by omega), hF.1 74 20 (by omega), show mv_a S5 84 = mv_a σ 84 by rw [eS5]; rfl, show mv_a S5 87 = mv_a σ 87 by rw [eS5]; rfl]
  have hM0 := hM
  obtain ⟨-, -, -, th, n, k, g1, g2, g3, g4, g5, g6, g7, g8⟩ := hM0
  clear g6 g7 g8
  clear eS5
  refine mv_aload_n (pc := 5) B d_Model_free_5 rfl 0 rfl ?_
  refine mv_getI (pc := 6) (ci := 11) (C := R_Model) (T := F_Model) (N := 16) B 11 rfl rfl (by decide) i_Model (B.2.2.2.1 _ k_2056) rfl d_Model_free_6 ?_
  refine mv_if_ne (pc := 9) (tgt := 20) B d_Model_free_9 rfl (fun h9 => ?_) (fun h9 => ?_)
  · skip
    have lp : ∀ (nn : Nat) (i9 : Int32) (u9 : Int64) (q0 : 0 ≤ i9.toInt) (q1 : i9.toInt ≤ 48) (hu : u9 = shT i9.toNatClampNeg), (100 - i9.toInt).toNat < nn → mv_V p l e ({ frames := 1, cells := 0, slots := 0, locals := 25 }) s m ([.ref (al 70)] : List Value).toArray below meth c (mg dA D al ext) 4 0 0 (mv_Q (mg dA D al ext) below s 0 0 (mv_Rl (fun v σ1 => QF 74 σ σ1 ∧ ((mv_i σ 70 11 = 0 ∧ v = uR (mv_a σ 84) (mv_a σ 87) (mv_i σ 74 20) (mv_i σ 74 29).toNatClampNeg) ∨ (¬ mv_i σ 70 11 = 0 ∧ v = 4294967296 - shT 48))))) S5 24 [(3, .int i9), (1, .long u9), (0, .ref (al 70))] [] := by
      intro nn
      induction nn with
      | zero => intro i9 u9 q0 q1 hu hm; exact absurd hm (Nat.not_lt_zero _)
      | succ nn ih =>
        intro i9 u9 q0 q1 hu hm
        refine mv_iload_n (pc := 24) B d_Model_free_24 rfl 0 rfl ?_
        refine mv_bipush (pc := 25) (v := 48) B d_Model_free_25 (by decide) ?_
        refine mv_icmp_ge (pc := 27) (tgt := 45) B d_Model_free_27 rfl (fun h27 => ?_) (fun h27 => ?_)
        · skip
          rw [Int32.le_iff_toInt_le] at h27
          have h27 : 48 ≤ i9.toInt := h27
          refine mv_ldc2 (pc := 45) (v := 4294967296) B (B.2.2.2.1 _ k_2597) d_Model_free_45 ?_
          refine mv_lload_n (pc := 48) B d_Model_free_48 rfl 1 rfl ?_
          refine mv_lsub (pc := 49) B d_Model_free_49 ?_
          exact mv_lret (pc := 50) B hr d_Model_free_50 (Nat.le_refl _) (Nat.le_refl _) ⟨_, rfl, hF, Or.inr ⟨fun z => h9 (e11.trans z), by rw [show u9 = shT 48 by rw [hu, show i9.toNatClampNeg = 48 by have := i32_cl q0; omega]]⟩⟩
        · skip
          rw [Int32.le_iff_toInt_le] at h27
          have h27 : ¬ 48 ≤ i9.toInt := h27
          have w2 : (i9 + 1).toInt = i9.toInt + 1 := i32_inc (by omega)
          refine mv_lload_n (pc := 30) B d_Model_free_30 rfl 1 rfl ?_
          refine mv_lconst (pc := 31) (v := 1) B d_Model_free_31 (by decide) ?_
          refine mv_iload_n (pc := 32) B d_Model_free_32 rfl 0 rfl ?_
          refine mv_callSi (pc := 33) (n := 1) B (mK_ok sk sv) hNs (c_ku_Model_shippedOpen l hi _ _) rfl (ma_goodc kc_Model_shippedOpen) (B.2.2.2.1 _ k_2594) (B.2.2.2.1 _ k_2595) (B.2.2.2.1 _ k_12) ⟨by decide +kernel, by decide +kernel, by decide +kernel⟩ rfl d_Model_free_33 rfl (Nat.le_of_ble_eq_true rfl) ⟨by decide, by decide⟩ ⟨by decide, by decide⟩ ⟨by decide, by decide⟩ (mv_noH hno _) (fun v33 σ33 h33 => ?_)
          obtain ⟨e33, z33⟩ := h33
          have e33 := e33.symm
          subst e33
          refine mv_lshl (pc := 36) B d_Model_free_36 ?_
          refine mv_ladd (pc := 37) B d_Model_free_37 ?_
          refine mv_lstore_n (pc := 38) B d_Model_free_38 rfl (by decide) rfl ?_
          refine mv_iinc (pc := 39) (j := 1) (v := 1) B d_Model_free_39 rfl (by decide) (by decide) rfl ?_
          refine mv_goto (pc := 42) (tgt := 24) B d_Model_free_42 rfl ?_
          refine mv_lpick [0, 1, 2] rfl ?_
          exact ih _ _ (by omega) (by omega) (shT_s q0 (by omega) hu z33) (by omega)
    refine mv_lconst (pc := 20) (v := 0) B d_Model_free_20 (by decide) ?_
    refine mv_lstore_n (pc := 21) B d_Model_free_21 rfl (by decide) rfl ?_
    refine mv_iconst (pc := 22) (v := 0) B d_Model_free_22 (by decide) ?_
    refine mv_istore_n (pc := 23) B d_Model_free_23 rfl (by decide) rfl ?_
    refine mv_lpick [0, 1, 2] rfl ?_
    exact lp _ _ _ (by decide) (by decide) rfl (Nat.lt_succ_self _)
  · skip
    refine mv_aload_n (pc := 12) B d_Model_free_12 rfl 0 rfl ?_
    refine mv_getR (pc := 13) (ci := 11) (C := R_Model) (T := F_Model) (N := 16) B 9 rfl rfl (by decide) i_Model (B.2.2.2.1 _ k_2054) rfl hM.2.1 d_Model_free_13 ?_
    refine mv_callVl (pc := 16) (n := 0) (ci := 12) (C := R_Book) B (mK_ok sk sv) hNs rfl rfl (c_ku_Book_free_x l hi _ k hM.1 g5) rfl (ma_goodc kc_Book_free) (B.2.2.2.1 _ k_2590) (B.2.2.2.1 _ k_2591) (B.2.2.2.1 _ k_2592) (B.2.2.2.1 _ k_13) ⟨by decide +kernel, by decide +kernel, by decide +kernel⟩ rfl d_Model_free_16 rfl (Nat.le_of_ble_eq_true rfl) ⟨by decide, by decide⟩ ⟨by decide, by decide⟩ ⟨by decide, by decide⟩ (mv_noH hno _) (fun v16 σ16 h16 => ?_)
    obtain ⟨e16, z16⟩ := h16
    have e16 := e16.symm
    subst e16
    exact mv_lret (pc := 19) B hr d_Model_free_19 (Nat.le_refl _) (Nat.le_refl _) ⟨_, rfl, hF, Or.inl ⟨e11.symm.trans h9, z16.trans eR⟩⟩
set_option maxHeartbeats 4000000 in
set_option maxRecDepth 100000 in
theorem c_ku_Model_free_y (l : Launch) {dA : FieldType → ClassId} {D : va_G} {al : Nat → Nat} {ext : mv_Sh} {sk sv : Nat → Nat} (hi : mv_inj (mg dA D al ext)) (σ : mv_H) (hM : MI 108 74 σ) : mv_C l y_Model_free (Cond.code y_Model_free b_Model_free 4 (Option.some Jvm.ClassFile.FieldType.long) :: ma) ({ frames := 1, cells := 0, slots := 0, locals := 25 }) (mg dA D al ext) (mK sk sv) [.ref (al 70)] σ (mv_Rl (fun v σ1 => QF 108 σ σ1 ∧ ((mv_i σ 70 11 = 0 ∧ v = uR (mv_a σ 118) (mv_a σ 121) (mv_i σ 108 20) (mv_i σ 108 29).toNatClampNeg) ∨ (¬ mv_i σ 70 11 = 0 ∧ v = 4294967296 - shT 48)))) := by
  refine mv_C.ofV (cc := b_Model_free) (nL := 4) (ret := (Option.some Jvm.ClassFile.FieldType.long)) (by decide +kernel) rfl hi (Nat.le_of_ble_eq_true rfl) ?_
  intro p e s m below meth c B hNs hr hnm hno
  have hN : 108 = 74 ∨ 108 = 108 := by decide
  refine mv_aload_n (pc := 0) B d_Model_free_0 rfl 0 rfl ?_
  refine mv_iconst (pc := 1) (v := 0) B d_Model_free_1 (by decide) ?_
  refine mv_putI (pc := 2) (ci := 11) (C := R_Model) (T := F_Model) (N := 16) B 2 rfl rfl (by decide) i_Model t_Model_ok n_Model (B.2.2.2.1 _ k_2047) rfl rfl rfl rfl d_Model_free_2 ?_
  refine mv_gen (fun S5 eS5 => ?_)
  have hF : QF 108 σ S5 := by rw [eS5]; exact QF.si Fx.rf (by decide)
  have hM := hM.qf hF hN
  have e11 : mv_i S5 70 11 = mv_i σ 70 11 := hF.sh hN
  have eR : uR (mv_a S5 118) (mv_a S5 121) (mv_i S5 108 20) (mv_i S5 108 29).toNatClampNeg = uR (mv_a σ 118) (mv_a σ 121) (mv_i σ 108 20) (mv_i σ 108 29).toNatClampNeg := by rw [hF.1 108 29 (by omega), hF.1 108 20 (by omega), show mv_a S5 118 = mv_a σ 118 by rw [eS5]; rfl, show mv_a S5 121 = mv_a σ 121 by rw [eS5]; rfl]
  have hM0 := hM
  obtain ⟨-, -, -, th, n, k, g1, g2, g3, g4, g5, g6, g7, g8⟩ := hM0
  clear g6 g7 g8
  clear eS5
  refine mv_aload_n (pc := 5) B d_Model_free_5 rfl 0 rfl ?_
  refine mv_getI (pc := 6) (ci := 11) (C := R_Model) (T := F_Model) (N := 16) B 11 rfl rfl (by decide) i_Model (B.2.2.2.1 _ k_2056) rfl d_Model_free_6 ?_
  refine mv_if_ne (pc := 9) (tgt := 20) B d_Model_free_9 rfl (fun h9 => ?_) (fun h9 => ?_)
  · skip
    have lp : ∀ (nn : Nat) (i9 : Int32) (u9 : Int64) (q0 : 0 ≤ i9.toInt) (q1 : i9.toInt ≤ 48) (hu : u9 = shT i9.toNatClampNeg), (100 - i9.toInt).toNat < nn → mv_V p l e ({ frames := 1, cells := 0, slots := 0, locals := 25 }) s m ([.ref (al 70)] : List Value).toArray below meth c (mg dA D al ext) 4 0 0 (mv_Q (mg dA D al ext) below s 0 0 (mv_Rl (fun v σ1 => QF 108 σ σ1 ∧ ((mv_i σ 70 11 = 0 ∧ v = uR (mv_a σ 118) (mv_a σ 121) (mv_i σ 108 20) (mv_i σ 108 29).toNatClampNeg) ∨ (¬ mv_i σ 70 11 = 0 ∧ v = 4294967296 - shT 48))))) S5 24 [(3, .int i9), (1, .long u9), (0, .ref (al 70))] [] := by
      intro nn
      induction nn with
      | zero => intro i9 u9 q0 q1 hu hm; exact absurd hm (Nat.not_lt_zero _)
      | succ nn ih =>
        intro i9 u9 q0 q1 hu hm
        refine mv_iload_n (pc := 24) B d_Model_free_24 rfl 0 rfl ?_
        refine mv_bipush (pc := 25) (v := 48) B d_Model_free_25 (by decide) ?_
        refine mv_icmp_ge (pc := 27) (tgt := 45) B d_Model_free_27 rfl (fun h27 => ?_) (fun h27 => ?_)
        · skip
          rw [Int32.le_iff_toInt_le] at h27
          have h27 : 48 ≤ i9.toInt := h27
          refine mv_ldc2 (pc := 45) (v := 4294967296) B (B.2.2.2.1 _ k_2597) d_Model_free_45 ?_
          refine mv_lload_n (pc := 48) B d_Model_free_48 rfl 1 rfl ?_
          refine mv_lsub (pc := 49) B d_Model_free_49 ?_
          exact mv_lret (pc := 50) B hr d_Model_free_50 (Nat.le_refl _) (Nat.le_refl _) ⟨_, rfl, hF, Or.inr ⟨fun z => h9 (e11.trans z), by rw [show u9 = shT 48 by rw [hu, show i9.toNatClampNeg = 48 by have := i32_cl q0; omega]]⟩⟩
        · skip
          rw [Int32.le_iff_toInt_le] at h27
          have h27 : ¬ 48 ≤ i9.toInt := h27
          have w2 : (i9 + 1).toInt = i9.toInt + 1 := i32_inc (by omega)
          refine mv_lload_n (pc := 30) B d_Model_free_30 rfl 1 rfl ?_
          refine mv_lconst (pc := 31) (v := 1) B d_Model_free_31 (by decide) ?_
          refine mv_iload_n (pc := 32) B d_Model_free_32 rfl 0 rfl ?_
          refine mv_callSi (pc := 33) (n := 1) B (mK_ok sk sv) hNs (c_ku_Model_shippedOpen l hi _ _) rfl (ma_goodc kc_Model_shippedOpen) (B.2.2.2.1 _ k_2594) (B.2.2.2.1 _ k_2595) (B.2.2.2.1 _ k_12) ⟨by decide +kernel, by decide +kernel, by decide +kernel⟩ rfl d_Model_free_33 rfl (Nat.le_of_ble_eq_true rfl) ⟨by decide, by decide⟩ ⟨by decide, by decide⟩ ⟨by decide, by decide⟩ (mv_noH hno _) (fun v33 σ33 h33 => ?_)
          obtain ⟨e33, z33⟩ := h33
          have e33 := e33.symm
          subst e33
          refine mv_lshl (pc := 36) B d_Model_free_36 ?_
          refine mv_ladd (pc := 37) B d_Model_free_37 ?_
          refine mv_lstore_n (pc := 38) B d_Model_free_38 rfl (by decide) rfl ?_
          refine mv_iinc (pc := 39) (j := 1) (v := 1) B d_Model_free_39 rfl (by decide) (by decide) rfl ?_
          refine mv_goto (pc := 42) (tgt := 24) B d_Model_free_42 rfl ?_
          refine mv_lpick [0, 1, 2] rfl ?_
          exact ih _ _ (by omega) (by omega) (shT_s q0 (by omega) hu z33) (by omega)
    refine mv_lconst (pc := 20) (v := 0) B d_Model_free_20 (by decide) ?_
    refine mv_lstore_n (pc := 21) B d_Model_free_21 rfl (by decide) rfl ?_
    refine mv_iconst (pc := 22) (v := 0) B d_Model_free_22 (by decide) ?_
    refine mv_istore_n (pc := 23) B d_Model_free_23 rfl (by decide) rfl ?_
    refine mv_lpick [0, 1, 2] rfl ?_
    exact lp _ _ _ (by decide) (by decide) rfl (Nat.lt_succ_self _)
  · skip
    refine mv_aload_n (pc := 12) B d_Model_free_12 rfl 0 rfl ?_
    refine mv_getR (pc := 13) (ci := 11) (C := R_Model) (T := F_Model) (N := 16) B 9 rfl rfl (by decide) i_Model (B.2.2.2.1 _ k_2054) rfl hM.2.1 d_Model_free_13 ?_
    refine mv_callVl (pc := 16) (n := 0) (ci := 12) (C := R_Book) B (mK_ok sk sv) hNs rfl rfl (c_ku_Book_free_y l hi _ k hM.1 g5) rfl (ma_goodc kc_Book_free) (B.2.2.2.1 _ k_2590) (B.2.2.2.1 _ k_2591) (B.2.2.2.1 _ k_2592) (B.2.2.2.1 _ k_13) ⟨by decide +kernel, by decide +kernel, by decide +kernel⟩ rfl d_Model_free_16 rfl (Nat.le_of_ble_eq_true rfl) ⟨by decide, by decide⟩ ⟨by decide, by decide⟩ ⟨by decide, by decide⟩ (mv_noH hno _) (fun v16 σ16 h16 => ?_)
    obtain ⟨e16, z16⟩ := h16
    have e16 := e16.symm
    subst e16
    exact mv_lret (pc := 19) B hr d_Model_free_19 (Nat.le_refl _) (Nat.le_refl _) ⟨_, rfl, hF, Or.inl ⟨e11.symm.trans h9, z16.trans eR⟩⟩
/-- the two are one -/
theorem pw_same {n : Nat} (h : n ≤ 64) : pwr (nI n) = pwq (nI n) := by
  have hh : ∀ n, n ≤ 64 → pwr (nI n) = pwq (nI n) := by decide +kernel
  exact hh n h
theorem sb_01 {x : Nat} (h : x < 256) : (sb x = 48 ∨ sb x = 49) ↔ is01 x = true := by
  have hh : ∀ x, x < 256 → ((sb x = 48 ∨ sb x = 49) ↔ is01 x = true) := by decide +kernel
  exact hh x h
theorem op_cn {r : Nat → Int32} {c L : Nat} {g : Nat → Nat} (h : ∀ k, k < L → r (c + k) = sb (g k) ∧ g k < 256) : ∀ i, i ≤ L → opN r c i + cnF (fun k => is01 (g k)) i = i := by
  intro i
  induction i with
  | zero => intro _; rfl
  | succ i ih =>
    intro hi
    have e := ih (by omega)
    obtain ⟨a, b⟩ := h i (by omega)
    show opN r c i + (if r (c + i) = 48 ∨ r (c + i) = 49 then 0 else 1) + (cnF (fun k => is01 (g k)) i + (if is01 (g i) = true then 1 else 0)) = i + 1
    rw [a]
    have d := sb_01 b
    by_cases z : is01 (g i) = true
    · rw [if_pos (d.mpr z), if_pos z]; omega
    · rw [if_neg (fun q => z (d.mp q)), if_neg z]; omega
theorem nI_sub {a b : Nat} (h : b ≤ a) (ha : a < 2147483648) : nI a - nI b = nI (a - b) := Int32.toInt_inj.mp (by
  rw [i32_sub (by rw [nIi ha, nIi (by omega)]; omega) (by rw [nIi ha, nIi (by omega)]; omega), nIi ha, nIi (by omega), nIi (by omega)]
  omega)
theorem nJ_n {x : Nat} (h : x < 18446744073709551616) : (nJ x).toBitVec.toNat = x := by
  show (BitVec.ofNat 64 x).toNat = x
  rw [BitVec.toNat_ofNat, Nat.mod_eq_of_lt (by omega)]
theorem fr_eq {P B : Nat} {s : SI} {σ : mv_H} (hP : SPq P s σ) (hB : SRt B s σ) : uC (mv_b σ (P + 5)) (mv_i σ P 0) (mv_i σ P 10).toNatClampNeg = uR (mv_a σ (B + 10)) (mv_a σ (B + 13)) (mv_i σ B 20) (mv_i σ B 29).toNatClampNeg := by
  obtain ⟨p1, -, -, p4, ⟨p5, -, -, p6⟩, p7, -⟩ := hP
  obtain ⟨b1, -, -, b4, b5, b6, -⟩ := hB
  rw [p1, p4, b1, b4, cln (by omega)]
  have go : ∀ n, n ≤ s.ops.length → uC (mv_b σ (P + 5)) (nI s.bits) n = uR (mv_a σ (B + 10)) (mv_a σ (B + 13)) (nI s.bits) n := by
    intro n
    induction n with
    | zero => intro _; exact pw_same p5
    | succ n ih =>
      intro hn
      obtain ⟨a1, -, -⟩ := p7 n (by omega)
      obtain ⟨-, c, c1, c2, c3⟩ := b6 n (by omega)
      show uC (mv_b σ (P + 5)) (nI s.bits) n - pwr (nI s.bits - bcI (mv_b σ (P + 5) n)) = uR (mv_a σ (B + 10)) (mv_a σ (B + 13)) (nI s.bits) n - pwq (nI (opN (mv_a σ (B + 13)) (mv_a σ (B + 10) n).toNatClampNeg (nI s.bits).toNatClampNeg))
      have hb := mkN_b (fun i => is01 ((s.ops.getD n ([], [])).2.getD i 0)) s.bits
      have hb2 : mkN (fun i => is01 ((s.ops.getD n ([], [])).2.getD i 0)) s.bits < 18446744073709551616 := Nat.lt_of_lt_of_le hb (Nat.pow_le_pow_right (by decide) p5 : 2 ^ s.bits ≤ 2 ^ 64)
      have hcn := op_cn c3 s.bits (Nat.le_refl _)
      have hcb := cnF_b (fun i => is01 ((s.ops.getD n ([], [])).2.getD i 0)) s.bits
      rw [ih (by omega), a1, c1, cln (by omega), cln (by omega)]
      unfold bcI
      rw [nJ_n hb2, pcK_m _ s.bits 64 p5, nI_sub hcb (by omega), pw_same (by omega)]
      rw [show s.bits - cnF (fun i => is01 ((s.ops.getD n ([], [])).2.getD i 0)) s.bits = opN (mv_a σ (B + 13)) c s.bits by omega]
  exact go _ (Nat.le_refl _)

