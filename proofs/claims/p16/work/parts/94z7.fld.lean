/-! field, exactly -/
/-- the mask of a letter in an op's code -/
def MKq (P : Nat) (σ : mv_H) (o c : Int32) (m : Int64) : Prop := (((0 ≤ o.toInt ∧ o.toInt < (mv_i σ P 10).toInt) ∧ LTq c) ∧ m = nJ (mkN (sgF2 (mv_a σ (P + 8)) o c) (mv_i σ P 0).toNatClampNeg)) ∨ (¬ ((0 ≤ o.toInt ∧ o.toInt < (mv_i σ P 10).toInt) ∧ LTq c) ∧ m = 0)
/-- where the code at a has the sign c -/
def cdF (r : Nat → Int32) (a : Nat) (c : Int32) (i : Nat) : Bool := decide (r (a + i) = c)
theorem lt_of9 {c : Int32} (h : ¬ lt9 c = 0) (h2 : ¬ c = 95) : LTq c := by
  unfold lt9 at h
  by_cases z : (97 ≤ c.toInt ∧ c.toInt ≤ 122) ∨ (65 ≤ c.toInt ∧ c.toInt ≤ 90) ∨ c.toInt = 95
  · rcases z with z | z | z
    · exact Or.inl z
    · exact Or.inr z
    · exact absurd (Int32.toInt_inj.mp (z.trans (show (95 : Int) = (95 : Int32).toInt by decide))) h2
  · rw [if_neg z] at h
    exact absurd rfl h
theorem lt_no9 {c : Int32} (h : lt9 c = 0) : ¬ LTq c := fun q => by
  unfold lt9 at h
  rw [if_pos (by unfold LTq at q; omega)] at h
  exact absurd h (by decide)
theorem lt_no95 {c : Int32} (h : c = 95) : ¬ LTq c := fun q => by
  subst h
  unfold LTq at q
  have : (95 : Int32).toInt = 95 := by decide
  omega
theorem cd_at {r : Nat → Int32} {a i y : Int32} (fy : y.toInt = a.toInt + i.toInt) (ha : 0 ≤ a.toInt) (hi : 0 ≤ i.toInt) : r y.toNatClampNeg = r (a.toNatClampNeg + i.toNatClampNeg) := by
  have p := i32_cl ha
  have q := i32_cl hi
  have s := i32_cl (x := y) (by omega)
  rw [show y.toNatClampNeg = a.toNatClampNeg + i.toNatClampNeg by omega]
/-- no sign c so far -/
def NSq (r : Nat → Int32) (a : Nat) (c : Int32) (k : Nat) : Prop := LTq c → ∀ i, i < k → ¬ r (a + i) = c
theorem NSq.s {r : Nat → Int32} {a i c : Int32} (h : NSq r a.toNatClampNeg c i.toNatClampNeg) (h0 : 0 ≤ i.toInt) (h1 : i.toInt < 2147483647) (g : LTq c → ¬ r (a.toNatClampNeg + i.toNatClampNeg) = c) : NSq r a.toNatClampNeg c (i + 1).toNatClampNeg := fun z k hk => by
  rw [cl_inc h0 h1] at hk
  by_cases e : k = i.toNatClampNeg
  · rw [e]; exact g z
  · exact h z k (by omega)
/-- whether the op has the letter -/
def HFq (B : Nat) (σ : mv_H) (o c : Int32) : Prop := LTq c ∧ ∃ i, i < (mv_i σ B 20).toNatClampNeg ∧ mv_a σ (B + 13) ((mv_a σ (B + 10) o.toNatClampNeg).toNatClampNeg + i) = c
/-! the book's field -/
def msk (f : Nat → Bool) (L i : Nat) : BitVec 64 := BitVec.ofNat 64 (mkN f i * 2 ^ (L - i))
theorem msk_b {f : Nat → Bool} {L i : Nat} (hi : i ≤ L) (hL : L ≤ 64) (q : Nat) : (msk f L i).getLsbD q = true ↔ (L - i ≤ q ∧ q < L ∧ f (L - 1 - q) = true) := by
  unfold msk
  rw [BitVec.getLsbD_ofNat, Nat.testBit_mul_two_pow]
  rw [mkN_t]
  simp only [Bool.and_eq_true, decide_eq_true_eq]
  constructor
  · rintro ⟨h1, h2, h3, h4⟩
    exact ⟨h2, by omega, by rw [show L - 1 - q = i - 1 - (q - (L - i)) by omega]; exact h4⟩
  · rintro ⟨h1, h2, h3⟩
    exact ⟨by omega, h1, by omega, by rw [show i - 1 - (q - (L - i)) = L - 1 - q by omega]; exact h3⟩
theorem rk_lo {m : BitVec 64} {lo : Nat} (h : ∀ i, m.getLsbD i = true → lo ≤ i) : ∀ q, rk m q ≤ q - lo := by
  intro q
  induction q with
  | zero => exact Nat.zero_le _
  | succ q ih =>
    show rk m q + (if m.getLsbD q = true then 1 else 0) ≤ q + 1 - lo
    by_cases z : m.getLsbD q = true
    · rw [if_pos z]
      have := h q z
      omega
    · rw [if_neg z]
      omega
theorem rk_add {m m' : BitVec 64} {q : Nat} (h : ∀ i, m.getLsbD i = true → q < i) (hm : ∀ i, m'.getLsbD i = true ↔ (m.getLsbD i = true ∨ i = q)) : ∀ i, rk m' i = if i ≤ q then 0 else rk m i + 1 := by
  intro i
  induction i with
  | zero => rw [if_pos (Nat.zero_le _)] <;> rfl
  | succ i ih =>
    show rk m' i + (if m'.getLsbD i = true then 1 else 0) = if i + 1 ≤ q then 0 else (rk m i + (if m.getLsbD i = true then 1 else 0)) + 1
    rw [ih]
    have z0 : rk m i ≤ i - (q + 1) := rk_lo (lo := q + 1) (fun j hj => h j hj) i
    rcases Nat.lt_trichotomy i q with z | z | z
    · have a : ¬ m'.getLsbD i = true := fun y => ((hm i).mp y).elim (fun y => by have := h i y; omega) (fun y => by omega)
      rw [if_pos (by omega), if_neg a, if_pos (by omega)]
    · have a : m'.getLsbD i = true := (hm i).mpr (Or.inr z)
      have b : ¬ m.getLsbD i = true := fun y => by have := h i y; omega
      rw [if_pos (by omega), if_pos a, if_neg (by omega), if_neg b]
      omega
    · rw [if_neg (show ¬ i ≤ q by omega), if_neg (show ¬ i + 1 ≤ q by omega)]
      by_cases y : m.getLsbD i = true
      · rw [if_pos ((hm i).mpr (Or.inl y)), if_pos y]
      · rw [if_neg (fun x => ((hm i).mp x).elim y (fun e => by omega)), if_neg y]
theorem GA.up {w m m' v v' : BitVec 64} {q : Nat} (g : GA w m v) (h : ∀ i, m.getLsbD i = true → q < i) (hm : ∀ i, m'.getLsbD i = true ↔ (m.getLsbD i = true ∨ i = q)) (hv : ∀ j, v'.getLsbD j = true ↔ ((j = 0 ∧ w.getLsbD q = true) ∨ ∃ k, j = k + 1 ∧ v.getLsbD k = true)) : GA w m' v' := fun j => by
  have R := rk_add h hm
  refine (hv j).trans ⟨?_, ?_⟩
  · rintro (⟨z, y⟩ | ⟨k, z, y⟩)
    · exact ⟨q, (hm q).mpr (Or.inr rfl), by rw [R, if_pos (Nat.le_refl _)]; exact z.symm, y⟩
    · obtain ⟨i, i1, i2, i3⟩ := (g k).mp y
      have := h i i1
      exact ⟨i, (hm i).mpr (Or.inl i1), by rw [R, if_neg (by omega)]; omega, i3⟩
  · rintro ⟨i, i1, i2, i3⟩
    rw [R] at i2
    rcases (hm i).mp i1 with y | y
    · have := h i y
      rw [if_neg (by omega)] at i2
      exact Or.inr ⟨rk m i, i2.symm, (g (rk m i)).mpr ⟨i, y, rfl, i3⟩⟩
    · subst y
      rw [if_pos (Nat.le_refl _)] at i2
      exact Or.inl ⟨i2.symm, i3⟩
theorem msk_s0 {f : Nat → Bool} {L i : Nat} (hi : i < L) (h : ¬ f i = true) : msk f L (i + 1) = msk f L i := by
  unfold msk
  have e : mkN f (i + 1) = 2 * mkN f i := by
    show 2 * mkN f i + (if f i = true then 1 else 0) = _
    rw [if_neg h] <;> rfl
  have e2 : 2 ^ (L - i) = 2 * 2 ^ (L - (i + 1)) := by
    rw [show L - i = (L - (i + 1)) + 1 by omega, Nat.pow_succ, Nat.mul_comm]
  rw [e, e2, Nat.mul_comm 2 (mkN f i), Nat.mul_assoc]
theorem GA.st {w : BitVec 64} {f : Nat → Bool} {L : Nat} : GA w (msk f L 0) 0#64 := fun j => ⟨fun h => (by rw [BitVec.getLsbD_zero] at h; cases h), fun q => by
  obtain ⟨i, h, -⟩ := q
  have e : msk f L 0 = 0#64 := by
    unfold msk
    show BitVec.ofNat 64 (0 * _) = _
    rw [Nat.zero_mul]
  rw [e, BitVec.getLsbD_zero] at h
  cases h⟩
theorem us_bv (x : Int64) {k : Nat} (hk : k < 64) : (us x (Int32.ofNat k)).toBitVec = x.toBitVec >>> k := by
  unfold us
  rw [sh_tab ⟨k, hk⟩]
  show (x.toUInt64 >>> UInt64.ofNat k).toBitVec = _
  rw [UInt64.toBitVec_shiftRight]
  have e2 : (UInt64.ofNat k).toBitVec % 64 = BitVec.ofNat 64 k := by
    apply BitVec.eq_of_toNat_eq
    simp
    omega
  rw [e2]
  show x.toBitVec >>> (BitVec.ofNat 64 k) = _
  rw [BitVec.ushiftRight_eq']
  congr 1
  simp
  omega
theorem sh1_bv (v : Int64) : (v <<< ((1 : Int32).toInt64 &&& 63)).toBitVec = v.toBitVec <<< 1 := by
  rw [show ((1 : Int32).toInt64 &&& 63) = 1 by decide, Int64.toBitVec_shiftLeft]
  rw [show (Int64.toBitVec 1).smod 64 = 1#64 by decide]
  rfl
theorem gf_v {v w : Int64} {n : Int32} (h0 : 0 ≤ n.toInt) (h1 : n.toInt < 64) (j : Nat) : ((v <<< ((1 : Int32).toInt64 &&& 63)) ||| ((w.toUInt64 >>> (n.toInt64.toUInt64 &&& Int64.toUInt64 63)).toInt64 &&& 1)).toBitVec.getLsbD j = true ↔ ((j = 0 ∧ w.toBitVec.getLsbD n.toNatClampNeg = true) ∨ ∃ k, j = k + 1 ∧ k < 63 ∧ v.toBitVec.getLsbD k = true) := by
  have a := i32_cl h0
  have en : n = Int32.ofNat n.toNatClampNeg := nI_o2 a.symm
  have e2 : ((w.toUInt64 >>> (n.toInt64.toUInt64 &&& Int64.toUInt64 63)).toInt64).toBitVec = w.toBitVec >>> n.toNatClampNeg := by
    have q := us_bv w (k := n.toNatClampNeg) (by omega)
    rw [← en] at q
    exact q
  have e3 : (Int64.toBitVec 1).getLsbD j = decide (0 = j) := by
    have q : Int64.toBitVec 1 = BitVec.twoPow 64 0 := by decide
    rw [q, BitVec.getLsbD_twoPow]
    rfl
  rw [Int64.toBitVec_or, Int64.toBitVec_and, sh1_bv, e2, BitVec.getLsbD_or, BitVec.getLsbD_and, e3, BitVec.getLsbD_shiftLeft, BitVec.getLsbD_ushiftRight]
  cases j with
  | zero =>
    rw [show (!decide (0 < 1)) = false from rfl, Bool.and_false, Bool.false_and, Bool.false_or, show decide (0 = 0) = true from rfl, Bool.and_true, Nat.add_zero]
    constructor
    · intro q; exact Or.inl ⟨rfl, q⟩
    · rintro (q | ⟨k, q, -⟩)
      · exact q.2
      · omega
  | succ k =>
    rw [show decide (0 = k + 1) = false from decide_eq_false (by omega), Bool.and_false, Bool.or_false, Bool.and_eq_true, Bool.and_eq_true, decide_eq_true_eq, show k + 1 - 1 = k from rfl]
    constructor
    · rintro ⟨⟨q1, -⟩, q2⟩
      exact Or.inr ⟨k, rfl, by omega, q2⟩
    · rintro (⟨q, -⟩ | ⟨k', q, q2, q3⟩)
      · omega
      · have q : k' = k := by omega
        subst q
        exact ⟨⟨by omega, by simp⟩, q3⟩
theorem GA.c1 {w v : Int64} {n : Int32} {f : Nat → Bool} {L i : Nat} (g : GA w.toBitVec (msk f L i) v.toBitVec) (hi : i < L) (hL : L ≤ 64) (h : f i = true) (hn : n.toInt = ((L - 1 - i : Nat) : Int)) : GA w.toBitVec (msk f L (i + 1)) ((v <<< ((1 : Int32).toInt64 &&& 63)) ||| ((w.toUInt64 >>> (n.toInt64.toUInt64 &&& Int64.toUInt64 63)).toInt64 &&& 1)).toBitVec := by
  have a := i32_cl (x := n) (by omega)
  have en : n.toNatClampNeg = L - 1 - i := by omega
  refine g.up (q := L - 1 - i) (fun j hj => ?_) (fun j => ?_) (fun j => ?_)
  · have := (msk_b (f := f) (i := i) (by omega) hL j).mp hj
    omega
  · rw [msk_b (f := f) (i := i + 1) (by omega) hL j, msk_b (f := f) (i := i) (by omega) hL j]
    constructor
    · rintro ⟨h1, h2, h3⟩
      by_cases z : j = L - 1 - i
      · exact Or.inr z
      · exact Or.inl ⟨by omega, h2, h3⟩
    · rintro (⟨h1, h2, h3⟩ | z)
      · exact ⟨by omega, h2, h3⟩
      · exact ⟨by omega, by omega, by rw [show L - 1 - j = i by omega]; exact h⟩
  · refine (gf_v (by omega) (by omega) j).trans ?_
    rw [en]
    constructor
    · rintro (z | ⟨k, z1, z2, z3⟩)
      · exact Or.inl z
      · exact Or.inr ⟨k, z1, z3⟩
    · rintro (z | ⟨k, z1, z3⟩)
      · exact Or.inl z
      · refine Or.inr ⟨k, z1, ?_, z3⟩
        obtain ⟨i', y1, y2, -⟩ := (g k).mp z3
        have y4 := rk_lo (lo := L - i) (fun j hj => ((msk_b (f := f) (i := i) (by omega) hL j).mp hj).1) i'
        have y5 := BitVec.lt_of_getLsbD y1
        omega

set_option maxHeartbeats 4000000 in
set_option maxRecDepth 100000 in
theorem c_kf_Loom_field_a (l : Launch) {dA : FieldType → ClassId} {D : va_G} {al : Nat → Nat} {ext : mv_Sh} {sk sv : Nat → Nat} (hi : mv_inj (mg dA D al ext)) (σ : mv_H) (hlt : l.stackTraces = false) (o9 c9 : Int32) (w9 : Int64) (k9 : Nat) (hC : LC ext σ 32 32768 512 k9) : mv_C l y_Loom_field (Cond.code y_Loom_field b_Loom_field 7 (Option.some Jvm.ClassFile.FieldType.long) :: ma) ({ frames := 6, cells := 1, slots := 6, locals := 81 }) (mg dA D al ext) (mKt sk sv) [.ref (al 0), .int o9, .int c9, .long w9] σ (mv_Tl (fun v σ1 => σ1 = σ ∧ ∃ m, MKq 32 σ o9 c9 m ∧ ¬ m = 0 ∧ GA w9.toBitVec m.toBitVec v.toBitVec) (fun X σ1 => X = "java/util/NoSuchElementException" ∧ σ1 = σ ∧ ∃ m, MKq 32 σ o9 c9 m ∧ m = 0)) := by
  refine mv_C.ofV (cc := b_Loom_field) (nL := 7) (ret := (Option.some Jvm.ClassFile.FieldType.long)) (by decide +kernel) rfl hi (Nat.le_of_ble_eq_true rfl) ?_
  intro p e s m below meth c B hNs hr hnm hno
  obtain ⟨hPP, hI, hR, hW, ⟨th, sl, hO, ho0, ho1, ho2⟩, hLS⟩ := hC
  obtain ⟨hT1, hT2, hT3, hT4, hT5, hT6, hT7, hT8⟩ := hO.1
  refine mv_aload_n (pc := 0) B d_Loom_field_0 rfl 0 rfl ?_
  refine mv_getR (pc := 1) (ci := 0) (C := R_Loom) (T := F_Loom) (N := 10) B 9 rfl rfl (by decide) i_Loom (B.2.2.2.1 _ k_495) rfl (hR.1 _ 9 _ rfl) d_Loom_field_1 ?_
  refine mv_getR (pc := 4) (ci := 9) (C := R_Machine) (T := F_Machine) (N := 13) B 0 rfl rfl (by decide) i_Machine (B.2.2.2.1 _ k_441) rfl hR.2.2 d_Loom_field_4 ?_
  refine mv_iload_n (pc := 7) B d_Loom_field_7 rfl 1 rfl ?_
  refine mv_iload_n (pc := 8) B d_Loom_field_8 rfl 2 rfl ?_
  refine mv_callVl (pc := 9) (n := 2) (ci := 7) (C := R_Program) B (mK_ok sk sv) hNs.1 rfl rfl (c_kf_Program_maskOf_a l hi _ _ _ hR.2.1 hT5 hT6 ho1) rfl (ma_goodc kc_Program_maskOf) (B.2.2.2.1 _ k_1747) (B.2.2.2.1 _ k_1748) (B.2.2.2.1 _ k_1749) (B.2.2.2.1 _ k_8) ⟨by decide +kernel, by decide +kernel, by decide +kernel⟩ rfl d_Loom_field_9 rfl (Nat.le_of_ble_eq_true rfl) ⟨by decide, by decide⟩ ⟨by decide, by decide⟩ ⟨by decide, by decide⟩ (mv_noH hno _) (fun v9 σ9 h9 => ?_)
  obtain ⟨e9, z9⟩ := h9
  have e9 := e9.symm
  subst e9
  refine mv_lstore (pc := 12) B d_Loom_field_12 (by decide) rfl ?_
  refine mv_lload (pc := 14) B d_Loom_field_14 0 rfl ?_
  refine mv_lconst (pc := 16) (v := 0) B d_Loom_field_16 (by decide) ?_
  refine mv_lcmp (pc := 17) B d_Loom_field_17 ?_
  refine mv_if_ne (pc := 18) (tgt := 29) B d_Loom_field_18 rfl (fun h18 => ?_) (fun h18 => ?_)
  · skip
    refine mv_lload_n (pc := 29) B d_Loom_field_29 rfl 4 rfl ?_
    refine mv_lload (pc := 30) B d_Loom_field_30 0 rfl ?_
    refine mv_callSl (pc := 32) (n := 2) B (mK_ok sk sv) hNs.1 (c_kf_Bits_gather l hi _ _ _) rfl (ma_goodc kc_Bits_gather) (B.2.2.2.1 _ k_1766) (B.2.2.2.1 _ k_1582) (B.2.2.2.1 _ k_33) ⟨by decide +kernel, by decide +kernel, by decide +kernel⟩ rfl d_Loom_field_32 rfl (Nat.le_of_ble_eq_true rfl) ⟨by decide, by decide⟩ ⟨by decide, by decide⟩ ⟨by decide, by decide⟩ (mv_noH hno _) (fun v32 σ32 h32 => ?_)
    exact mv_lret (pc := 35) B hr d_Loom_field_35 (Nat.le_of_ble_eq_true rfl) (Nat.le_of_ble_eq_true rfl) (Or.inl ⟨_, rfl, h32.1, v9, z9, lc_ne h18, h32.2⟩)
  · skip
    exact mv_throw0 (pc := 21) (ik := 131) (ic := 133) B hlt hNs.2.1 (X := "java/util/NoSuchElementException") (by decide +kernel) (B.2.2.2.1 _ k_1751) (B.2.2.2.1 _ k_36) (B.2.2.2.1 _ k_1752) rfl (fun s9 hv9 a9 b9 c9 d9 => have hm9 := mt_ma B.2.2.2.1 hv9; mt_w_nse hm9 (hm9 _ k_1760) a9 b9 c9 d9) d_Loom_field_21 d_Loom_field_24 d_Loom_field_25 d_Loom_field_28 (mv_noH hno _) ⟨by decide, by decide⟩ ⟨by decide, by decide⟩ ⟨by decide, by decide⟩ (fun a9 => Or.inr ⟨_, a9, rfl, rfl, rfl, v9, z9, lc_z h18⟩)
set_option maxHeartbeats 4000000 in
set_option maxRecDepth 100000 in
theorem c_kf_Loom_field_b (l : Launch) {dA : FieldType → ClassId} {D : va_G} {al : Nat → Nat} {ext : mv_Sh} {sk sv : Nat → Nat} (hi : mv_inj (mg dA D al ext)) (σ : mv_H) (hlt : l.stackTraces = false) (o9 c9 : Int32) (w9 : Int64) (k9 : Nat) (hC : LC ext σ 48 32768 512 k9) : mv_C l y_Loom_field (Cond.code y_Loom_field b_Loom_field 7 (Option.some Jvm.ClassFile.FieldType.long) :: ma) ({ frames := 6, cells := 1, slots := 6, locals := 81 }) (mg dA D al ext) (mKt sk sv) [.ref (al 0), .int o9, .int c9, .long w9] σ (mv_Tl (fun v σ1 => σ1 = σ ∧ ∃ m, MKq 48 σ o9 c9 m ∧ ¬ m = 0 ∧ GA w9.toBitVec m.toBitVec v.toBitVec) (fun X σ1 => X = "java/util/NoSuchElementException" ∧ σ1 = σ ∧ ∃ m, MKq 48 σ o9 c9 m ∧ m = 0)) := by
  refine mv_C.ofV (cc := b_Loom_field) (nL := 7) (ret := (Option.some Jvm.ClassFile.FieldType.long)) (by decide +kernel) rfl hi (Nat.le_of_ble_eq_true rfl) ?_
  intro p e s m below meth c B hNs hr hnm hno
  obtain ⟨hPP, hI, hR, hW, ⟨th, sl, hO, ho0, ho1, ho2⟩, hLS⟩ := hC
  obtain ⟨hT1, hT2, hT3, hT4, hT5, hT6, hT7, hT8⟩ := hO.1
  refine mv_aload_n (pc := 0) B d_Loom_field_0 rfl 0 rfl ?_
  refine mv_getR (pc := 1) (ci := 0) (C := R_Loom) (T := F_Loom) (N := 10) B 9 rfl rfl (by decide) i_Loom (B.2.2.2.1 _ k_495) rfl (hR.1 _ 9 _ rfl) d_Loom_field_1 ?_
  refine mv_getR (pc := 4) (ci := 9) (C := R_Machine) (T := F_Machine) (N := 13) B 0 rfl rfl (by decide) i_Machine (B.2.2.2.1 _ k_441) rfl hR.2.2 d_Loom_field_4 ?_
  refine mv_iload_n (pc := 7) B d_Loom_field_7 rfl 1 rfl ?_
  refine mv_iload_n (pc := 8) B d_Loom_field_8 rfl 2 rfl ?_
  refine mv_callVl (pc := 9) (n := 2) (ci := 7) (C := R_Program) B (mK_ok sk sv) hNs.1 rfl rfl (c_kf_Program_maskOf_b l hi _ _ _ hR.2.1 hT5 hT6 ho1) rfl (ma_goodc kc_Program_maskOf) (B.2.2.2.1 _ k_1747) (B.2.2.2.1 _ k_1748) (B.2.2.2.1 _ k_1749) (B.2.2.2.1 _ k_8) ⟨by decide +kernel, by decide +kernel, by decide +kernel⟩ rfl d_Loom_field_9 rfl (Nat.le_of_ble_eq_true rfl) ⟨by decide, by decide⟩ ⟨by decide, by decide⟩ ⟨by decide, by decide⟩ (mv_noH hno _) (fun v9 σ9 h9 => ?_)
  obtain ⟨e9, z9⟩ := h9
  have e9 := e9.symm
  subst e9
  refine mv_lstore (pc := 12) B d_Loom_field_12 (by decide) rfl ?_
  refine mv_lload (pc := 14) B d_Loom_field_14 0 rfl ?_
  refine mv_lconst (pc := 16) (v := 0) B d_Loom_field_16 (by decide) ?_
  refine mv_lcmp (pc := 17) B d_Loom_field_17 ?_
  refine mv_if_ne (pc := 18) (tgt := 29) B d_Loom_field_18 rfl (fun h18 => ?_) (fun h18 => ?_)
  · skip
    refine mv_lload_n (pc := 29) B d_Loom_field_29 rfl 4 rfl ?_
    refine mv_lload (pc := 30) B d_Loom_field_30 0 rfl ?_
    refine mv_callSl (pc := 32) (n := 2) B (mK_ok sk sv) hNs.1 (c_kf_Bits_gather l hi _ _ _) rfl (ma_goodc kc_Bits_gather) (B.2.2.2.1 _ k_1766) (B.2.2.2.1 _ k_1582) (B.2.2.2.1 _ k_33) ⟨by decide +kernel, by decide +kernel, by decide +kernel⟩ rfl d_Loom_field_32 rfl (Nat.le_of_ble_eq_true rfl) ⟨by decide, by decide⟩ ⟨by decide, by decide⟩ ⟨by decide, by decide⟩ (mv_noH hno _) (fun v32 σ32 h32 => ?_)
    exact mv_lret (pc := 35) B hr d_Loom_field_35 (Nat.le_of_ble_eq_true rfl) (Nat.le_of_ble_eq_true rfl) (Or.inl ⟨_, rfl, h32.1, v9, z9, lc_ne h18, h32.2⟩)
  · skip
    exact mv_throw0 (pc := 21) (ik := 131) (ic := 133) B hlt hNs.2.1 (X := "java/util/NoSuchElementException") (by decide +kernel) (B.2.2.2.1 _ k_1751) (B.2.2.2.1 _ k_36) (B.2.2.2.1 _ k_1752) rfl (fun s9 hv9 a9 b9 c9 d9 => have hm9 := mt_ma B.2.2.2.1 hv9; mt_w_nse hm9 (hm9 _ k_1760) a9 b9 c9 d9) d_Loom_field_21 d_Loom_field_24 d_Loom_field_25 d_Loom_field_28 (mv_noH hno _) ⟨by decide, by decide⟩ ⟨by decide, by decide⟩ ⟨by decide, by decide⟩ (fun a9 => Or.inr ⟨_, a9, rfl, rfl, rfl, v9, z9, lc_z h18⟩)
set_option maxHeartbeats 4000000 in
set_option maxRecDepth 100000 in
theorem c_kf_Loom_field_c (l : Launch) {dA : FieldType → ClassId} {D : va_G} {al : Nat → Nat} {sk sv : Nat → Nat} (hi : mv_inj (mg dA D al me)) (σ : mv_H) (hlt : l.stackTraces = false) (o9 c9 : Int32) (w9 : Int64) (k9 : Nat) (hC : LC me σ 145 8192 48 k9) : mv_C l y_Loom_field (Cond.code y_Loom_field b_Loom_field 7 (Option.some Jvm.ClassFile.FieldType.long) :: ma) ({ frames := 6, cells := 1, slots := 6, locals := 81 }) (mg dA D al me) (mKt sk sv) [.ref (al 0), .int o9, .int c9, .long w9] σ (mv_Tl (fun v σ1 => σ1 = σ ∧ ∃ m, MKq 145 σ o9 c9 m ∧ ¬ m = 0 ∧ GA w9.toBitVec m.toBitVec v.toBitVec) (fun X σ1 => X = "java/util/NoSuchElementException" ∧ σ1 = σ ∧ ∃ m, MKq 145 σ o9 c9 m ∧ m = 0)) := by
  refine mv_C.ofV (cc := b_Loom_field) (nL := 7) (ret := (Option.some Jvm.ClassFile.FieldType.long)) (by decide +kernel) rfl hi (Nat.le_of_ble_eq_true rfl) ?_
  intro p e s m below meth c B hNs hr hnm hno
  obtain ⟨hPP, hI, hR, hW, ⟨th, sl, hO, ho0, ho1, ho2⟩, hLS⟩ := hC
  obtain ⟨hT1, hT2, hT3, hT4, hT5, hT6, hT7, hT8⟩ := hO.1
  refine mv_aload_n (pc := 0) B d_Loom_field_0 rfl 0 rfl ?_
  refine mv_getR (pc := 1) (ci := 0) (C := R_Loom) (T := F_Loom) (N := 10) B 9 rfl rfl (by decide) i_Loom (B.2.2.2.1 _ k_495) rfl (hR.1 _ 9 _ rfl) d_Loom_field_1 ?_
  refine mv_getR (pc := 4) (ci := 9) (C := R_Machine) (T := F_Machine) (N := 13) B 0 rfl rfl (by decide) i_Machine (B.2.2.2.1 _ k_441) rfl hR.2.2 d_Loom_field_4 ?_
  refine mv_iload_n (pc := 7) B d_Loom_field_7 rfl 1 rfl ?_
  refine mv_iload_n (pc := 8) B d_Loom_field_8 rfl 2 rfl ?_
  refine mv_callVl (pc := 9) (n := 2) (ci := 7) (C := R_Program) B (mK_ok sk sv) hNs.1 rfl rfl (c_kf_Program_maskOf_c l hi _ _ _ hR.2.1 hT5 hT6 ho1) rfl (ma_goodc kc_Program_maskOf) (B.2.2.2.1 _ k_1747) (B.2.2.2.1 _ k_1748) (B.2.2.2.1 _ k_1749) (B.2.2.2.1 _ k_8) ⟨by decide +kernel, by decide +kernel, by decide +kernel⟩ rfl d_Loom_field_9 rfl (Nat.le_of_ble_eq_true rfl) ⟨by decide, by decide⟩ ⟨by decide, by decide⟩ ⟨by decide, by decide⟩ (mv_noH hno _) (fun v9 σ9 h9 => ?_)
  obtain ⟨e9, z9⟩ := h9
  have e9 := e9.symm
  subst e9
  refine mv_lstore (pc := 12) B d_Loom_field_12 (by decide) rfl ?_
  refine mv_lload (pc := 14) B d_Loom_field_14 0 rfl ?_
  refine mv_lconst (pc := 16) (v := 0) B d_Loom_field_16 (by decide) ?_
  refine mv_lcmp (pc := 17) B d_Loom_field_17 ?_
  refine mv_if_ne (pc := 18) (tgt := 29) B d_Loom_field_18 rfl (fun h18 => ?_) (fun h18 => ?_)
  · skip
    refine mv_lload_n (pc := 29) B d_Loom_field_29 rfl 4 rfl ?_
    refine mv_lload (pc := 30) B d_Loom_field_30 0 rfl ?_
    refine mv_callSl (pc := 32) (n := 2) B (mK_ok sk sv) hNs.1 (c_kf_Bits_gather l hi _ _ _) rfl (ma_goodc kc_Bits_gather) (B.2.2.2.1 _ k_1766) (B.2.2.2.1 _ k_1582) (B.2.2.2.1 _ k_33) ⟨by decide +kernel, by decide +kernel, by decide +kernel⟩ rfl d_Loom_field_32 rfl (Nat.le_of_ble_eq_true rfl) ⟨by decide, by decide⟩ ⟨by decide, by decide⟩ ⟨by decide, by decide⟩ (mv_noH hno _) (fun v32 σ32 h32 => ?_)
    exact mv_lret (pc := 35) B hr d_Loom_field_35 (Nat.le_of_ble_eq_true rfl) (Nat.le_of_ble_eq_true rfl) (Or.inl ⟨_, rfl, h32.1, v9, z9, lc_ne h18, h32.2⟩)
  · skip
    exact mv_throw0 (pc := 21) (ik := 131) (ic := 133) B hlt hNs.2.1 (X := "java/util/NoSuchElementException") (by decide +kernel) (B.2.2.2.1 _ k_1751) (B.2.2.2.1 _ k_36) (B.2.2.2.1 _ k_1752) rfl (fun s9 hv9 a9 b9 c9 d9 => have hm9 := mt_ma B.2.2.2.1 hv9; mt_w_nse hm9 (hm9 _ k_1760) a9 b9 c9 d9) d_Loom_field_21 d_Loom_field_24 d_Loom_field_25 d_Loom_field_28 (mv_noH hno _) ⟨by decide, by decide⟩ ⟨by decide, by decide⟩ ⟨by decide, by decide⟩ (fun a9 => Or.inr ⟨_, a9, rfl, rfl, rfl, v9, z9, lc_z h18⟩)
set_option maxHeartbeats 4000000 in
set_option maxRecDepth 100000 in
theorem c_kf_Book_hasField_x (l : Launch) {dA : FieldType → ClassId} {D : va_G} {al : Nat → Nat} {ext : mv_Sh} {sk sv : Nat → Nat} (hi : mv_inj (mg dA D al ext)) (σ : mv_H) (o9 c9 : Int32) (k : Nat) (hmr : mh (mv_r σ)) (hC : CO 74 k σ) (ho0 : 0 ≤ o9.toInt) (ho1 : o9.toInt < k) : mv_C l y_Book_hasField (Cond.code y_Book_hasField b_Book_hasField 4 (Option.some Jvm.ClassFile.FieldType.boolean) :: ma) ({ frames := 1, cells := 0, slots := 0, locals := 20 }) (mg dA D al ext) (mK sk sv) [.ref (al 74), .int o9, .int c9] σ (mv_Ri (fun v σ1 => σ1 = σ ∧ ((v = 1 ∧ HFq 74 σ o9 c9) ∨ (v = 0 ∧ ¬ HFq 74 σ o9 c9)))) := by
  refine mv_C.ofV (cc := b_Book_hasField) (nL := 4) (ret := (Option.some Jvm.ClassFile.FieldType.boolean)) (by decide +kernel) rfl hi (Nat.le_of_ble_eq_true rfl) ?_
  intro p e s m below meth c B hNs hr hnm hno
  obtain ⟨c1, c2, ⟨c3, c4⟩, c5⟩ := hC
  have ci : 0 ≤ (mv_a σ 84 o9.toNatClampNeg).toInt ∧ (mv_a σ 84 o9.toNatClampNeg).toInt + (mv_i σ 74 20).toInt ≤ 32768 := c5 o9.toNatClampNeg (by have := i32_cl ho0; omega)
  have lp : ∀ (nn : Nat) (i9 : Int32) (q0 : 0 ≤ i9.toInt) (hn : NSq (mv_a σ 87) (mv_a σ 84 o9.toNatClampNeg).toNatClampNeg c9 i9.toNatClampNeg), (20000 - i9.toInt).toNat < nn → mv_V p l e ({ frames := 1, cells := 0, slots := 0, locals := 20 }) s m ([.ref (al 74), .int o9, .int c9] : List Value).toArray below meth c (mg dA D al ext) 4 0 0 (mv_Q (mg dA D al ext) below s 0 0 (mv_Ri (fun v σ1 => σ1 = σ ∧ ((v = 1 ∧ HFq 74 σ o9 c9) ∨ (v = 0 ∧ ¬ HFq 74 σ o9 c9))))) σ 2 [(3, .int i9), (0, .ref (al 74)), (1, .int o9), (2, .int c9)] [] := by
    intro nn
    induction nn with
    | zero => intro i9 q0 hn hm; exact absurd hm (Nat.not_lt_zero _)
    | succ nn ih =>
      intro i9 q0 hn hm
      refine mv_iload_n (pc := 2) B d_Book_hasField_2 rfl 0 rfl ?_
      refine mv_aload_n (pc := 3) B d_Book_hasField_3 rfl 1 rfl ?_
      refine mv_getI (pc := 4) (ci := 12) (C := R_Book) (T := F_Book) (N := 65) B 20 rfl rfl (by decide) i_Book (B.2.2.2.1 _ k_1865) rfl d_Book_hasField_4 ?_
      refine mv_icmp_ge (pc := 7) (tgt := 48) B d_Book_hasField_7 rfl (fun h7 => ?_) (fun h7 => ?_)
      · skip
        rw [Int32.le_iff_toInt_le] at h7
        refine mv_iconst (pc := 48) (v := 0) B d_Book_hasField_48 (by decide) ?_
        exact mv_iret (pc := 49) B hr rfl d_Book_hasField_49 (Nat.le_refl _) (Nat.le_refl _) ⟨_, rfl, rfl, Or.inr ⟨rfl, fun q => by obtain ⟨q2, k9, q3, q4⟩ := q; exact hn q2 k9 (by have a9 := i32_cl q0; have b9 := i32_cl c3; omega) q4⟩⟩
      · skip
        rw [Int32.le_iff_toInt_le] at h7
        have w2 : (i9 + 1).toInt = i9.toInt + 1 := i32_inc (by omega)
        have hcd : ∀ y : Int32, y.toInt = (mv_a σ 84 o9.toNatClampNeg).toInt + i9.toInt → mv_a σ 87 y.toNatClampNeg = mv_a σ 87 ((mv_a σ 84 o9.toNatClampNeg).toNatClampNeg + i9.toNatClampNeg) := fun y fy => cd_at fy ci.1 q0
        refine mv_aload_n (pc := 10) B d_Book_hasField_10 rfl 1 rfl ?_
        refine mv_getR (pc := 11) (ci := 12) (C := R_Book) (T := F_Book) (N := 65) B 28 rfl rfl (by decide) i_Book (B.2.2.2.1 _ k_1873) rfl (hmr _ 28 _ rfl) d_Book_hasField_11 ?_
        refine mv_aload_n (pc := 14) B d_Book_hasField_14 rfl 1 rfl ?_
        refine mv_getR (pc := 15) (ci := 12) (C := R_Book) (T := F_Book) (N := 65) B 25 rfl rfl (by decide) i_Book (B.2.2.2.1 _ k_1870) rfl (hmr _ 25 _ rfl) d_Book_hasField_15 ?_
        refine mv_iload_n (pc := 18) B d_Book_hasField_18 rfl 2 rfl ?_
        refine mv_iald (pc := 19) B rfl (i32_in ho0 (show o9.toInt < 4100 by omega)) d_Book_hasField_19 ?_
        refine mv_iload_n (pc := 20) B d_Book_hasField_20 rfl 0 rfl ?_
        refine mv_iadd (pc := 21) B d_Book_hasField_21 ?_
        refine mv_topi (fun y21 ey21 => ?_)
        have fy21 := i32_addE ey21 (by (try simp only [Int32.reduceToInt]); omega) (by (try simp only [Int32.reduceToInt]); omega)
        try simp only [Int32.reduceToInt] at fy21
        refine mv_bald (pc := 22) B rfl (i32_in (show 0 ≤ y21.toInt by omega) (show y21.toInt < 32768 by omega)) d_Book_hasField_22 ?_
        refine mv_iload_n (pc := 23) B d_Book_hasField_23 rfl 3 rfl ?_
        refine mv_icmp_ne (pc := 24) (tgt := 42) B d_Book_hasField_24 rfl (fun h24 => ?_) (fun h24 => ?_)
        · skip
          refine mv_iinc (pc := 42) (j := 0) (v := 1) B d_Book_hasField_42 rfl (by decide) (by decide) rfl ?_
          refine mv_goto (pc := 45) (tgt := 2) B d_Book_hasField_45 rfl ?_
          refine mv_lpick [0, 1, 2, 3] rfl ?_
          exact ih _ (by omega) (NSq.s hn q0 (by omega) (by first | exact fun _ => by rw [← hcd _ fy21]; exact h24 | exact fun z => absurd z (lt_no9 (by rw [← z28]; exact h31)) | exact fun z => absurd z (lt_no95 h37))) (by omega)
        · skip
          refine mv_iload_n (pc := 27) B d_Book_hasField_27 rfl 3 rfl ?_
          refine mv_callSi (pc := 28) (n := 1) B (mK_ok sk sv) hNs (c_Book_letter l hi _ _) rfl (ma_goodc kc_Book_letter) (B.2.2.2.1 _ k_2126) (B.2.2.2.1 _ k_2127) (B.2.2.2.1 _ k_13) ⟨by decide +kernel, by decide +kernel, by decide +kernel⟩ rfl d_Book_hasField_28 rfl (Nat.le_of_ble_eq_true rfl) ⟨by decide, by decide⟩ ⟨by decide, by decide⟩ ⟨by decide, by decide⟩ (mv_noH hno _) (fun v28 σ28 h28 => ?_)
          obtain ⟨e28, z28, -⟩ := h28
          have e28 := e28.symm
          subst e28
          refine mv_if_eq (pc := 31) (tgt := 42) B d_Book_hasField_31 rfl (fun h31 => ?_) (fun h31 => ?_)
          · skip
            refine mv_iinc (pc := 42) (j := 0) (v := 1) B d_Book_hasField_42 rfl (by decide) (by decide) rfl ?_
            refine mv_goto (pc := 45) (tgt := 2) B d_Book_hasField_45 rfl ?_
            refine mv_lpick [0, 1, 2, 3] rfl ?_
            exact ih _ (by omega) (NSq.s hn q0 (by omega) (by first | exact fun _ => by rw [← hcd _ fy21]; exact h24 | exact fun z => absurd z (lt_no9 (by rw [← z28]; exact h31)) | exact fun z => absurd z (lt_no95 h37))) (by omega)
          · skip
            refine mv_iload_n (pc := 34) B d_Book_hasField_34 rfl 3 rfl ?_
            refine mv_bipush (pc := 35) (v := 95) B d_Book_hasField_35 (by decide) ?_
            refine mv_icmp_eq (pc := 37) (tgt := 42) B d_Book_hasField_37 rfl (fun h37 => ?_) (fun h37 => ?_)
            · skip
              refine mv_iinc (pc := 42) (j := 0) (v := 1) B d_Book_hasField_42 rfl (by decide) (by decide) rfl ?_
              refine mv_goto (pc := 45) (tgt := 2) B d_Book_hasField_45 rfl ?_
              refine mv_lpick [0, 1, 2, 3] rfl ?_
              exact ih _ (by omega) (NSq.s hn q0 (by omega) (by first | exact fun _ => by rw [← hcd _ fy21]; exact h24 | exact fun z => absurd z (lt_no9 (by rw [← z28]; exact h31)) | exact fun z => absurd z (lt_no95 h37))) (by omega)
            · skip
              refine mv_iconst (pc := 40) (v := 1) B d_Book_hasField_40 (by decide) ?_
              exact mv_iret (pc := 41) B hr rfl d_Book_hasField_41 (Nat.le_refl _) (Nat.le_refl _) ⟨_, rfl, rfl, Or.inl ⟨rfl, lt_of9 (by rw [← z28]; exact h31) h37, i9.toNatClampNeg, by have a9 := i32_cl q0; have b9 := i32_cl c3; omega, by rw [← hcd _ fy21]; exact h24⟩⟩
  refine mv_iconst (pc := 0) (v := 0) B d_Book_hasField_0 (by decide) ?_
  refine mv_istore_n (pc := 1) B d_Book_hasField_1 rfl (by decide) rfl ?_
  refine mv_lpick [0, 1, 2, 3] rfl ?_
  exact lp _ _ (by decide) (fun _ k9 hk9 => absurd hk9 (Nat.not_lt_zero _)) (Nat.lt_succ_self _)
set_option maxHeartbeats 4000000 in
set_option maxRecDepth 100000 in
theorem c_kf_Book_hasField_y (l : Launch) {dA : FieldType → ClassId} {D : va_G} {al : Nat → Nat} {ext : mv_Sh} {sk sv : Nat → Nat} (hi : mv_inj (mg dA D al ext)) (σ : mv_H) (o9 c9 : Int32) (k : Nat) (hmr : mh (mv_r σ)) (hC : CO 108 k σ) (ho0 : 0 ≤ o9.toInt) (ho1 : o9.toInt < k) : mv_C l y_Book_hasField (Cond.code y_Book_hasField b_Book_hasField 4 (Option.some Jvm.ClassFile.FieldType.boolean) :: ma) ({ frames := 1, cells := 0, slots := 0, locals := 20 }) (mg dA D al ext) (mK sk sv) [.ref (al 108), .int o9, .int c9] σ (mv_Ri (fun v σ1 => σ1 = σ ∧ ((v = 1 ∧ HFq 108 σ o9 c9) ∨ (v = 0 ∧ ¬ HFq 108 σ o9 c9)))) := by
  refine mv_C.ofV (cc := b_Book_hasField) (nL := 4) (ret := (Option.some Jvm.ClassFile.FieldType.boolean)) (by decide +kernel) rfl hi (Nat.le_of_ble_eq_true rfl) ?_
  intro p e s m below meth c B hNs hr hnm hno
  obtain ⟨c1, c2, ⟨c3, c4⟩, c5⟩ := hC
  have ci : 0 ≤ (mv_a σ 118 o9.toNatClampNeg).toInt ∧ (mv_a σ 118 o9.toNatClampNeg).toInt + (mv_i σ 108 20).toInt ≤ 32768 := c5 o9.toNatClampNeg (by have := i32_cl ho0; omega)
  have lp : ∀ (nn : Nat) (i9 : Int32) (q0 : 0 ≤ i9.toInt) (hn : NSq (mv_a σ 121) (mv_a σ 118 o9.toNatClampNeg).toNatClampNeg c9 i9.toNatClampNeg), (20000 - i9.toInt).toNat < nn → mv_V p l e ({ frames := 1, cells := 0, slots := 0, locals := 20 }) s m ([.ref (al 108), .int o9, .int c9] : List Value).toArray below meth c (mg dA D al ext) 4 0 0 (mv_Q (mg dA D al ext) below s 0 0 (mv_Ri (fun v σ1 => σ1 = σ ∧ ((v = 1 ∧ HFq 108 σ o9 c9) ∨ (v = 0 ∧ ¬ HFq 108 σ o9 c9))))) σ 2 [(3, .int i9), (0, .ref (al 108)), (1, .int o9), (2, .int c9)] [] := by
    intro nn
    induction nn with
    | zero => intro i9 q0 hn hm; exact absurd hm (Nat.not_lt_zero _)
    | succ nn ih =>
      intro i9 q0 hn hm
      refine mv_iload_n (pc := 2) B d_Book_hasField_2 rfl 0 rfl ?_
      refine mv_aload_n (pc := 3) B d_Book_hasField_3 rfl 1 rfl ?_
      refine mv_getI (pc := 4) (ci := 12) (C := R_Book) (T := F_Book) (N := 65) B 20 rfl rfl (by decide) i_Book (B.2.2.2.1 _ k_1865) rfl d_Book_hasField_4 ?_
      refine mv_icmp_ge (pc := 7) (tgt := 48) B d_Book_hasField_7 rfl (fun h7 => ?_) (fun h7 => ?_)
      · skip
        rw [Int32.le_iff_toInt_le] at h7
        refine mv_iconst (pc := 48) (v := 0) B d_Book_hasField_48 (by decide) ?_
        exact mv_iret (pc := 49) B hr rfl d_Book_hasField_49 (Nat.le_refl _) (Nat.le_refl _) ⟨_, rfl, rfl, Or.inr ⟨rfl, fun q => by obtain ⟨q2, k9, q3, q4⟩ := q; exact hn q2 k9 (by have a9 := i32_cl q0; have b9 := i32_cl c3; omega) q4⟩⟩
      · skip
        rw [Int32.le_iff_toInt_le] at h7
        have w2 : (i9 + 1).toInt = i9.toInt + 1 := i32_inc (by omega)
        have hcd : ∀ y : Int32, y.toInt = (mv_a σ 118 o9.toNatClampNeg).toInt + i9.toInt → mv_a σ 121 y.toNatClampNeg = mv_a σ 121 ((mv_a σ 118 o9.toNatClampNeg).toNatClampNeg + i9.toNatClampNeg) := fun y fy => cd_at fy ci.1 q0
        refine mv_aload_n (pc := 10) B d_Book_hasField_10 rfl 1 rfl ?_
        refine mv_getR (pc := 11) (ci := 12) (C := R_Book) (T := F_Book) (N := 65) B 28 rfl rfl (by decide) i_Book (B.2.2.2.1 _ k_1873) rfl (hmr _ 28 _ rfl) d_Book_hasField_11 ?_
        refine mv_aload_n (pc := 14) B d_Book_hasField_14 rfl 1 rfl ?_
        refine mv_getR (pc := 15) (ci := 12) (C := R_Book) (T := F_Book) (N := 65) B 25 rfl rfl (by decide) i_Book (B.2.2.2.1 _ k_1870) rfl (hmr _ 25 _ rfl) d_Book_hasField_15 ?_
        refine mv_iload_n (pc := 18) B d_Book_hasField_18 rfl 2 rfl ?_
        refine mv_iald (pc := 19) B rfl (i32_in ho0 (show o9.toInt < 4100 by omega)) d_Book_hasField_19 ?_
        refine mv_iload_n (pc := 20) B d_Book_hasField_20 rfl 0 rfl ?_
        refine mv_iadd (pc := 21) B d_Book_hasField_21 ?_
        refine mv_topi (fun y21 ey21 => ?_)
        have fy21 := i32_addE ey21 (by (try simp only [Int32.reduceToInt]); omega) (by (try simp only [Int32.reduceToInt]); omega)
        try simp only [Int32.reduceToInt] at fy21
        refine mv_bald (pc := 22) B rfl (i32_in (show 0 ≤ y21.toInt by omega) (show y21.toInt < 32768 by omega)) d_Book_hasField_22 ?_
        refine mv_iload_n (pc := 23) B d_Book_hasField_23 rfl 3 rfl ?_
        refine mv_icmp_ne (pc := 24) (tgt := 42) B d_Book_hasField_24 rfl (fun h24 => ?_) (fun h24 => ?_)
        · skip
          refine mv_iinc (pc := 42) (j := 0) (v := 1) B d_Book_hasField_42 rfl (by decide) (by decide) rfl ?_
          refine mv_goto (pc := 45) (tgt := 2) B d_Book_hasField_45 rfl ?_
          refine mv_lpick [0, 1, 2, 3] rfl ?_
          exact ih _ (by omega) (NSq.s hn q0 (by omega) (by first | exact fun _ => by rw [← hcd _ fy21]; exact h24 | exact fun z => absurd z (lt_no9 (by rw [← z28]; exact h31)) | exact fun z => absurd z (lt_no95 h37))) (by omega)
        · skip
          refine mv_iload_n (pc := 27) B d_Book_hasField_27 rfl 3 rfl ?_
          refine mv_callSi (pc := 28) (n := 1) B (mK_ok sk sv) hNs (c_Book_letter l hi _ _) rfl (ma_goodc kc_Book_letter) (B.2.2.2.1 _ k_2126) (B.2.2.2.1 _ k_2127) (B.2.2.2.1 _ k_13) ⟨by decide +kernel, by decide +kernel, by decide +kernel⟩ rfl d_Book_hasField_28 rfl (Nat.le_of_ble_eq_true rfl) ⟨by decide, by decide⟩ ⟨by decide, by decide⟩ ⟨by decide, by decide⟩ (mv_noH hno _) (fun v28 σ28 h28 => ?_)
          obtain ⟨e28, z28, -⟩ := h28
          have e28 := e28.symm
          subst e28
          refine mv_if_eq (pc := 31) (tgt := 42) B d_Book_hasField_31 rfl (fun h31 => ?_) (fun h31 => ?_)
          · skip
            refine mv_iinc (pc := 42) (j := 0) (v := 1) B d_Book_hasField_42 rfl (by decide) (by decide) rfl ?_
            refine mv_goto (pc := 45) (tgt := 2) B d_Book_hasField_45 rfl ?_
            refine mv_lpick [0, 1, 2, 3] rfl ?_
            exact ih _ (by omega) (NSq.s hn q0 (by omega) (by first | exact fun _ => by rw [← hcd _ fy21]; exact h24 | exact fun z => absurd z (lt_no9 (by rw [← z28]; exact h31)) | exact fun z => absurd z (lt_no95 h37))) (by omega)
          · skip
            refine mv_iload_n (pc := 34) B d_Book_hasField_34 rfl 3 rfl ?_
            refine mv_bipush (pc := 35) (v := 95) B d_Book_hasField_35 (by decide) ?_
            refine mv_icmp_eq (pc := 37) (tgt := 42) B d_Book_hasField_37 rfl (fun h37 => ?_) (fun h37 => ?_)
            · skip
              refine mv_iinc (pc := 42) (j := 0) (v := 1) B d_Book_hasField_42 rfl (by decide) (by decide) rfl ?_
              refine mv_goto (pc := 45) (tgt := 2) B d_Book_hasField_45 rfl ?_
              refine mv_lpick [0, 1, 2, 3] rfl ?_
              exact ih _ (by omega) (NSq.s hn q0 (by omega) (by first | exact fun _ => by rw [← hcd _ fy21]; exact h24 | exact fun z => absurd z (lt_no9 (by rw [← z28]; exact h31)) | exact fun z => absurd z (lt_no95 h37))) (by omega)
            · skip
              refine mv_iconst (pc := 40) (v := 1) B d_Book_hasField_40 (by decide) ?_
              exact mv_iret (pc := 41) B hr rfl d_Book_hasField_41 (Nat.le_refl _) (Nat.le_refl _) ⟨_, rfl, rfl, Or.inl ⟨rfl, lt_of9 (by rw [← z28]; exact h31) h37, i9.toNatClampNeg, by have a9 := i32_cl q0; have b9 := i32_cl c3; omega, by rw [← hcd _ fy21]; exact h24⟩⟩
  refine mv_iconst (pc := 0) (v := 0) B d_Book_hasField_0 (by decide) ?_
  refine mv_istore_n (pc := 1) B d_Book_hasField_1 rfl (by decide) rfl ?_
  refine mv_lpick [0, 1, 2, 3] rfl ?_
  exact lp _ _ (by decide) (fun _ k9 hk9 => absurd hk9 (Nat.not_lt_zero _)) (Nat.lt_succ_self _)
set_option maxHeartbeats 4000000 in
set_option maxRecDepth 100000 in
theorem c_kf_Book_field_x (l : Launch) {dA : FieldType → ClassId} {D : va_G} {al : Nat → Nat} {ext : mv_Sh} {sk sv : Nat → Nat} (hi : mv_inj (mg dA D al ext)) (σ : mv_H) (o9 c9 : Int32) (w9 : Int64) (k : Nat) (hmr : mh (mv_r σ)) (hC : CO 74 k σ) (ho0 : 0 ≤ o9.toInt) (ho1 : o9.toInt < k) : mv_C l y_Book_field (Cond.code y_Book_field b_Book_field 8 (Option.some Jvm.ClassFile.FieldType.long) :: ma) ({ frames := 0, cells := 0, slots := 0, locals := 0 }) (mg dA D al ext) (mK sk sv) [.ref (al 74), .int o9, .int c9, .long w9] σ (mv_Rl (fun v σ1 => σ1 = σ ∧ GA w9.toBitVec (msk (cdF (mv_a σ 87) (mv_a σ 84 o9.toNatClampNeg).toNatClampNeg c9) (mv_i σ 74 20).toNatClampNeg (mv_i σ 74 20).toNatClampNeg) v.toBitVec)) := by
  refine mv_C.ofV (cc := b_Book_field) (nL := 8) (ret := (Option.some Jvm.ClassFile.FieldType.long)) (by decide +kernel) rfl hi (Nat.le_of_ble_eq_true rfl) ?_
  intro p e s m below meth c B hNs hr hnm hno
  obtain ⟨c1, c2, ⟨c3, c4⟩, c5⟩ := hC
  have ci : 0 ≤ (mv_a σ 84 o9.toNatClampNeg).toInt ∧ (mv_a σ 84 o9.toNatClampNeg).toInt + (mv_i σ 74 20).toInt ≤ 32768 := c5 o9.toNatClampNeg (by have := i32_cl ho0; omega)
  have cl20 := i32_cl c3
  have lp : ∀ (nn : Nat) (i9 : Int32) (v9 : Int64) (q0 : 0 ≤ i9.toInt) (q1 : i9.toInt ≤ (mv_i σ 74 20).toInt) (hG : GA w9.toBitVec (msk (cdF (mv_a σ 87) (mv_a σ 84 o9.toNatClampNeg).toNatClampNeg c9) (mv_i σ 74 20).toNatClampNeg i9.toNatClampNeg) v9.toBitVec), (100 - i9.toInt).toNat < nn → mv_V p l e ({ frames := 0, cells := 0, slots := 0, locals := 0 }) s m ([.ref (al 74), .int o9, .int c9, .long w9] : List Value).toArray below meth c (mg dA D al ext) 8 0 0 (mv_Q (mg dA D al ext) below s 0 0 (mv_Rl (fun v σ1 => σ1 = σ ∧ GA w9.toBitVec (msk (cdF (mv_a σ 87) (mv_a σ 84 o9.toNatClampNeg).toNatClampNeg c9) (mv_i σ 74 20).toNatClampNeg (mv_i σ 74 20).toNatClampNeg) v.toBitVec))) σ 6 [(7, .int i9), (5, .long v9), (0, .ref (al 74)), (1, .int o9), (2, .int c9), (3, .long w9)] [] := by
    intro nn
    induction nn with
    | zero => intro i9 v9 q0 q1 hG hm; exact absurd hm (Nat.not_lt_zero _)
    | succ nn ih =>
      intro i9 v9 q0 q1 hG hm
      refine mv_iload (pc := 6) B d_Book_field_6 0 rfl ?_
      refine mv_aload_n (pc := 8) B d_Book_field_8 rfl 2 rfl ?_
      refine mv_getI (pc := 9) (ci := 12) (C := R_Book) (T := F_Book) (N := 65) B 20 rfl rfl (by decide) i_Book (B.2.2.2.1 _ k_1865) rfl d_Book_field_9 ?_
      refine mv_icmp_ge (pc := 12) (tgt := 59) B d_Book_field_12 rfl (fun h12 => ?_) (fun h12 => ?_)
      · skip
        rw [Int32.le_iff_toInt_le] at h12
        refine mv_lload (pc := 59) B d_Book_field_59 1 rfl ?_
        exact mv_lret (pc := 61) B hr d_Book_field_61 (Nat.le_refl _) (Nat.le_refl _) ⟨_, rfl, rfl, by have hx := hG; rw [cl_eq q1 h12] at hx; exact hx⟩
      · skip
        rw [Int32.le_iff_toInt_le] at h12
        have w2 : (i9 + 1).toInt = i9.toInt + 1 := i32_inc (by omega)
        have a9 := i32_cl q0
        have hci := cl_inc q0 (show i9.toInt < 2147483647 by omega)
        have hcd : ∀ y : Int32, y.toInt = (mv_a σ 84 o9.toNatClampNeg).toInt + i9.toInt → mv_a σ 87 y.toNatClampNeg = mv_a σ 87 ((mv_a σ 84 o9.toNatClampNeg).toNatClampNeg + i9.toNatClampNeg) := fun y fy => cd_at fy ci.1 q0
        refine mv_aload_n (pc := 15) B d_Book_field_15 rfl 2 rfl ?_
        refine mv_getR (pc := 16) (ci := 12) (C := R_Book) (T := F_Book) (N := 65) B 28 rfl rfl (by decide) i_Book (B.2.2.2.1 _ k_1873) rfl (hmr _ 28 _ rfl) d_Book_field_16 ?_
        refine mv_aload_n (pc := 19) B d_Book_field_19 rfl 2 rfl ?_
        refine mv_getR (pc := 20) (ci := 12) (C := R_Book) (T := F_Book) (N := 65) B 25 rfl rfl (by decide) i_Book (B.2.2.2.1 _ k_1870) rfl (hmr _ 25 _ rfl) d_Book_field_20 ?_
        refine mv_iload_n (pc := 23) B d_Book_field_23 rfl 3 rfl ?_
        refine mv_iald (pc := 24) B rfl (i32_in ho0 (show o9.toInt < 4100 by omega)) d_Book_field_24 ?_
        refine mv_iload (pc := 25) B d_Book_field_25 0 rfl ?_
        refine mv_iadd (pc := 27) B d_Book_field_27 ?_
        refine mv_topi (fun y27 ey27 => ?_)
        have fy27 := i32_addE ey27 (by (try simp only [Int32.reduceToInt]); omega) (by (try simp only [Int32.reduceToInt]); omega)
        try simp only [Int32.reduceToInt] at fy27
        refine mv_bald (pc := 28) B rfl (i32_in (show 0 ≤ y27.toInt by omega) (show y27.toInt < 32768 by omega)) d_Book_field_28 ?_
        refine mv_iload_n (pc := 29) B d_Book_field_29 rfl 4 rfl ?_
        refine mv_icmp_ne (pc := 30) (tgt := 53) B d_Book_field_30 rfl (fun h30 => ?_) (fun h30 => ?_)
        · skip
          refine mv_iinc (pc := 53) (j := 0) (v := 1) B d_Book_field_53 rfl (by decide) (by decide) rfl ?_
          refine mv_goto (pc := 56) (tgt := 6) B d_Book_field_56 rfl ?_
          refine mv_lpick [0, 1, 2, 3, 4, 5] rfl ?_
          exact ih _ _ (by omega) (by omega) (by rw [hci]; first | exact hG.c1 (by omega) (by omega) (decide_eq_true (by rw [← hcd _ fy27]; exact h30)) (by omega) | (rw [msk_s0 (f := (cdF (mv_a σ 87) (mv_a σ 84 o9.toNatClampNeg).toNatClampNeg c9)) (L := (mv_i σ 74 20).toNatClampNeg) (i := i9.toNatClampNeg) (by omega) (fun z => h30 (by rw [hcd _ fy27]; exact of_decide_eq_true z))]; exact hG)) (by omega)
        · skip
          refine mv_lload (pc := 33) B d_Book_field_33 1 rfl ?_
          refine mv_iconst (pc := 35) (v := 1) B d_Book_field_35 (by decide) ?_
          refine mv_lshl (pc := 36) B d_Book_field_36 ?_
          refine mv_lload_n (pc := 37) B d_Book_field_37 rfl 5 rfl ?_
          refine mv_aload_n (pc := 38) B d_Book_field_38 rfl 2 rfl ?_
          refine mv_getI (pc := 39) (ci := 12) (C := R_Book) (T := F_Book) (N := 65) B 20 rfl rfl (by decide) i_Book (B.2.2.2.1 _ k_1865) rfl d_Book_field_39 ?_
          refine mv_iconst (pc := 42) (v := 1) B d_Book_field_42 (by decide) ?_
          refine mv_isub (pc := 43) B d_Book_field_43 ?_
          refine mv_topi (fun y43 ey43 => ?_)
          have fy43 := i32_subE ey43 (by (try simp only [Int32.reduceToInt]); omega) (by (try simp only [Int32.reduceToInt]); omega)
          try simp only [Int32.reduceToInt] at fy43
          refine mv_iload (pc := 44) B d_Book_field_44 0 rfl ?_
          refine mv_isub (pc := 46) B d_Book_field_46 ?_
          refine mv_topi (fun y46 ey46 => ?_)
          have fy46 := i32_subE ey46 (by (try simp only [Int32.reduceToInt]); omega) (by (try simp only [Int32.reduceToInt]); omega)
          try simp only [Int32.reduceToInt] at fy46
          refine mv_lushr (pc := 47) B d_Book_field_47 ?_
          refine mv_lconst (pc := 48) (v := 1) B d_Book_field_48 (by decide) ?_
          refine mv_land (pc := 49) B d_Book_field_49 ?_
          refine mv_lor (pc := 50) B d_Book_field_50 ?_
          refine mv_lstore (pc := 51) B d_Book_field_51 (by decide) rfl ?_
          refine mv_iinc (pc := 53) (j := 1) (v := 1) B d_Book_field_53 rfl (by decide) (by decide) rfl ?_
          refine mv_goto (pc := 56) (tgt := 6) B d_Book_field_56 rfl ?_
          refine mv_lpick [0, 1, 2, 3, 4, 5] rfl ?_
          exact ih _ _ (by omega) (by omega) (by rw [hci]; first | exact hG.c1 (by omega) (by omega) (decide_eq_true (by rw [← hcd _ fy27]; exact h30)) (by omega) | (rw [msk_s0 (f := (cdF (mv_a σ 87) (mv_a σ 84 o9.toNatClampNeg).toNatClampNeg c9)) (L := (mv_i σ 74 20).toNatClampNeg) (i := i9.toNatClampNeg) (by omega) (fun z => h30 (by rw [hcd _ fy27]; exact of_decide_eq_true z))]; exact hG)) (by omega)
  refine mv_lconst (pc := 0) (v := 0) B d_Book_field_0 (by decide) ?_
  refine mv_lstore (pc := 1) B d_Book_field_1 (by decide) rfl ?_
  refine mv_iconst (pc := 3) (v := 0) B d_Book_field_3 (by decide) ?_
  refine mv_istore (pc := 4) B d_Book_field_4 (by decide) rfl ?_
  refine mv_lpick [0, 1, 2, 3, 4, 5] rfl ?_
  exact lp _ _ _ (by decide) c3 GA.st (Nat.lt_succ_self _)
set_option maxHeartbeats 4000000 in
set_option maxRecDepth 100000 in
theorem c_kf_Book_field_y (l : Launch) {dA : FieldType → ClassId} {D : va_G} {al : Nat → Nat} {ext : mv_Sh} {sk sv : Nat → Nat} (hi : mv_inj (mg dA D al ext)) (σ : mv_H) (o9 c9 : Int32) (w9 : Int64) (k : Nat) (hmr : mh (mv_r σ)) (hC : CO 108 k σ) (ho0 : 0 ≤ o9.toInt) (ho1 : o9.toInt < k) : mv_C l y_Book_field (Cond.code y_Book_field b_Book_field 8 (Option.some Jvm.ClassFile.FieldType.long) :: ma) ({ frames := 0, cells := 0, slots := 0, locals := 0 }) (mg dA D al ext) (mK sk sv) [.ref (al 108), .int o9, .int c9, .long w9] σ (mv_Rl (fun v σ1 => σ1 = σ ∧ GA w9.toBitVec (msk (cdF (mv_a σ 121) (mv_a σ 118 o9.toNatClampNeg).toNatClampNeg c9) (mv_i σ 108 20).toNatClampNeg (mv_i σ 108 20).toNatClampNeg) v.toBitVec)) := by
  refine mv_C.ofV (cc := b_Book_field) (nL := 8) (ret := (Option.some Jvm.ClassFile.FieldType.long)) (by decide +kernel) rfl hi (Nat.le_of_ble_eq_true rfl) ?_
  intro p e s m below meth c B hNs hr hnm hno
  obtain ⟨c1, c2, ⟨c3, c4⟩, c5⟩ := hC
  have ci : 0 ≤ (mv_a σ 118 o9.toNatClampNeg).toInt ∧ (mv_a σ 118 o9.toNatClampNeg).toInt + (mv_i σ 108 20).toInt ≤ 32768 := c5 o9.toNatClampNeg (by have := i32_cl ho0; omega)
  have cl20 := i32_cl c3
  have lp : ∀ (nn : Nat) (i9 : Int32) (v9 : Int64) (q0 : 0 ≤ i9.toInt) (q1 : i9.toInt ≤ (mv_i σ 108 20).toInt) (hG : GA w9.toBitVec (msk (cdF (mv_a σ 121) (mv_a σ 118 o9.toNatClampNeg).toNatClampNeg c9) (mv_i σ 108 20).toNatClampNeg i9.toNatClampNeg) v9.toBitVec), (100 - i9.toInt).toNat < nn → mv_V p l e ({ frames := 0, cells := 0, slots := 0, locals := 0 }) s m ([.ref (al 108), .int o9, .int c9, .long w9] : List Value).toArray below meth c (mg dA D al ext) 8 0 0 (mv_Q (mg dA D al ext) below s 0 0 (mv_Rl (fun v σ1 => σ1 = σ ∧ GA w9.toBitVec (msk (cdF (mv_a σ 121) (mv_a σ 118 o9.toNatClampNeg).toNatClampNeg c9) (mv_i σ 108 20).toNatClampNeg (mv_i σ 108 20).toNatClampNeg) v.toBitVec))) σ 6 [(7, .int i9), (5, .long v9), (0, .ref (al 108)), (1, .int o9), (2, .int c9), (3, .long w9)] [] := by
    intro nn
    induction nn with
    | zero => intro i9 v9 q0 q1 hG hm; exact absurd hm (Nat.not_lt_zero _)
    | succ nn ih =>
      intro i9 v9 q0 q1 hG hm
      refine mv_iload (pc := 6) B d_Book_field_6 0 rfl ?_
      refine mv_aload_n (pc := 8) B d_Book_field_8 rfl 2 rfl ?_
      refine mv_getI (pc := 9) (ci := 12) (C := R_Book) (T := F_Book) (N := 65) B 20 rfl rfl (by decide) i_Book (B.2.2.2.1 _ k_1865) rfl d_Book_field_9 ?_
      refine mv_icmp_ge (pc := 12) (tgt := 59) B d_Book_field_12 rfl (fun h12 => ?_) (fun h12 => ?_)
      · skip
        rw [Int32.le_iff_toInt_le] at h12
        refine mv_lload (pc := 59) B d_Book_field_59 1 rfl ?_
        exact mv_lret (pc := 61) B hr d_Book_field_61 (Nat.le_refl _) (Nat.le_refl _) ⟨_, rfl, rfl, by have hx := hG; rw [cl_eq q1 h12] at hx; exact hx⟩
      · skip
        rw [Int32.le_iff_toInt_le] at h12
        have w2 : (i9 + 1).toInt = i9.toInt + 1 := i32_inc (by omega)
        have a9 := i32_cl q0
        have hci := cl_inc q0 (show i9.toInt < 2147483647 by omega)
        have hcd : ∀ y : Int32, y.toInt = (mv_a σ 118 o9.toNatClampNeg).toInt + i9.toInt → mv_a σ 121 y.toNatClampNeg = mv_a σ 121 ((mv_a σ 118 o9.toNatClampNeg).toNatClampNeg + i9.toNatClampNeg) := fun y fy => cd_at fy ci.1 q0
        refine mv_aload_n (pc := 15) B d_Book_field_15 rfl 2 rfl ?_
        refine mv_getR (pc := 16) (ci := 12) (C := R_Book) (T := F_Book) (N := 65) B 28 rfl rfl (by decide) i_Book (B.2.2.2.1 _ k_1873) rfl (hmr _ 28 _ rfl) d_Book_field_16 ?_
        refine mv_aload_n (pc := 19) B d_Book_field_19 rfl 2 rfl ?_
        refine mv_getR (pc := 20) (ci := 12) (C := R_Book) (T := F_Book) (N := 65) B 25 rfl rfl (by decide) i_Book (B.2.2.2.1 _ k_1870) rfl (hmr _ 25 _ rfl) d_Book_field_20 ?_
        refine mv_iload_n (pc := 23) B d_Book_field_23 rfl 3 rfl ?_
        refine mv_iald (pc := 24) B rfl (i32_in ho0 (show o9.toInt < 4100 by omega)) d_Book_field_24 ?_
        refine mv_iload (pc := 25) B d_Book_field_25 0 rfl ?_
        refine mv_iadd (pc := 27) B d_Book_field_27 ?_
        refine mv_topi (fun y27 ey27 => ?_)
        have fy27 := i32_addE ey27 (by (try simp only [Int32.reduceToInt]); omega) (by (try simp only [Int32.reduceToInt]); omega)
        try simp only [Int32.reduceToInt] at fy27
        refine mv_bald (pc := 28) B rfl (i32_in (show 0 ≤ y27.toInt by omega) (show y27.toInt < 32768 by omega)) d_Book_field_28 ?_
        refine mv_iload_n (pc := 29) B d_Book_field_29 rfl 4 rfl ?_
        refine mv_icmp_ne (pc := 30) (tgt := 53) B d_Book_field_30 rfl (fun h30 => ?_) (fun h30 => ?_)
        · skip
          refine mv_iinc (pc := 53) (j := 0) (v := 1) B d_Book_field_53 rfl (by decide) (by decide) rfl ?_
          refine mv_goto (pc := 56) (tgt := 6) B d_Book_field_56 rfl ?_
          refine mv_lpick [0, 1, 2, 3, 4, 5] rfl ?_
          exact ih _ _ (by omega) (by omega) (by rw [hci]; first | exact hG.c1 (by omega) (by omega) (decide_eq_true (by rw [← hcd _ fy27]; exact h30)) (by omega) | (rw [msk_s0 (f := (cdF (mv_a σ 121) (mv_a σ 118 o9.toNatClampNeg).toNatClampNeg c9)) (L := (mv_i σ 108 20).toNatClampNeg) (i := i9.toNatClampNeg) (by omega) (fun z => h30 (by rw [hcd _ fy27]; exact of_decide_eq_true z))]; exact hG)) (by omega)
        · skip
          refine mv_lload (pc := 33) B d_Book_field_33 1 rfl ?_
          refine mv_iconst (pc := 35) (v := 1) B d_Book_field_35 (by decide) ?_
          refine mv_lshl (pc := 36) B d_Book_field_36 ?_
          refine mv_lload_n (pc := 37) B d_Book_field_37 rfl 5 rfl ?_
          refine mv_aload_n (pc := 38) B d_Book_field_38 rfl 2 rfl ?_
          refine mv_getI (pc := 39) (ci := 12) (C := R_Book) (T := F_Book) (N := 65) B 20 rfl rfl (by decide) i_Book (B.2.2.2.1 _ k_1865) rfl d_Book_field_39 ?_
          refine mv_iconst (pc := 42) (v := 1) B d_Book_field_42 (by decide) ?_
          refine mv_isub (pc := 43) B d_Book_field_43 ?_
          refine mv_topi (fun y43 ey43 => ?_)
          have fy43 := i32_subE ey43 (by (try simp only [Int32.reduceToInt]); omega) (by (try simp only [Int32.reduceToInt]); omega)
          try simp only [Int32.reduceToInt] at fy43
          refine mv_iload (pc := 44) B d_Book_field_44 0 rfl ?_
          refine mv_isub (pc := 46) B d_Book_field_46 ?_
          refine mv_topi (fun y46 ey46 => ?_)
          have fy46 := i32_subE ey46 (by (try simp only [Int32.reduceToInt]); omega) (by (try simp only [Int32.reduceToInt]); omega)
          try simp only [Int32.reduceToInt] at fy46
          refine mv_lushr (pc := 47) B d_Book_field_47 ?_
          refine mv_lconst (pc := 48) (v := 1) B d_Book_field_48 (by decide) ?_
          refine mv_land (pc := 49) B d_Book_field_49 ?_
          refine mv_lor (pc := 50) B d_Book_field_50 ?_
          refine mv_lstore (pc := 51) B d_Book_field_51 (by decide) rfl ?_
          refine mv_iinc (pc := 53) (j := 1) (v := 1) B d_Book_field_53 rfl (by decide) (by decide) rfl ?_
          refine mv_goto (pc := 56) (tgt := 6) B d_Book_field_56 rfl ?_
          refine mv_lpick [0, 1, 2, 3, 4, 5] rfl ?_
          exact ih _ _ (by omega) (by omega) (by rw [hci]; first | exact hG.c1 (by omega) (by omega) (decide_eq_true (by rw [← hcd _ fy27]; exact h30)) (by omega) | (rw [msk_s0 (f := (cdF (mv_a σ 121) (mv_a σ 118 o9.toNatClampNeg).toNatClampNeg c9)) (L := (mv_i σ 108 20).toNatClampNeg) (i := i9.toNatClampNeg) (by omega) (fun z => h30 (by rw [hcd _ fy27]; exact of_decide_eq_true z))]; exact hG)) (by omega)
  refine mv_lconst (pc := 0) (v := 0) B d_Book_field_0 (by decide) ?_
  refine mv_lstore (pc := 1) B d_Book_field_1 (by decide) rfl ?_
  refine mv_iconst (pc := 3) (v := 0) B d_Book_field_3 (by decide) ?_
  refine mv_istore (pc := 4) B d_Book_field_4 (by decide) rfl ?_
  refine mv_lpick [0, 1, 2, 3, 4, 5] rfl ?_
  exact lp _ _ _ (by decide) c3 GA.st (Nat.lt_succ_self _)
