/-! the low 32 bits -/
/-- v's low 32 bits are u -/
def LO (v : Int64) (u : Int32) : Prop := v.toBitVec.toNat % 4294967296 = u.toBitVec.toNat
theorem LO.z {v : Int64} {u : Int32} (h : LO v u) : ZE (v &&& mkI (nI 32)) u := ZE.mk h
theorem ZE.lo {v : Int64} {u : Int32} (h : ZE v u) : LO v u := by
  unfold LO
  rw [Nat.mod_eq_of_lt h.lt]
  exact h
theorem LO.t (v : Int64) : LO v v.toInt32 := (w32 v).symm
theorem LO.e {v : Int64} {u : Int32} (h : LO v u) : v.toInt32 = u := Int32.toBitVec_inj.mp (BitVec.eq_of_toNat_eq ((w32 v).trans h))
theorem LO.i {v : Int64} {u : Int32} (h : v.toBitVec.toInt = u.toBitVec.toInt) : LO v u := by
  have a := BitVec.toInt_eq_toNat_cond v.toBitVec
  have b := BitVec.toInt_eq_toNat_cond u.toBitVec
  have c := v.toBitVec.isLt
  have d := n32_lt u
  unfold LO
  rw [h] at a
  generalize u.toBitVec.toInt = z at a b
  generalize v.toBitVec.toNat = x at a c ⊢
  generalize u.toBitVec.toNat = y at b d ⊢
  split at a <;> split at b <;> omega
theorem LO.s (x : Int32) : LO x.toInt64 x := LO.i (by
  show x.toInt64.toInt = x.toInt
  rw [Int32.toInt_toInt64])
theorem LO.sub {v v' : Int64} {u u' : Int32} (h : LO v u) (g : LO v' u') : LO (v - v') (u - u') := by
  unfold LO at h g ⊢
  have a := v.toBitVec.isLt
  have b := v'.toBitVec.isLt
  have c := n32_lt u
  have d := n32_lt u'
  rw [Int64.toBitVec_sub, Int32.toBitVec_sub, BitVec.toNat_sub, BitVec.toNat_sub]
  generalize v.toBitVec.toNat = x at a h ⊢
  generalize v'.toBitVec.toNat = y at b g ⊢
  omega
theorem LO.mul {v v' : Int64} {u u' : Int32} (h : LO v u) (g : LO v' u') : LO (v * v') (u * u') := by
  unfold LO at h g ⊢
  rw [Int64.toBitVec_mul, Int32.toBitVec_mul, BitVec.toNat_mul, BitVec.toNat_mul, ← h, ← g]
  rw [Nat.mod_mod_of_dvd _ (show 4294967296 ∣ 2 ^ 64 by decide)]
  exact Nat.mul_mod _ _ _
theorem LO.neg {v : Int64} {u : Int32} (h : LO v u) : LO (-v) (-u) := by
  have e := LO.sub (v := 0) (u := 0) rfl h
  rw [Int64.zero_sub, Int32.zero_sub] at e
  exact e
theorem ZE.x {a : Int64} {x : Int32} (h : ZE a x) : x.toInt64 &&& (4294967295 : Int64) = a := by
  have e : x.toInt64 &&& (4294967295 : Int64) = x.toInt64 &&& mkI (nI 32) := by rw [show mkI (nI 32) = (4294967295 : Int64) by decide +kernel]
  rw [e]
  exact (LO.s x).z.inj h
theorem nJ_of {b : Int64} {n : Nat} (h : b.toBitVec.toNat = n) : b = nJ n := by rw [← h]; exact (nJ_bv b).symm
theorem sh_es : ∀ k : Fin 64, (((nJ k.val).toInt32).toInt64 &&& 63) = Int64.ofNat k.val := by decide +kernel
theorem sh_t64 : ∀ k : Fin 64, ((nI k.val).toInt64.toUInt64 &&& Int64.toUInt64 63) = UInt64.ofNat k.val := by decide +kernel
theorem nJ_t32 : ∀ k : Fin 64, (nJ k.val).toInt32 = nI k.val := by decide +kernel
theorem us64 (v : Int64) {n : Nat} (hn : n < 64) : ((v.toUInt64 >>> ((nI n).toInt64.toUInt64 &&& Int64.toUInt64 63)).toInt64).toBitVec.toNat = v.toBitVec.toNat / 2 ^ n := by
  rw [sh_t64 ⟨n, hn⟩]
  show (v.toUInt64 >>> UInt64.ofNat n).toBitVec.toNat = _
  rw [UInt64.toBitVec_shiftRight]
  have e2 : (UInt64.ofNat n).toBitVec % 64 = BitVec.ofNat 64 n := by
    have : ∀ k : Fin 64, (UInt64.ofNat k.val).toBitVec % 64 = BitVec.ofNat 64 k.val := by decide +kernel
    exact this ⟨n, hn⟩
  rw [e2, BitVec.ushiftRight_eq', BitVec.toNat_ofNat, Nat.mod_eq_of_lt (by omega), BitVec.toNat_ushiftRight, Nat.shiftRight_eq_div_pow]
  all_goals rfl
theorem and31n (y : Int32) : y &&& (31 : Int32) = nI (y.toBitVec.toNat % 32) := by
  apply Int32.toBitVec_inj.mp
  apply BitVec.eq_of_toNat_eq
  rw [Int32.toBitVec_and, BitVec.toNat_and, nI_tn (by omega)]
  exact Nat.and_two_pow_sub_one_eq_mod _ 5
section LO9
variable {a b : Int64} {x y : Int32}
theorem shl_z (h : ZE a x) (hb : b.toBitVec.toNat = y.toBitVec.toNat % 32) : ZE (u2 131 (nJ 32) a b) (x <<< ((y &&& (31 : Int32)) &&& 31)) := by
  have hn : y.toBitVec.toNat % 32 < 32 := Nat.mod_lt _ (by decide)
  rw [shl_v (by omega), and31n y, nJ_of hb, sh_es ⟨_, by omega⟩]
  refine LO.z ?_
  unfold LO
  rw [shl_b _ (by omega), shl32 x hn, BitVec.toNat_shiftLeft, Nat.shiftLeft_eq, show a.toBitVec.toNat = x.toBitVec.toNat from h]
  exact Nat.mod_mod_of_dvd _ (by decide)
theorem shr_z (h : ZE a x) (hb : b.toBitVec.toNat = y.toBitVec.toNat % 32) : ZE (u2 132 (nJ 32) a b) (((x).toUInt32 >>> (((y &&& (31 : Int32))).toUInt32 &&& Int32.toUInt32 31)).toInt32) := by
  have hn : y.toBitVec.toNat % 32 < 32 := Nat.mod_lt _ (by decide)
  rw [shr_v (by omega), and31n y, nJ_of hb, nJ_t32 ⟨_, by omega⟩]
  refine ZE.mk ?_
  rw [us64 a (by omega), us32 x hn, BitVec.toNat_ushiftRight, Nat.shiftRight_eq_div_pow, show a.toBitVec.toNat = x.toBitVec.toNat from h]
  exact Nat.mod_eq_of_lt (Nat.lt_of_le_of_lt (Nat.div_le_self _ _) (n32_lt x))
theorem sra_z (h : ZE a x) (hb : b.toBitVec.toNat = y.toBitVec.toNat % 32) : ZE (u2 216 (nJ 32) a b) (x >>> ((y &&& (31 : Int32)) &&& 31)) := by
  have hn : y.toBitVec.toNat % 32 < 32 := Nat.mod_lt _ (by decide)
  rw [sra_v h (by omega), and31n y, nJ_of hb, sh_es ⟨_, by omega⟩]
  refine LO.z (LO.i ?_)
  rw [sar_b _ (by omega), BitVec.toInt_sshiftRight, Int.shiftRight_eq_div_pow, sar_n x hn]
  show x.toInt64.toInt / _ = x.toInt / _
  rw [Int32.toInt_toInt64]
/-- one bit -/
theorem one_z (c : Bool) : ZE (oneI c) (if c = true then 1 else 0) := by cases c <;> rfl
theorem sx64 (h : ZE a x) : u1 310 (nJ 16416) a = x.toInt64 := by
  unfold u1
  rw [if_neg (by decide), if_neg (by decide), if_pos rfl, show (((64 : Int32) - (nJ 16416 &&& (255 : Int64)).toInt32).toInt64 &&& 63) = ((((64 : Int32) - nI 32)).toInt64 &&& 63) by decide +kernel, show ((nJ 16416 >>> ((8 : Int32).toInt64 &&& 63)).toInt32) = nI 64 by decide +kernel, sg32 h]
  apply Int64.toBitVec_inj.mp
  apply BitVec.eq_of_toNat_eq
  rw [and_w _ (by decide)]
  exact Nat.mod_eq_of_lt x.toInt64.toBitVec.isLt
theorem mul64 (p q : Int64) : u2 42 (nJ 64) p q = p * q := by
  rw [u2_v (by decide) (by decide) (tc_mul hZ p q (nI 64))]
  apply Int64.toBitVec_inj.mp
  apply BitVec.eq_of_toNat_eq
  rw [and_w _ (by decide)]
  exact Nat.mod_eq_of_lt (p * q).toBitVec.isLt
end LO9
theorem part_n {v : Int64} {lo wd : Nat} {m : Nat} (hl : lo < 64) (hw : wd ≤ 64) (e1 : ((nJ m &&& (255 : Int64)).toInt32) = nI lo) (e2 : ((nJ m >>> ((8 : Int32).toInt64 &&& 63)).toInt32) = nI wd) : (u1 308 (nJ m) v).toBitVec.toNat = v.toBitVec.toNat / 2 ^ lo % 2 ^ wd := by
  unfold u1
  rw [if_neg (by decide), if_pos rfl, e1, e2, and_w _ hw, us64 v hl]
/-- the upper half of a product -/
theorem hi_z (v : Int64) : ZE (u1 308 (nJ 8224) v) ((((v).toUInt64 >>> (((32 : Int32)).toInt64.toUInt64 &&& Int64.toUInt64 63)).toInt64).toInt32) := by
  unfold ZE
  rw [part_n (lo := 32) (wd := 32) (by decide) (by decide) (by decide +kernel) (by decide +kernel), w32]
  have e := us64 v (n := 32) (by decide)
  rw [show ((((v).toUInt64 >>> (((32 : Int32)).toInt64.toUInt64 &&& Int64.toUInt64 63)).toInt64)).toBitVec.toNat = v.toBitVec.toNat / 2 ^ 32 from e]
theorem hs_z (v : Int64) : ZE (u1 308 (nJ 8224) v) ((v >>> (((32 : Int32)).toInt64 &&& 63)).toInt32) := by
  unfold ZE
  rw [part_n (lo := 32) (wd := 32) (by decide) (by decide) (by decide +kernel) (by decide +kernel), w32, show (((32 : Int32)).toInt64 &&& 63) = Int64.ofNat 32 by decide +kernel, sar_b v (by decide)]
  have a := BitVec.toInt_eq_toNat_cond v.toBitVec
  have b := BitVec.toInt_eq_toNat_cond (v.toBitVec.sshiftRight 32)
  have c := v.toBitVec.isLt
  have d := (v.toBitVec.sshiftRight 32).isLt
  have e : (v.toBitVec.sshiftRight 32).toInt = v.toBitVec.toInt / 4294967296 := by
    rw [BitVec.toInt_sshiftRight, Int.shiftRight_eq_div_pow]
    all_goals rfl
  rw [e] at b
  generalize (v.toBitVec.sshiftRight 32).toNat = y at b d ⊢
  generalize v.toBitVec.toInt = z at a b
  generalize v.toBitVec.toNat = x at a c ⊢
  rw [show (2 : Nat) ^ 32 = 4294967296 from rfl]
  split at a <;> split at b <;> omega
/-- without sign: less -/
theorem less_v (h : mv_H) (x y : Int32) : f_Model_less h x y = some (if x.toBitVec.toNat < y.toBitVec.toNat then 1 else 0, h) := by
  have f : ∀ z : Int32, (z + (-2147483648 : Int32)).toInt = (z.toBitVec.toNat : Int) - 2147483648 := fun z => by
    have a := BitVec.toInt_eq_toNat_cond (z + (-2147483648 : Int32)).toBitVec
    have b : (z + (-2147483648 : Int32)).toBitVec.toNat = (z.toBitVec.toNat + 2147483648) % 4294967296 := by
      rw [Int32.toBitVec_add, BitVec.toNat_add]
      rfl
    have c := n32_lt z
    show (z + (-2147483648 : Int32)).toBitVec.toInt = _
    rw [a, b]
    generalize z.toBitVec.toNat = x at c ⊢
    split <;> omega
  unfold f_Model_less
  by_cases c : x.toBitVec.toNat < y.toBitVec.toNat
  · rw [if_pos c, if_neg (fun q => by rw [Int32.le_iff_toInt_le, f, f] at q; omega)]
    rfl
  · rw [if_neg c, if_pos (by rw [Int32.le_iff_toInt_le, f, f]; omega)]
    rfl
