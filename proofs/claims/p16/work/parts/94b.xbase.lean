/-! exact runs: values and rows of memory as naturals -/
def nJ (n : Nat) : Int64 := Int64.ofNat n
theorem xI_eq {x y : Nat} (h : x % 4294967296 = y % 4294967296) : nI x = nI y := by
  apply Int32.toBitVec_inj.mp
  show BitVec.ofNat 32 x = BitVec.ofNat 32 y
  apply BitVec.eq_of_toNat_eq
  rw [BitVec.toNat_ofNat, BitVec.toNat_ofNat]
  exact h
theorem xI_inj {x y : Nat} (h : nI x = nI y) : x % 4294967296 = y % 4294967296 := by
  have h1 : BitVec.ofNat 32 x = BitVec.ofNat 32 y := congrArg Int32.toBitVec h
  have h2 := congrArg BitVec.toNat h1
  rw [BitVec.toNat_ofNat, BitVec.toNat_ofNat] at h2
  exact h2
theorem xJ_eq {x y : Nat} (h : x % 18446744073709551616 = y % 18446744073709551616) : nJ x = nJ y := by
  apply Int64.toBitVec_inj.mp
  show BitVec.ofNat 64 x = BitVec.ofNat 64 y
  apply BitVec.eq_of_toNat_eq
  rw [BitVec.toNat_ofNat, BitVec.toNat_ofNat]
  exact h
def xadd (x y : Nat) : Nat := (x + y) % 4294967296
def xsub (x y : Nat) : Nat := (x + (4294967296 - y % 4294967296)) % 4294967296
def xmul (x y : Nat) : Nat := (x * y) % 4294967296
theorem bvI (x : Nat) : (nI x).toBitVec = BitVec.ofNat 32 x := rfl
theorem bvJ (x : Nat) : (nJ x).toBitVec = BitVec.ofNat 64 x := rfl
theorem xI_add (x y : Nat) : nI x + nI y = nI (xadd x y) := by
  apply Int32.toBitVec_inj.mp
  rw [Int32.toBitVec_add, bvI, bvI, bvI]
  apply BitVec.eq_of_toNat_eq
  simp only [BitVec.toNat_add, BitVec.toNat_ofNat, xadd]
  omega
theorem xI_sub (x y : Nat) : nI x - nI y = nI (xsub x y) := by
  apply Int32.toBitVec_inj.mp
  rw [Int32.toBitVec_sub, bvI, bvI, bvI]
  apply BitVec.eq_of_toNat_eq
  simp only [BitVec.toNat_sub, BitVec.toNat_ofNat, xsub]
  omega
theorem xI_mul (x y : Nat) : nI x * nI y = nI (xmul x y) := by
  apply Int32.toBitVec_inj.mp
  rw [Int32.toBitVec_mul, bvI, bvI, bvI]
  apply BitVec.eq_of_toNat_eq
  simp only [BitVec.toNat_mul, BitVec.toNat_ofNat, xmul]
  rw [Nat.mod_mod, ← Nat.mul_mod]
theorem xI_and (x y : Nat) : nI x &&& nI y = nI (x &&& y) := by
  apply Int32.toBitVec_inj.mp
  rw [Int32.toBitVec_and, bvI, bvI, bvI]
  exact (BitVec.ofNat_and).symm
def yadd (x y : Nat) : Nat := (x + y) % 18446744073709551616
def ysub (x y : Nat) : Nat := (x + (18446744073709551616 - y % 18446744073709551616)) % 18446744073709551616
def ymul (x y : Nat) : Nat := (x * y) % 18446744073709551616
def yneg (x : Nat) : Nat := (18446744073709551616 - x % 18446744073709551616) % 18446744073709551616
theorem xJ_add (x y : Nat) : nJ x + nJ y = nJ (yadd x y) := by
  apply Int64.toBitVec_inj.mp
  rw [Int64.toBitVec_add, bvJ, bvJ, bvJ]
  apply BitVec.eq_of_toNat_eq
  simp only [BitVec.toNat_add, BitVec.toNat_ofNat, yadd]
  omega
theorem xJ_sub (x y : Nat) : nJ x - nJ y = nJ (ysub x y) := by
  apply Int64.toBitVec_inj.mp
  rw [Int64.toBitVec_sub, bvJ, bvJ, bvJ]
  apply BitVec.eq_of_toNat_eq
  simp only [BitVec.toNat_sub, BitVec.toNat_ofNat, ysub]
  omega
theorem xJ_mul (x y : Nat) : nJ x * nJ y = nJ (ymul x y) := by
  apply Int64.toBitVec_inj.mp
  rw [Int64.toBitVec_mul, bvJ, bvJ, bvJ]
  apply BitVec.eq_of_toNat_eq
  simp only [BitVec.toNat_mul, BitVec.toNat_ofNat, ymul]
  rw [Nat.mod_mod, ← Nat.mul_mod]
theorem xJ_neg (x : Nat) : -nJ x = nJ (yneg x) := by
  apply Int64.toBitVec_inj.mp
  rw [Int64.toBitVec_neg, bvJ, bvJ]
  apply BitVec.eq_of_toNat_eq
  simp only [BitVec.toNat_neg, BitVec.toNat_ofNat, yneg]
  omega
theorem xJ_and (x y : Nat) : nJ x &&& nJ y = nJ (x &&& y) := by
  apply Int64.toBitVec_inj.mp
  rw [Int64.toBitVec_and, bvJ, bvJ, bvJ]
  exact (BitVec.ofNat_and).symm
theorem xJ_or (x y : Nat) : nJ x ||| nJ y = nJ (x ||| y) := by
  apply Int64.toBitVec_inj.mp
  rw [Int64.toBitVec_or, bvJ, bvJ, bvJ]
  exact (BitVec.ofNat_or).symm
theorem xJ_xor (x y : Nat) : nJ x ^^^ nJ y = nJ (x ^^^ y) := by
  apply Int64.toBitVec_inj.mp
  rw [Int64.toBitVec_xor, bvJ, bvJ, bvJ]
  exact (BitVec.ofNat_xor).symm
/-- a long of an int -/
def xi2l (x : Nat) : Nat := bif Nat.blt (x % 4294967296) 2147483648 then x % 4294967296 else x % 4294967296 + 18446744069414584320
def xi2b (x : Nat) : Nat := bif Nat.blt (x % 256) 128 then x % 256 else x % 256 + 4294967040
def xs (x : Nat) : Nat := (x + 2147483648) % 4294967296
def ys (x : Nat) : Nat := (x + 9223372036854775808) % 18446744073709551616
def xlt (x y : Nat) : Bool := Nat.blt (xs x) (xs y)
def xeq (x y : Nat) : Bool := Nat.beq (x % 4294967296) (y % 4294967296)
theorem xI_int (x : Nat) : (nI x).toInt = (xs x : Int) - 2147483648 := by
  have h : (nI x).toInt = (BitVec.ofNat 32 x).toInt := rfl
  rw [h, BitVec.toInt_eq_toNat_cond, BitVec.toNat_ofNat]
  unfold xs
  split <;> omega
theorem xJ_int (x : Nat) : (nJ x).toInt = (ys x : Int) - 9223372036854775808 := by
  have h : (nJ x).toInt = (BitVec.ofNat 64 x).toInt := rfl
  rw [h, BitVec.toInt_eq_toNat_cond, BitVec.toNat_ofNat]
  unfold ys
  split <;> omega
theorem xlt_i {x y : Nat} : xlt x y = true ↔ nI x < nI y := by
  rw [Int32.lt_iff_toInt_lt, xI_int, xI_int]
  unfold xlt
  rw [Nat.blt_eq]
  omega
theorem xle_i {x y : Nat} : xlt y x = false ↔ nI x ≤ nI y := by
  rw [← Int32.not_lt, ← xlt_i]
  simp
theorem xeq_i {x y : Nat} : xeq x y = true ↔ nI x = nI y := by
  unfold xeq
  rw [Nat.beq_eq]
  exact ⟨xI_eq, xI_inj⟩
section XB
variable {α : Type} {A B : Option α} {r : Option α} {x y : Nat}
theorem bt {c : Bool} (h : c = true) (hf : (bif c then A else B) = r) : A = r := by rw [h] at hf; exact hf
theorem bf {c : Bool} (h : c = false) (hf : (bif c then A else B) = r) : B = r := by rw [h] at hf; exact hf
theorem x_eq_t (h : nI x = nI y) (hf : (bif xeq x y then A else B) = r) : A = r := bt (xeq_i.mpr h) hf
theorem x_eq_f (h : ¬ nI x = nI y) (hf : (bif xeq x y then A else B) = r) : B = r := bf (Bool.eq_false_iff.mpr (fun q => h (xeq_i.mp q))) hf
theorem x_lt_t (h : nI x < nI y) (hf : (bif xlt x y then A else B) = r) : A = r := bt (xlt_i.mpr h) hf
theorem x_lt_f (h : ¬ nI x < nI y) (hf : (bif xlt x y then A else B) = r) : B = r := bf (Bool.eq_false_iff.mpr (fun q => h (xlt_i.mp q))) hf
/-- x ≤ y as not y < x -/
theorem x_le_t (h : nI x ≤ nI y) (hf : (bif xlt y x then B else A) = r) : A = r := bf (xle_i.mpr h) hf
theorem x_le_f (h : ¬ nI x ≤ nI y) (hf : (bif xlt y x then B else A) = r) : B = r := bt (xlt_i.mpr (Int32.not_le.mp h)) hf
theorem x_sw_t {a : Int} {y : Nat} (ha : (nI y).toInt = a) (h : (nI x).toInt = a) (hf : (bif xeq x y then A else B) = r) : A = r := x_eq_t (Int32.toInt_inj.mp (h.trans ha.symm)) hf
theorem x_sw_f {a : Int} {y : Nat} (ha : (nI y).toInt = a) (h : ¬ (nI x).toInt = a) (hf : (bif xeq x y then A else B) = r) : B = r := x_eq_f (fun q => h (by rw [q]; exact ha)) hf
end XB
theorem xI_l (x : Nat) : (nI x).toInt64 = nJ (xi2l x) := by
  apply Int64.toInt_inj.mp
  rw [Int32.toInt_toInt64, xI_int, xJ_int]
  unfold xs ys xi2l
  cases h : Nat.blt (x % 4294967296) 2147483648
  · have h2 : ¬ x % 4294967296 < 2147483648 := fun q => by rw [Nat.blt_eq.mpr q] at h; cases h
    simp only [cond_false]
    omega
  · have h2 := Nat.blt_eq.mp h
    simp only [cond_true]
    omega
theorem xJ_i (x : Nat) : (nJ x).toInt32 = nI (x % 4294967296) := by
  apply Int32.toBitVec_inj.mp
  rw [bvI]
  have h : ((nJ x).toInt32).toBitVec = (nJ x).toBitVec.signExtend 32 := rfl
  rw [h, bvJ]
  apply BitVec.eq_of_toNat_eq
  rw [BitVec.signExtend_eq_setWidth_of_le _ (by decide), BitVec.toNat_setWidth, BitVec.toNat_ofNat, BitVec.toNat_ofNat]
  omega
theorem xI_b (x : Nat) : (nI x).toInt8.toInt32 = nI (xi2b x) := by
  apply Int32.toInt_inj.mp
  rw [Int8.toInt_toInt32]
  have h : ((nI x).toInt8).toBitVec = (nI x).toBitVec.signExtend 8 := rfl
  have h1 : ((nI x).toInt8).toInt = (((nI x).toInt8).toBitVec).toInt := rfl
  rw [h1, h, bvI, BitVec.signExtend_eq_setWidth_of_le _ (by decide), BitVec.toInt_eq_toNat_cond, BitVec.toNat_setWidth, BitVec.toNat_ofNat, xI_int]
  unfold xs xi2b
  cases h : Nat.blt (x % 256) 128
  · have h2 : ¬ x % 256 < 128 := fun q => by rw [Nat.blt_eq.mpr q] at h; cases h
    simp only [cond_false]
    split <;> omega
  · have h2 := Nat.blt_eq.mp h
    simp only [cond_true]
    split <;> omega
def ycmp (x y : Nat) : Nat := bif Nat.blt (ys y) (ys x) then 1 else bif Nat.beq (ys x) (ys y) then 0 else 4294967295
theorem xJ_cmp (x y : Nat) : lg_cmp (nJ x) (nJ y) = nI (ycmp x y) := by
  unfold lg_cmp ycmp
  simp only [gt_iff_lt, Int64.lt_iff_toInt_lt, ← Int64.toInt_inj, xJ_int]
  cases h : Nat.blt (ys y) (ys x)
  · have h2 : ¬ ys y < ys x := fun q => by rw [Nat.blt_eq.mpr q] at h; cases h
    rw [if_neg (by omega)]
    cases h3 : Nat.beq (ys x) (ys y)
    · have h4 := Nat.ne_of_beq_eq_false h3
      rw [if_neg (by omega)]
      simp only [cond_false]
      decide
    · have h4 := Nat.eq_of_beq_eq_true h3
      rw [if_pos (by omega)]
      simp only [cond_false, cond_true]
      decide
  · have h2 := Nat.blt_eq.mp h
    rw [if_pos (by omega)]
    simp only [cond_true]
    decide
def yshl (x y : Nat) : Nat := (x <<< (y % 64)) % 18446744073709551616
def yshr (x y : Nat) : Nat := (x % 18446744073709551616) >>> (y % 64)
theorem y63 (y : Nat) : ((nI y).toInt64 &&& 63) = nJ (y % 64) := by
  rw [xI_l]
  have e : (63 : Int64) = nJ 63 := by decide
  rw [e, xJ_and]
  apply xJ_eq
  have h : ∀ z : Nat, z &&& 63 = z % 64 := fun z => Nat.and_two_pow_sub_one_eq_mod z 6
  rw [h]
  unfold xi2l
  cases Nat.blt (y % 4294967296) 2147483648 <;> simp only [cond_true, cond_false] <;> omega
theorem xJ_shl (x y : Nat) : nJ x <<< ((nI y).toInt64 &&& 63) = nJ (yshl x y) := by
  rw [y63]
  apply Int64.toBitVec_inj.mp
  rw [Int64.toBitVec_shiftLeft, bvJ, bvJ, bvJ]
  apply BitVec.eq_of_toNat_eq
  have h : (BitVec.ofNat 64 (y % 64)).smod 64 = BitVec.ofNat 64 (y % 64) := by
    have h1 : ∀ z : Fin 64, (BitVec.ofNat 64 z.val).smod 64 = BitVec.ofNat 64 z.val := by decide
    exact h1 ⟨y % 64, by omega⟩
  rw [h]
  rw [BitVec.shiftLeft_eq', BitVec.toNat_shiftLeft, BitVec.toNat_ofNat, BitVec.toNat_ofNat, BitVec.toNat_ofNat]
  unfold yshl
  rw [Nat.mod_eq_of_lt (show y % 64 < 2 ^ 64 by omega), Nat.mod_mod, Nat.shiftLeft_eq, Nat.shiftLeft_eq, Nat.mod_mul_mod]
theorem xJ_shr (x y : Nat) : ((nJ x).toUInt64 >>> ((nI y).toInt64.toUInt64 &&& Int64.toUInt64 63)).toInt64 = nJ (yshr x y) := by
  have e1 : ((nI y).toInt64.toUInt64 &&& Int64.toUInt64 63) = ((nI y).toInt64 &&& 63).toUInt64 := rfl
  rw [e1, y63]
  apply Int64.toBitVec_inj.mp
  rw [bvJ]
  show ((nJ x).toUInt64 >>> (nJ (y % 64)).toUInt64).toBitVec = _
  rw [UInt64.toBitVec_shiftRight]
  show (BitVec.ofNat 64 x) >>> ((BitVec.ofNat 64 (y % 64)) % 64) = _
  apply BitVec.eq_of_toNat_eq
  rw [BitVec.ushiftRight_eq', BitVec.toNat_ushiftRight, BitVec.toNat_umod, BitVec.toNat_ofNat, BitVec.toNat_ofNat, BitVec.toNat_ofNat]
  unfold yshr
  have h2 : y % 64 % 2 ^ 64 % BitVec.toNat (64 : BitVec 64) = y % 64 := by
    show y % 64 % 2 ^ 64 % 64 = _
    omega
  rw [h2, Nat.shiftRight_eq_div_pow]
  symm
  apply Nat.mod_eq_of_lt
  exact Nat.lt_of_le_of_lt (Nat.div_le_self _ _) (Nat.mod_lt _ (by decide))
/-! rows of memory as naturals: 66 bits a place, 0 unknown, else the value and one -/
def ep_g (N k : Nat) : Nat := (N >>> (66 * k + 66)) % 73786976294838206464
/-- the lowest place is a mix of all that was written: it parts the numbers' hashes -/
def ep_m (k v : Nat) : Nat := ((v + 1) * 2654435761 + k * 2246822519) % 18446744073709551616
def ep_s (N k v : Nat) : Nat := (N ^^^ ep_m k v) ^^^ ((ep_g N k ^^^ (v % 18446744073709551616 + 1)) <<< (66 * k + 66))
theorem ep_tb (N k i : Nat) : (ep_g N k).testBit i = (decide (i < 66) && N.testBit (66 * k + 66 + i)) := by
  have h : ep_g N k = (N >>> (66 * k + 66)) % 2 ^ 66 := rfl
  rw [h, Nat.testBit_mod_two_pow, Nat.testBit_shiftRight]
theorem ep_lt (N k : Nat) : ep_g N k < 2 ^ 66 := Nat.mod_lt _ (by decide)
theorem ep_mb (k v b : Nat) (h : 66 ≤ b) : (ep_m k v).testBit b = false := by
  apply Nat.testBit_lt_two_pow
  have h1 : ep_m k v < 2 ^ 64 := Nat.mod_lt _ (by decide)
  exact Nat.lt_of_lt_of_le h1 (Nat.pow_le_pow_right (by decide) (by omega))
theorem ep_gs (N k v j : Nat) : ep_g (ep_s N k v) j = if j = k then v % 18446744073709551616 + 1 else ep_g N j := by
  have hv : v % 18446744073709551616 + 1 < 2 ^ 66 := by have := Nat.mod_lt v (show 18446744073709551616 > 0 by decide); omega
  apply Nat.eq_of_testBit_eq
  intro i
  rw [ep_tb]
  unfold ep_s
  rw [Nat.testBit_xor, Nat.testBit_xor, ep_mb _ _ _ (by omega), Bool.xor_false, Nat.testBit_shiftLeft, Nat.testBit_xor]
  by_cases hi : i < 66
  · by_cases e : j = k
    · rw [if_pos e]
      subst e
      have e1 : 66 * j + 66 + i - (66 * j + 66) = i := by omega
      rw [e1, ep_tb]
      simp only [hi, decide_true, Bool.true_and]
      have e2 : decide (66 * j + 66 + i ≥ 66 * j + 66) = true := decide_eq_true (by omega)
      rw [e2, Bool.true_and, ← Bool.xor_assoc, Bool.xor_self, Bool.false_xor]
    · rw [if_neg e]
      have e9 : (ep_g N j).testBit i = N.testBit (66 * j + 66 + i) := by rw [ep_tb, decide_eq_true hi, Bool.true_and]
      rw [e9]
      simp only [hi, decide_true, Bool.true_and]
      by_cases g : 66 * k + 66 ≤ 66 * j + 66 + i
      · have g1 : 66 ≤ 66 * j + 66 + i - (66 * k + 66) := by omega
        have t1 : (ep_g N k).testBit (66 * j + 66 + i - (66 * k + 66)) = false := Nat.testBit_lt_two_pow (Nat.lt_of_lt_of_le (ep_lt N k) (Nat.pow_le_pow_right (by decide) g1))
        have t2 : (v % 18446744073709551616 + 1).testBit (66 * j + 66 + i - (66 * k + 66)) = false := Nat.testBit_lt_two_pow (Nat.lt_of_lt_of_le hv (Nat.pow_le_pow_right (by decide) g1))
        rw [t1, t2]
        simp
      · have e2 : decide (66 * j + 66 + i ≥ 66 * k + 66) = false := decide_eq_false (by omega)
        rw [e2]
        simp
  · have e3 : decide (i < 66) = false := decide_eq_false hi
    rw [e3, Bool.false_and]
    symm
    split
    · exact Nat.testBit_lt_two_pow (Nat.lt_of_lt_of_le hv (Nat.pow_le_pow_right (by decide) (by omega)))
    · rw [ep_tb, e3, Bool.false_and]
abbrev x1 : Type := Nat × Nat
abbrev x2 : Type := x1 × x1
abbrev x3 : Type := x2 × x2
abbrev x4 : Type := x3 × x3
abbrev x5 : Type := x4 × x4
abbrev x6 : Type := x5 × x5
def xgS {α : Type} (g : α → Nat → Nat) (t : α × α) (i : Nat) : Nat := if i % 2 = 0 then g t.1 (i / 2) else g t.2 (i / 2)
def xsS {α : Type} (s : α → Nat → Nat → α) (t : α × α) (i v : Nat) : α × α := if i % 2 = 0 then (s t.1 (i / 2) v, t.2) else (t.1, s t.2 (i / 2) v)
def xok {α : Type} (g : α → Nat → Nat) (s : α → Nat → Nat → α) (n : Nat) : Prop := ∀ t i j v, i < n → j < n → g (s t i v) j = if j = i then v else g t j
theorem xokS {α : Type} {g : α → Nat → Nat} {s : α → Nat → Nat → α} {n : Nat} (h : xok g s n) : xok (xgS g) (xsS s) (2 * n) := fun t i j v hi hj => by
  unfold xgS xsS
  by_cases e1 : i % 2 = 0
  · by_cases e2 : j % 2 = 0
    · simp only [e1, e2, if_true]
      rw [h _ _ _ _ (by omega) (by omega)]
      by_cases e : j = i
      · rw [if_pos e, if_pos (by omega)]
      · rw [if_neg e, if_neg (by omega)]
    · simp only [e1, e2, if_true, if_false]
      rw [if_neg (by omega)]
  · by_cases e2 : j % 2 = 0
    · simp only [e1, e2, if_true, if_false]
      rw [if_neg (by omega)]
    · simp only [e1, e2, if_false]
      rw [h _ _ _ _ (by omega) (by omega)]
      by_cases e : j = i
      · rw [if_pos e, if_pos (by omega)]
      · rw [if_neg e, if_neg (by omega)]
def xg1 (t : x1) (i : Nat) : Nat := if i % 2 = 0 then t.1 else t.2
def xs1 (t : x1) (i v : Nat) : x1 := if i % 2 = 0 then (v, t.2) else (t.1, v)
theorem xok1 : xok xg1 xs1 2 := fun t i j v hi hj => by
  unfold xg1 xs1
  by_cases e1 : i % 2 = 0
  · by_cases e2 : j % 2 = 0
    · simp only [e1, e2, if_true]
      rw [if_pos (by omega)]
    · simp only [e1, e2, if_true, if_false]
      rw [if_neg (by omega)]
  · by_cases e2 : j % 2 = 0
    · simp only [e1, e2, if_true, if_false]
      rw [if_neg (by omega)]
    · simp only [e1, e2, if_false]
      rw [if_pos (by omega)]
def xg6 : x6 → Nat → Nat := xgS (xgS (xgS (xgS (xgS xg1))))
def xs6 : x6 → Nat → Nat → x6 := xsS (xsS (xsS (xsS (xsS xs1))))
theorem xok6 : xok xg6 xs6 64 := xokS (xokS (xokS (xokS (xokS xok1))))
abbrev xE : Type := Nat × x6
/-- a value read -/
def xd (x : Nat) (d : Int32) : Int32 := match x with
  | 0 => d
  | v + 1 => nI v
def xdl (x : Nat) (d : Int64) : Int64 := match x with
  | 0 => d
  | v + 1 => nJ v
def xfl : List (Nat × Nat) := [(2, 4), (2, 6), (2, 7), (2, 8), (2, 9), (2, 10), (2, 15), (3, 5), (3, 6), (3, 7), (3, 8), (3, 9), (7, 5), (13, 7), (13, 9), (21, 0), (21, 1), (22, 8), (22, 10), (143, 1), (145, 0), (145, 1), (145, 6), (145, 7), (145, 8), (145, 9), (145, 10), (145, 17), (156, 4)]
def xA : List Nat := [4, 5, 8, 9, 10, 11, 12, 14, 15, 16, 17, 19, 20, 23, 24, 25, 26, 27, 28, 29, 30, 31, 144, 146, 147, 148, 149, 152, 153, 154, 157, 158, 159, 160]
def xB : List Nat := [6, 18, 150, 151, 155]
def ab (b : mv_H) (h : xE) : mv_H := (fun o k => if (o, k) ∈ xfl then xd (ep_g h.1 (xfl.idxOf (o, k))) (mv_i b o k) else mv_i b o k, mv_l b, mv_r b, fun o k => if o ∈ xA then xd (ep_g (xg6 h.2 (xA.idxOf o)) k) (mv_a b o k) else mv_a b o k, fun o k => if o ∈ xB then xdl (ep_g (xg6 h.2 (48 + xB.idxOf o)) k) (mv_b b o k) else mv_b b o k)
theorem ix_inj {α : Type} [BEq α] [LawfulBEq α] {l : List α} {x y : α} (hx : x ∈ l) (h : l.idxOf y = l.idxOf x) : y = x := by
  have h1 : l.idxOf x < l.length := List.idxOf_lt_length_of_mem hx
  have h2 : l[l.idxOf x] = x := List.getElem_idxOf h1
  have h3 : l.idxOf y < l.length := by rw [h]; exact h1
  have h4 : l[l.idxOf y] = y := List.getElem_idxOf h3
  rw [← h2, ← h4]
  congr 1
theorem xd_s (v : Nat) (d : Int32) : xd (v % 18446744073709551616 + 1) d = nI v := xI_eq (by omega)
theorem xdl_s (v : Nat) (d : Int64) : xdl (v % 18446744073709551616 + 1) d = nJ v := xJ_eq (by omega)
theorem ab_i {b : mv_H} {h : xE} {o k j v : Nat} (hm : (o, k) ∈ xfl) (hj : xfl.idxOf (o, k) = j) (e : ep_g h.1 j = v + 1) : mv_i (ab b h) o k = nI v := by
  show (if (o, k) ∈ xfl then xd (ep_g h.1 (xfl.idxOf (o, k))) (mv_i b o k) else mv_i b o k) = nI v
  rw [if_pos hm, hj, e]
  rfl
theorem ab_si (b : mv_H) (h : xE) {o k j : Nat} (v : Nat) (hm : (o, k) ∈ xfl) (hj : xfl.idxOf (o, k) = j) : mv_si (ab b h) o k (nI v) = ab b (ep_s h.1 j v, h.2) := by
  refine Prod.ext ?_ rfl
  funext o' k'
  show (if o' = o ∧ k' = k then nI v else if (o', k') ∈ xfl then xd (ep_g h.1 (xfl.idxOf (o', k'))) (mv_i b o' k') else mv_i b o' k') = if (o', k') ∈ xfl then xd (ep_g (ep_s h.1 j v) (xfl.idxOf (o', k'))) (mv_i b o' k') else mv_i b o' k'
  by_cases e : o' = o ∧ k' = k
  · rw [if_pos e, e.1, e.2, if_pos hm, hj, ep_gs, if_pos rfl, xd_s]
  · rw [if_neg e]
    by_cases hm' : (o', k') ∈ xfl
    · rw [if_pos hm', if_pos hm', ep_gs, if_neg (fun q => e (by rw [← hj] at q; have := ix_inj hm q; cases this; exact ⟨rfl, rfl⟩))]
    · rw [if_neg hm', if_neg hm']
theorem ab_a {b : mv_H} {h : xE} {o k j v : Nat} (hm : o ∈ xA) (hj : xA.idxOf o = j) (e : ep_g (xg6 h.2 j) k = v + 1) : mv_a (ab b h) o k = nI v := by
  show (if o ∈ xA then xd (ep_g (xg6 h.2 (xA.idxOf o)) k) (mv_a b o k) else mv_a b o k) = nI v
  rw [if_pos hm, hj, e]
  rfl
theorem ab_b {b : mv_H} {h : xE} {o k j v : Nat} (hm : o ∈ xB) (hj : 48 + xB.idxOf o = j) (e : ep_g (xg6 h.2 j) k = v + 1) : mv_b (ab b h) o k = nJ v := by
  show (if o ∈ xB then xdl (ep_g (xg6 h.2 (48 + xB.idxOf o)) k) (mv_b b o k) else mv_b b o k) = nJ v
  rw [if_pos hm, hj, e]
  rfl
theorem xA_lt {o : Nat} (h : o ∈ xA) : xA.idxOf o < 48 := Nat.lt_of_lt_of_le (List.idxOf_lt_length_of_mem h) (by decide)
theorem xB_lt {o : Nat} (h : o ∈ xB) : xB.idxOf o < 16 := Nat.lt_of_lt_of_le (List.idxOf_lt_length_of_mem h) (by decide)
/-- a row of ints set to N1 -/
theorem ab_ca (b : mv_H) (h : xE) {o j N1 : Nat} {f : Nat → Int32} (hm : o ∈ xA) (hj : xA.idxOf o = j) (hf : ∀ k, f k = xd (ep_g N1 k) (mv_a b o k)) : mv_ca (ab b h) o f = ab b (h.1, xs6 h.2 j N1) := by
  have h48 := xA_lt hm
  refine Prod.ext rfl (Prod.ext rfl (Prod.ext rfl (Prod.ext ?_ ?_)))
  · funext o' k'
    show (if o' = o then f else fun k => if o' ∈ xA then xd (ep_g (xg6 h.2 (xA.idxOf o')) k) (mv_a b o' k) else mv_a b o' k) k' = if o' ∈ xA then xd (ep_g (xg6 (xs6 h.2 j N1) (xA.idxOf o')) k') (mv_a b o' k') else mv_a b o' k'
    by_cases e : o' = o
    · rw [if_pos e, e, if_pos hm, hj, xok6 _ _ _ _ (by omega) (by omega), if_pos rfl]
      exact hf k'
    · rw [if_neg e]
      by_cases hm' : o' ∈ xA
      · have := xA_lt hm'
        rw [if_pos hm', if_pos hm', xok6 _ _ _ _ (by omega) (by omega), if_neg (fun q => e (by rw [← hj] at q; exact ix_inj hm q))]
      · rw [if_neg hm', if_neg hm']
  · funext o' k'
    show (if o' ∈ xB then xdl (ep_g (xg6 h.2 (48 + xB.idxOf o')) k') (mv_b b o' k') else mv_b b o' k') = if o' ∈ xB then xdl (ep_g (xg6 (xs6 h.2 j N1) (48 + xB.idxOf o')) k') (mv_b b o' k') else mv_b b o' k'
    by_cases hm' : o' ∈ xB
    · have := xB_lt hm'
      rw [if_pos hm', if_pos hm', xok6 _ _ _ _ (by omega) (by omega), if_neg (by omega)]
    · rw [if_neg hm', if_neg hm']
theorem ab_cb (b : mv_H) (h : xE) {o j N1 : Nat} {f : Nat → Int64} (hm : o ∈ xB) (hj : 48 + xB.idxOf o = j) (hf : ∀ k, f k = xdl (ep_g N1 k) (mv_b b o k)) : mv_cb (ab b h) o f = ab b (h.1, xs6 h.2 j N1) := by
  have h48 := xB_lt hm
  refine Prod.ext rfl (Prod.ext rfl (Prod.ext rfl (Prod.ext ?_ ?_)))
  · funext o' k'
    show (if o' ∈ xA then xd (ep_g (xg6 h.2 (xA.idxOf o')) k') (mv_a b o' k') else mv_a b o' k') = if o' ∈ xA then xd (ep_g (xg6 (xs6 h.2 j N1) (xA.idxOf o')) k') (mv_a b o' k') else mv_a b o' k'
    by_cases hm' : o' ∈ xA
    · have := xA_lt hm'
      rw [if_pos hm', if_pos hm', xok6 _ _ _ _ (by omega) (by omega), if_neg (by omega)]
    · rw [if_neg hm', if_neg hm']
  · funext o' k'
    show (if o' = o then f else fun k => if o' ∈ xB then xdl (ep_g (xg6 h.2 (48 + xB.idxOf o')) k) (mv_b b o' k) else mv_b b o' k) k' = if o' ∈ xB then xdl (ep_g (xg6 (xs6 h.2 j N1) (48 + xB.idxOf o')) k') (mv_b b o' k') else mv_b b o' k'
    by_cases e : o' = o
    · rw [if_pos e, e, if_pos hm, hj, xok6 _ _ _ _ (by omega) (by omega), if_pos rfl]
      exact hf k'
    · rw [if_neg e]
      by_cases hm' : o' ∈ xB
      · have := xB_lt hm'
        rw [if_pos hm', if_pos hm', xok6 _ _ _ _ (by omega) (by omega), if_neg (fun q => e (ix_inj hm (by omega)))]
      · rw [if_neg hm', if_neg hm']
theorem sa_ca (σ : mv_H) (o k : Nat) (v : Int32) : mv_sa σ o k v = mv_ca σ o (fun j => if j = k then v else mv_a σ o j) := by
  unfold mv_sa mv_ca
  refine Prod.ext rfl (Prod.ext rfl (Prod.ext rfl (Prod.ext ?_ rfl)))
  funext o' k'
  show (if o' = o ∧ k' = k then v else mv_a σ o' k') = (if o' = o then (fun j => if j = k then v else mv_a σ o j) else mv_a σ o') k'
  by_cases e : o' = o
  · rw [if_pos e, e]
    by_cases e2 : k' = k
    · rw [if_pos ⟨rfl, e2⟩]; exact (if_pos e2).symm
    · rw [if_neg (fun q => e2 q.2)]; exact (if_neg e2).symm
  · rw [if_neg e, if_neg (fun q => e q.1)]
theorem sb_cb (σ : mv_H) (o k : Nat) (v : Int64) : mv_sb σ o k v = mv_cb σ o (fun j => if j = k then v else mv_b σ o j) := by
  unfold mv_sb mv_cb
  refine Prod.ext rfl (Prod.ext rfl (Prod.ext rfl (Prod.ext rfl ?_)))
  funext o' k'
  show (if o' = o ∧ k' = k then v else mv_b σ o' k') = (if o' = o then (fun j => if j = k then v else mv_b σ o j) else mv_b σ o') k'
  by_cases e : o' = o
  · rw [if_pos e, e]
    by_cases e2 : k' = k
    · rw [if_pos ⟨rfl, e2⟩]; exact (if_pos e2).symm
    · rw [if_neg (fun q => e2 q.2)]; exact (if_neg e2).symm
  · rw [if_neg e, if_neg (fun q => e q.1)]
theorem ab_sa (b : mv_H) (h : xE) {o j : Nat} (k v : Nat) (hm : o ∈ xA) (hj : xA.idxOf o = j) : mv_sa (ab b h) o k (nI v) = ab b (h.1, xs6 h.2 j (ep_s (xg6 h.2 j) k v)) := by
  rw [sa_ca]
  refine ab_ca b h hm hj (fun i => ?_)
  rw [ep_gs]
  by_cases e : i = k
  · rw [if_pos e, if_pos e, xd_s]
  · rw [if_neg e, if_neg e]
    show (if o ∈ xA then xd (ep_g (xg6 h.2 (xA.idxOf o)) i) (mv_a b o i) else mv_a b o i) = _
    rw [if_pos hm, hj]
theorem ab_sb (b : mv_H) (h : xE) {o j : Nat} (k v : Nat) (hm : o ∈ xB) (hj : 48 + xB.idxOf o = j) : mv_sb (ab b h) o k (nJ v) = ab b (h.1, xs6 h.2 j (ep_s (xg6 h.2 j) k v)) := by
  rw [sb_cb]
  refine ab_cb b h hm hj (fun i => ?_)
  rw [ep_gs]
  by_cases e : i = k
  · rw [if_pos e, if_pos e, xdl_s]
  · rw [if_neg e, if_neg e]
    show (if o ∈ xB then xdl (ep_g (xg6 h.2 (48 + xB.idxOf o)) i) (mv_b b o i) else mv_b b o i) = _
    rw [if_pos hm, hj]
theorem ab_nil (b : mv_H) : ab b (0, (((((0, 0), (0, 0)), ((0, 0), (0, 0))), (((0, 0), (0, 0)), ((0, 0), (0, 0)))), ((((0, 0), (0, 0)), ((0, 0), (0, 0))), (((0, 0), (0, 0)), ((0, 0), (0, 0))))), (((((0, 0), (0, 0)), ((0, 0), (0, 0))), (((0, 0), (0, 0)), ((0, 0), (0, 0)))), ((((0, 0), (0, 0)), ((0, 0), (0, 0))), (((0, 0), (0, 0)), ((0, 0), (0, 0)))))) = b := by
  have z : ∀ k, ep_g 0 k = 0 := fun k => by unfold ep_g; rw [Nat.zero_shiftRight]
  have z6 : ∀ i, xg6 (((((((0, 0), (0, 0)), ((0, 0), (0, 0))), (((0, 0), (0, 0)), ((0, 0), (0, 0)))), ((((0, 0), (0, 0)), ((0, 0), (0, 0))), (((0, 0), (0, 0)), ((0, 0), (0, 0))))), (((((0, 0), (0, 0)), ((0, 0), (0, 0))), (((0, 0), (0, 0)), ((0, 0), (0, 0)))), ((((0, 0), (0, 0)), ((0, 0), (0, 0))), (((0, 0), (0, 0)), ((0, 0), (0, 0)))))) : x6) i = 0 := fun i => by
    unfold xg6 xgS xg1
    repeat' split
    all_goals rfl
  refine Prod.ext ?_ (Prod.ext rfl (Prod.ext rfl (Prod.ext ?_ ?_)))
  · funext o k
    show (if (o, k) ∈ xfl then xd (ep_g 0 (xfl.idxOf (o, k))) (mv_i b o k) else mv_i b o k) = _
    rw [z]
    split <;> rfl
  · funext o k
    show (if o ∈ xA then xd (ep_g (xg6 _ (xA.idxOf o)) k) (mv_a b o k) else mv_a b o k) = _
    rw [z6, z]
    split <;> rfl
  · funext o k
    show (if o ∈ xB then xdl (ep_g (xg6 _ (48 + xB.idxOf o)) k) (mv_b b o k) else mv_b b o k) = _
    rw [z6, z]
    split <;> rfl
def xfz {α : Type} (n : Nat) (f : Nat → α) : α := match n with
  | 0 => f 0
  | p + 1 => f (p + 1)
theorem xfz_e {α : Type} (n : Nat) (f : Nat → α) : xfz n f = f n := by cases n <;> rfl
def xer {α : Type} (x : Nat) (f : Nat → Option α) : Option α := match x with
  | 0 => none
  | v + 1 => f v
theorem xer_e {α : Type} {x : Nat} {f : Nat → Option α} {r : α} (h : xer x f = some r) : ∃ v, x = v + 1 ∧ f v = some r := by
  cases x with
  | zero => cases h
  | succ v => exact ⟨v, rfl, h⟩
def xeb {α : Type} (o : Option (Nat × xE)) (f : Nat → xE → Option α) : Option α := match o with
  | none => none
  | some (v, h) => f v h
theorem xeb_e {α : Type} {o : Option (Nat × xE)} {f : Nat → xE → Option α} {r : α} (h : xeb o f = some r) : ∃ v g, o = some (v, g) ∧ f v g = some r := by
  cases o with
  | none => cases h
  | some x => exact ⟨x.1, x.2, rfl, h⟩
def xev {α : Type} (o : Option xE) (f : xE → Option α) : Option α := match o with
  | none => none
  | some h => f h
theorem xev_e {α : Type} {o : Option xE} {f : xE → Option α} {r : α} (h : xev o f = some r) : ∃ g, o = some g ∧ f g = some r := by
  cases o with
  | none => cases h
  | some x => exact ⟨x, rfl, h⟩
theorem xix_e {α : Type} {i n : Nat} {A : Option α} {r : α} (h : (bif Nat.blt i n then A else none) = some r) : i < n ∧ A = some r := by
  cases e : Nat.blt i n
  · rw [e] at h; cases h
  · rw [e] at h; exact ⟨Nat.blt_eq.mp e, h⟩
def xwi {α : Type} (h : xE) (j v : Nat) (f : xE → α) : α := match h with
  | (I, t) => xfz (ep_s I j v) fun N => f (N, t)
theorem xwi_f {α : Type} {h : xE} {j v : Nat} {f : xE → α} {r : α} (hf : xwi h j v f = r) : f (ep_s h.1 j v, h.2) = r := by
  obtain ⟨I, t⟩ := h
  rw [← hf]
  exact (xfz_e (ep_s I j v) (fun N => f (N, t))).symm
def xw {α : Type} (L : x6 → Nat) (S : x6 → Nat → x6) (h : xE) (k v : Nat) (f : xE → α) : α := match h with
  | (I, t) => xfz (ep_s (L t) k v) fun N => f (I, S t N)
theorem xw_f {α : Type} {L : x6 → Nat} {S : x6 → Nat → x6} {h : xE} {k v a : Nat} {f : xE → α} {r : α} (hL : ∀ t, L t = xg6 t a) (hS : ∀ t N, S t N = xs6 t a N) (hf : xw L S h k v f = r) : f (h.1, xs6 h.2 a (ep_s (xg6 h.2 a) k v)) = r := by
  obtain ⟨I, t⟩ := h
  rw [← hf, ← hL, ← hS]
  exact (xfz_e (ep_s (L t) k v) (fun N => f (I, S t N))).symm
/-- a whole row set to N -/
def xwN {α : Type} (S : x6 → Nat → x6) (h : xE) (N : Nat) (f : xE → α) : α := match h with
  | (I, t) => xfz N fun N => f (I, S t N)
theorem xwN_f {α : Type} {S : x6 → Nat → x6} {h : xE} {N a : Nat} {f : xE → α} {r : α} (hS : ∀ t N, S t N = xs6 t a N) (hf : xwN S h N f = r) : f (h.1, xs6 h.2 a N) = r := by
  obtain ⟨I, t⟩ := h
  rw [← hf, ← hS]
  exact (xfz_e N (fun N => f (I, S t N))).symm
theorem xcl {k : Nat} (q : k < 2147483648) : (nI k).toNatClampNeg = k := by
  have h1 : (nI k).toInt = k := nI_toInt q
  have h2 := i32_cl (x := nI k) (by omega)
  omega
theorem xin {k n : Nat} (q : k < n) (hn : n ≤ 2147483648) : vp_in (nI k) n := by
  unfold vp_in
  rw [xcl (by omega)]
  rintro (h | h)
  · have h1 : (nI k).toInt = k := nI_toInt (by omega)
    have h2 := lt0.mp h
    omega
  · omega
theorem xnb (v : Nat) : vp_nar .byte (nI v) = nI (xi2b v) := xI_b v
theorem xnz (v : Nat) : vp_nar .boolean (nI v) = nI (v &&& 1) := by
  show nI v &&& 1 = _
  exact xI_and v 1
theorem xz1 {v : Nat} (q : v < 2) : narrow .boolean (.int (nI v)) = .int (nI v) := by
  have h : v = 0 ∨ v = 1 := by omega
  rcases h with rfl | rfl <;> decide
section MVX
variable {p : Program} {l : Launch} {e : Env} {R : Room} {s : State} {m : MethodId} {args : Array Value} {below : List Frame} {meth : Method} {c : Code} {G : mv_G} {ws : List Cond} {own : String} {cc : ByteArray} {nL : Nat} {cells slots : Nat} {Q : State → Prop} {σ : mv_H} {pc : Nat} {L : List (Nat × Value)} {st : List Value}
theorem mvn_top {x : Int32} {n : Nat} (e9 : x = nI n) (k : mv_V p l e R s m args below meth c G nL cells slots Q σ pc L (.int (nI n) :: st)) : mv_V p l e R s m args below meth c G nL cells slots Q σ pc L (.int x :: st) := by rw [e9]; exact k
theorem mvn_topl {x : Int64} {n : Nat} (e9 : x = nJ n) (k : mv_V p l e R s m args below meth c G nL cells slots Q σ pc L (.long (nJ n) :: st)) : mv_V p l e R s m args below meth c G nL cells slots Q σ pc L (.long x :: st) := by rw [e9]; exact k
theorem mvn_hp {b : mv_H} {α : Type} {h1 : xE} {f : xE → Option α} {r : Option α} (e9 : σ = ab b h1) (hf : f h1 = r) (k : ∀ h2, f h2 = r → mv_V p l e R s m args below meth c G nL cells slots Q (ab b h2) pc L st) : mv_V p l e R s m args below meth c G nL cells slots Q σ pc L st := by rw [e9]; exact k h1 hf
theorem mvn_iinc (B : mv_B p s m args meth c G ws own cc nL) {i j x v : Nat} {n : Int} {L' : List (Nat × Value)} (hdg : decode cc pc = .ok (.iinc i n, 3)) (hj : L[j]? = some (i, .int (nI x))) (hv : Int32.ofInt n = nI v) (hn : i < nL) (hl : (i, Value.int (nI (xadd x v))) :: L.filter (fun q => !(q.1 == i) && !(q.1 + 1 == i && q.2.category == 2)) = L')
    (k : mv_V p l e R s m args below meth c G nL cells slots Q σ (pc + 3) L' st) : mv_V p l e R s m args below meth c G nL cells slots Q σ pc L st := mv_iinc B hdg hj hv hn (by rw [xI_add]; exact hl) k
theorem mvn_iadd (B : mv_B p s m args meth c G ws own cc nL) {x y : Nat} (hdg : decode cc pc = .ok (.iadd, 1)) (k : mv_V p l e R s m args below meth c G nL cells slots Q σ (pc + 1) L (.int (nI (xadd x y)) :: st)) : mv_V p l e R s m args below meth c G nL cells slots Q σ pc L (.int (nI y) :: .int (nI x) :: st) := mv_iadd B hdg (by rw [xI_add]; exact k)
theorem mvn_isub (B : mv_B p s m args meth c G ws own cc nL) {x y : Nat} (hdg : decode cc pc = .ok (.isub, 1)) (k : mv_V p l e R s m args below meth c G nL cells slots Q σ (pc + 1) L (.int (nI (xsub x y)) :: st)) : mv_V p l e R s m args below meth c G nL cells slots Q σ pc L (.int (nI y) :: .int (nI x) :: st) := mv_isub B hdg (by rw [xI_sub]; exact k)
theorem mvn_imul (B : mv_B p s m args meth c G ws own cc nL) {x y : Nat} (hdg : decode cc pc = .ok (.imul, 1)) (k : mv_V p l e R s m args below meth c G nL cells slots Q σ (pc + 1) L (.int (nI (xmul x y)) :: st)) : mv_V p l e R s m args below meth c G nL cells slots Q σ pc L (.int (nI y) :: .int (nI x) :: st) := mv_imul B hdg (by rw [xI_mul]; exact k)
theorem mvn_iand (B : mv_B p s m args meth c G ws own cc nL) {x y : Nat} (hdg : decode cc pc = .ok (.iand, 1)) (k : mv_V p l e R s m args below meth c G nL cells slots Q σ (pc + 1) L (.int (nI (Nat.land x y)) :: st)) : mv_V p l e R s m args below meth c G nL cells slots Q σ pc L (.int (nI y) :: .int (nI x) :: st) := mv_iand B hdg (by rw [xI_and]; exact k)
theorem mvn_ladd (B : mv_B p s m args meth c G ws own cc nL) {x y : Nat} (hdg : decode cc pc = .ok (.ladd, 1)) (k : mv_V p l e R s m args below meth c G nL cells slots Q σ (pc + 1) L (.long (nJ (yadd x y)) :: st)) : mv_V p l e R s m args below meth c G nL cells slots Q σ pc L (.long (nJ y) :: .long (nJ x) :: st) := mv_ladd B hdg (by rw [xJ_add]; exact k)
theorem mvn_lsub (B : mv_B p s m args meth c G ws own cc nL) {x y : Nat} (hdg : decode cc pc = .ok (.lsub, 1)) (k : mv_V p l e R s m args below meth c G nL cells slots Q σ (pc + 1) L (.long (nJ (ysub x y)) :: st)) : mv_V p l e R s m args below meth c G nL cells slots Q σ pc L (.long (nJ y) :: .long (nJ x) :: st) := mv_lsub B hdg (by rw [xJ_sub]; exact k)
theorem mvn_lmul (B : mv_B p s m args meth c G ws own cc nL) {x y : Nat} (hdg : decode cc pc = .ok (.lmul, 1)) (k : mv_V p l e R s m args below meth c G nL cells slots Q σ (pc + 1) L (.long (nJ (ymul x y)) :: st)) : mv_V p l e R s m args below meth c G nL cells slots Q σ pc L (.long (nJ y) :: .long (nJ x) :: st) := mv_lmul B hdg (by rw [xJ_mul]; exact k)
theorem mvn_land (B : mv_B p s m args meth c G ws own cc nL) {x y : Nat} (hdg : decode cc pc = .ok (.land, 1)) (k : mv_V p l e R s m args below meth c G nL cells slots Q σ (pc + 1) L (.long (nJ (Nat.land x y)) :: st)) : mv_V p l e R s m args below meth c G nL cells slots Q σ pc L (.long (nJ y) :: .long (nJ x) :: st) := mv_land B hdg (by rw [xJ_and]; exact k)
theorem mvn_lor (B : mv_B p s m args meth c G ws own cc nL) {x y : Nat} (hdg : decode cc pc = .ok (.lor, 1)) (k : mv_V p l e R s m args below meth c G nL cells slots Q σ (pc + 1) L (.long (nJ (Nat.lor x y)) :: st)) : mv_V p l e R s m args below meth c G nL cells slots Q σ pc L (.long (nJ y) :: .long (nJ x) :: st) := mv_lor B hdg (by rw [xJ_or]; exact k)
theorem mvn_lxor (B : mv_B p s m args meth c G ws own cc nL) {x y : Nat} (hdg : decode cc pc = .ok (.lxor, 1)) (k : mv_V p l e R s m args below meth c G nL cells slots Q σ (pc + 1) L (.long (nJ (Nat.xor x y)) :: st)) : mv_V p l e R s m args below meth c G nL cells slots Q σ pc L (.long (nJ y) :: .long (nJ x) :: st) := mv_lxor B hdg (by rw [xJ_xor]; exact k)
theorem mvn_lneg (B : mv_B p s m args meth c G ws own cc nL) {x : Nat} (hdg : decode cc pc = .ok (.lneg, 1)) (k : mv_V p l e R s m args below meth c G nL cells slots Q σ (pc + 1) L (.long (nJ (yneg x)) :: st)) : mv_V p l e R s m args below meth c G nL cells slots Q σ pc L (.long (nJ x) :: st) := mv_lneg B hdg (by rw [xJ_neg]; exact k)
theorem mvn_i2l (B : mv_B p s m args meth c G ws own cc nL) {x : Nat} (hdg : decode cc pc = .ok (.i2l, 1)) (k : mv_V p l e R s m args below meth c G nL cells slots Q σ (pc + 1) L (.long (nJ (xi2l x)) :: st)) : mv_V p l e R s m args below meth c G nL cells slots Q σ pc L (.int (nI x) :: st) := mv_i2l B hdg (by rw [xI_l]; exact k)
theorem mvn_l2i (B : mv_B p s m args meth c G ws own cc nL) {x : Nat} (hdg : decode cc pc = .ok (.l2i, 1)) (k : mv_V p l e R s m args below meth c G nL cells slots Q σ (pc + 1) L (.int (nI (x % 4294967296)) :: st)) : mv_V p l e R s m args below meth c G nL cells slots Q σ pc L (.long (nJ x) :: st) := mv_l2i B hdg (by rw [xJ_i]; exact k)
theorem mvn_i2b (B : mv_B p s m args meth c G ws own cc nL) {x : Nat} (hdg : decode cc pc = .ok (.i2b, 1)) (k : mv_V p l e R s m args below meth c G nL cells slots Q σ (pc + 1) L (.int (nI (xi2b x)) :: st)) : mv_V p l e R s m args below meth c G nL cells slots Q σ pc L (.int (nI x) :: st) := mv_i2b B hdg (by rw [xI_b]; exact k)
theorem mvn_lcmp (B : mv_B p s m args meth c G ws own cc nL) {x y : Nat} (hdg : decode cc pc = .ok (.lcmp, 1)) (k : mv_V p l e R s m args below meth c G nL cells slots Q σ (pc + 1) L (.int (nI (ycmp x y)) :: st)) : mv_V p l e R s m args below meth c G nL cells slots Q σ pc L (.long (nJ y) :: .long (nJ x) :: st) := mv_lcmp B hdg (by rw [xJ_cmp]; exact k)
theorem mvn_lshl (B : mv_B p s m args meth c G ws own cc nL) {x y : Nat} (hdg : decode cc pc = .ok (.lshl, 1)) (k : mv_V p l e R s m args below meth c G nL cells slots Q σ (pc + 1) L (.long (nJ (yshl x y)) :: st)) : mv_V p l e R s m args below meth c G nL cells slots Q σ pc L (.int (nI y) :: .long (nJ x) :: st) := mv_lshl B hdg (by rw [xJ_shl]; exact k)
theorem mvn_lushr (B : mv_B p s m args meth c G ws own cc nL) {x y : Nat} (hdg : decode cc pc = .ok (.lushr, 1)) (k : mv_V p l e R s m args below meth c G nL cells slots Q σ (pc + 1) L (.long (nJ (yshr x y)) :: st)) : mv_V p l e R s m args below meth c G nL cells slots Q σ pc L (.int (nI y) :: .long (nJ x) :: st) := mv_lushr B hdg (by rw [xJ_shr]; exact k)
end MVX
theorem xI_c (x : Nat) : ((nI x).toUInt32 % 65536).toInt32 = nI (x % 65536) := by
  apply Int32.toBitVec_inj.mp
  rw [bvI]
  show ((nI x).toUInt32 % 65536).toBitVec = _
  rw [UInt32.toBitVec_mod]
  show (BitVec.ofNat 32 x) % (65536 : BitVec 32) = _
  apply BitVec.eq_of_toNat_eq
  rw [BitVec.toNat_umod, BitVec.toNat_ofNat, BitVec.toNat_ofNat]
  show x % 2 ^ 32 % 65536 = _
  omega
def xfill : Nat → Nat → Nat → Nat → Nat
  | 0, N, _, _ => N
  | n + 1, N, a, v => xfz (ep_s N a v) fun N => xfill n N (a + 1) v
theorem xfill_g : ∀ (n N a v k : Nat), ep_g (xfill n N a v) k = if a ≤ k ∧ k < a + n then v % 18446744073709551616 + 1 else ep_g N k := by
  intro n
  induction n with
  | zero => intro N a v k; rw [if_neg (by omega)]; rfl
  | succ n ih =>
    intro N a v k
    have e : xfill (n + 1) N a v = xfill n (ep_s N a v) (a + 1) v := xfz_e _ _
    rw [e, ih, ep_gs]
    by_cases e1 : k = a
    · rw [if_neg (by omega), if_pos e1, if_pos (by omega)]
    · rw [if_neg e1]
      by_cases e2 : a + 1 ≤ k ∧ k < a + 1 + n
      · rw [if_pos e2, if_pos (by omega)]
      · rw [if_neg e2, if_neg (by omega)]
theorem ab_fi (b : mv_H) (h : xE) {o j : Nat} (a n v : Nat) (hm : o ∈ xA) (hj : xA.idxOf o = j) : mv_fi (ab b h) o a (a + n) (nI v) = ab b (h.1, xs6 h.2 j (xfill n (xg6 h.2 j) a v)) := by
  unfold mv_fi
  refine ab_ca b h hm hj (fun k => ?_)
  rw [xfill_g]
  by_cases e : a ≤ k ∧ k < a + n
  · rw [if_pos e, if_pos e, xd_s]
  · rw [if_neg e, if_neg e]
    show (if o ∈ xA then xd (ep_g (xg6 h.2 (xA.idxOf o)) k) (mv_a b o k) else mv_a b o k) = _
    rw [if_pos hm, hj]
theorem ab_fl (b : mv_H) (h : xE) {o j : Nat} (a n v : Nat) (hm : o ∈ xB) (hj : 48 + xB.idxOf o = j) : mv_fl (ab b h) o a (a + n) (nJ v) = ab b (h.1, xs6 h.2 j (xfill n (xg6 h.2 j) a v)) := by
  unfold mv_fl
  refine ab_cb b h hm hj (fun k => ?_)
  rw [xfill_g]
  by_cases e : a ≤ k ∧ k < a + n
  · rw [if_pos e, if_pos e, xdl_s]
  · rw [if_neg e, if_neg e]
    show (if o ∈ xB then xdl (ep_g (xg6 h.2 (48 + xB.idxOf o)) k) (mv_b b o k) else mv_b b o k) = _
    rw [if_pos hm, hj]
/-- a byte, as an int -/
def xfit (v : Nat) : Bool := Nat.beq (xi2b v) v
theorem xfit_f {v : Nat} (h : xfit v = true) : fits .byte (.int (nI v)) = true := by
  have e := Nat.eq_of_beq_eq_true h
  rw [← e]
  have k : -128 ≤ (nI (xi2b v)).toInt ∧ (nI (xi2b v)).toInt ≤ 127 := by
    rw [xI_int]
    unfold xs xi2b
    cases h : Nat.blt (v % 256) 128
    · have h2 : ¬ v % 256 < 128 := fun q => by rw [Nat.blt_eq.mpr q] at h; cases h
      simp only [cond_false]
      omega
    · have h2 := Nat.blt_eq.mp h
      simp only [cond_true]
      omega
  exact fits_b k.1 k.2
def xcpy : Nat → Nat → Nat → Nat → Nat → Option Nat
  | 0, _, d, _, _ => some d
  | n + 1, s, d, sp, dp => xer (ep_g s sp) fun v => bif xfit v then xfz (ep_s d dp v) fun d => xcpy n s d (sp + 1) (dp + 1) else none
theorem xcpy_g : ∀ (n s d sp dp N : Nat), xcpy n s d sp dp = some N → (∀ i, i < n → ∃ v, ep_g s (sp + i) = v + 1 ∧ xfit v = true) ∧ ∀ (k : Nat) (x y : Int32), xd (ep_g N k) x = if dp ≤ k ∧ k < dp + n then xd (ep_g s (sp + (k - dp))) y else xd (ep_g d k) x := by
  intro n
  induction n with
  | zero => intro s d sp dp N h; cases h; exact ⟨fun i hi => by omega, fun k x y => (if_neg (by omega)).symm⟩
  | succ n ih =>
    intro s d sp dp N h
    obtain ⟨v, e1, h⟩ := xer_e (show xer (ep_g s sp) (fun v => bif xfit v then xfz (ep_s d dp v) fun d => xcpy n s d (sp + 1) (dp + 1) else none) = some N from h)
    cases hv : xfit v
    · rw [hv] at h; cases h
    · rw [hv] at h
      have h : xfz (ep_s d dp v) (fun d => xcpy n s d (sp + 1) (dp + 1)) = some N := h
      rw [xfz_e] at h
      obtain ⟨g1, g2⟩ := ih _ _ _ _ _ h
      refine ⟨fun i hi => ?_, fun k x y => ?_⟩
      · cases i with
        | zero => exact ⟨v, e1, hv⟩
        | succ i => rw [show sp + (i + 1) = sp + 1 + i by omega]; exact g1 i (by omega)
      · rw [g2 k x y, ep_gs]
        by_cases q : k = dp
        · rw [if_neg (by omega), if_pos q, if_pos (by omega), xd_s, q, Nat.sub_self, Nat.add_zero, e1]
          rfl
        · rw [if_neg q]
          by_cases q2 : dp + 1 ≤ k ∧ k < dp + 1 + n
          · rw [if_pos q2, if_pos (by omega), show sp + 1 + (k - (dp + 1)) = sp + (k - dp) by omega]
          · rw [if_neg q2, if_neg (by omega)]
theorem ab_cpy (b : mv_H) (h : xE) {o0 o1 j0 j1 sp dp n N : Nat} (hm0 : o0 ∈ xA) (hj0 : xA.idxOf o0 = j0) (hm1 : o1 ∈ xA) (hj1 : xA.idxOf o1 = j1) (e : xcpy n (xg6 h.2 j0) (xg6 h.2 j1) sp dp = some N) :
    mv_ca (ab b h) o1 (va_cpy (mv_a (ab b h) o0) (mv_a (ab b h) o1) sp dp n) = ab b (h.1, xs6 h.2 j1 N) ∧ ∀ i, i < n → fits .byte (.int (mv_a (ab b h) o0 (sp + i))) = true := by
  obtain ⟨g1, g2⟩ := xcpy_g _ _ _ _ _ _ e
  have r : ∀ {o j : Nat} (_ : o ∈ xA) (_ : xA.idxOf o = j) (k : Nat), mv_a (ab b h) o k = xd (ep_g (xg6 h.2 j) k) (mv_a b o k) := fun {o j} hm hj k => by
    show (if o ∈ xA then xd (ep_g (xg6 h.2 (xA.idxOf o)) k) (mv_a b o k) else mv_a b o k) = _
    rw [if_pos hm, hj]
  refine ⟨ab_ca b h hm1 hj1 (fun k => ?_), fun i hi => ?_⟩
  · unfold va_cpy
    rw [g2 k (mv_a b o1 k) (mv_a b o0 (sp + (k - dp)))]
    by_cases q : dp ≤ k ∧ k < dp + n
    · rw [if_pos q, if_pos q, r hm0 hj0]
    · rw [if_neg q, if_neg q, r hm1 hj1]
  · obtain ⟨v, e1, e2⟩ := g1 i hi
    rw [r hm0 hj0, e1]
    exact xfit_f e2
theorem xret_i {b : mv_H} {t v : Nat} {h g : xE} (hf : some (t, h) = some (v, g)) : nI t = nI v ∧ ab b h = ab b g := by cases hf; exact ⟨rfl, rfl⟩
theorem xret_l {b : mv_H} {t v : Nat} {h g : xE} (hf : some (t, h) = some (v, g)) : nJ t = nJ v ∧ ab b h = ab b g := by cases hf; exact ⟨rfl, rfl⟩
theorem xret_v {b : mv_H} {h g : xE} (hf : some h = some g) : ab b h = ab b g := by cases hf; rfl
def xop {α : Type} (o : Option Nat) (f : Nat → Option α) : Option α := match o with
  | none => none
  | some N => f N
theorem xop_e {α : Type} {o : Option Nat} {f : Nat → Option α} {r : α} (h : xop o f = some r) : ∃ N, o = some N ∧ f N = some r := by
  cases o with
  | none => cases h
  | some x => exact ⟨x, rfl, h⟩
theorem xf1 {k n : Nat} (q : k < n) (hn : n ≤ 2147483648) : (nI 0).toInt ≤ (nI k).toInt := by
  have h1 : (nI k).toInt = k := nI_toInt (by omega)
  have h2 : (nI 0).toInt = 0 := by decide
  omega
theorem xf2 {k n : Nat} (q : k < n + 1) (hn : n + 1 ≤ 2147483648) : (nI k).toInt ≤ n := by
  have h1 : (nI k).toInt = k := nI_toInt (by omega)
  omega
theorem xnn {k : Nat} (q : k < 2147483648) : ¬ nI k < 0 := by
  have h1 : (nI k).toInt = k := nI_toInt q
  rw [lt0]
  omega
def xR (r : Nat → Nat → Option Nat) : Prop := Rw 145 r ∧ r 3 4 = some 144
section MVY
variable {p : Program} {l : Launch} {e : Env} {R : Room} {s : State} {m : MethodId} {args : Array Value} {below : List Frame} {meth : Method} {c : Code} {G : mv_G} {ws : List Cond} {own : String} {cc : ByteArray} {nL : Nat} {cells slots : Nat} {Q : State → Prop} {pc : Nat} {L : List (Nat × Value)} {st rest : List Value}
theorem mvn_i2c {σ : mv_H} (B : mv_B p s m args meth c G ws own cc nL) {x : Nat} (hdg : decode cc pc = .ok (.i2c, 1)) (k : mv_V p l e R s m args below meth c G nL cells slots Q σ (pc + 1) L (.int (nI (x % 65536)) :: st)) : mv_V p l e R s m args below meth c G nL cells slots Q σ pc L (.int (nI x) :: st) := mv_i2c B hdg (by rw [xI_c]; exact k)
theorem mvn_copy {b : mv_H} {h : xE} (B : mv_B p s m args meth c G ws own cc nL) {index : Nat} (hlink : (Cond.methodLink own index arraycopyName).before args s = true) (hnat : (Cond.native arraycopyName).before args s = true) (hstat : (Cond.static arraycopyName).before args s = true) (hini : (Cond.initialized "java/lang/System").before args s = true)
    {o0 o1 n0 n1 j0 j1 sp dp n N : Nat} {L0 L1 : x6 → Nat} (hs0 : (mv_sh G)[o0]? = some (.inr (.byte, n0))) (hs1 : (mv_sh G)[o1]? = some (.inr (.byte, n1))) (b0 : n0 < 2147483647) (b1 : n1 < 2147483647) (q0 : sp + n < n0 + 1) (q1 : dp + n < n1 + 1) (e0 : ∀ t, L0 t = xg6 t j0) (e1 : ∀ t, L1 t = xg6 t j1) (hm0 : o0 ∈ xA) (hj0 : xA.idxOf o0 = j0) (hm1 : o1 ∈ xA) (hj1 : xA.idxOf o1 = j1) (hc : xcpy n (L0 h.2) (L1 h.2) sp dp = some N)
    (hframes : 1 ≤ R.frames) (hlocals : (rest.map fun v => v.category).sum + (nativeFrameWords "java/lang/System" "arraycopy" 5 + 11) ≤ R.locals) (hdg : decode cc pc = .ok (.invokestatic index, 3))
    (kk : mv_V p l e R s m args below meth c G nL cells slots Q (ab b (h.1, xs6 h.2 j1 N)) (pc + 3) L rest) :
    mv_V p l e R s m args below meth c G nL cells slots Q (ab b h) pc L (.int (nI n) :: .int (nI dp) :: .ref (mv_al G o1) :: .int (nI sp) :: .ref (mv_al G o0) :: rest) := by
  rw [e0, e1] at hc
  obtain ⟨g1, g2⟩ := ab_cpy b h hm0 hj0 hm1 hj1 hc
  refine mv_copyb B hlink hnat hstat hini hs0 hs1 (xnn (by omega)) (xnn (by omega)) (xnn (by omega)) ?_ ?_ ?_ hframes hlocals hdg ?_
  · rw [xcl (by omega), xcl (by omega)]; omega
  · rw [xcl (by omega), xcl (by omega)]; omega
  · rw [xcl (by omega), xcl (by omega)]; exact g2
  · rw [xcl (by omega), xcl (by omega), xcl (by omega), g1]; exact kk
end MVY
theorem xfi_2_4 {b : mv_H} {h : xE} {v : Nat} (e : ep_g h.1 0 = v + 1) : mv_i (ab b h) 2 4 = nI v := ab_i (by decide) (by decide) e
theorem xwi_2_4 (b : mv_H) (h : xE) (v : Nat) : mv_si (ab b h) 2 4 (nI v) = ab b (ep_s h.1 0 v, h.2) := ab_si b h v (by decide) (by decide)
theorem xfi_2_6 {b : mv_H} {h : xE} {v : Nat} (e : ep_g h.1 1 = v + 1) : mv_i (ab b h) 2 6 = nI v := ab_i (by decide) (by decide) e
theorem xwi_2_6 (b : mv_H) (h : xE) (v : Nat) : mv_si (ab b h) 2 6 (nI v) = ab b (ep_s h.1 1 v, h.2) := ab_si b h v (by decide) (by decide)
theorem xfi_2_7 {b : mv_H} {h : xE} {v : Nat} (e : ep_g h.1 2 = v + 1) : mv_i (ab b h) 2 7 = nI v := ab_i (by decide) (by decide) e
theorem xwi_2_7 (b : mv_H) (h : xE) (v : Nat) : mv_si (ab b h) 2 7 (nI v) = ab b (ep_s h.1 2 v, h.2) := ab_si b h v (by decide) (by decide)
theorem xfi_2_8 {b : mv_H} {h : xE} {v : Nat} (e : ep_g h.1 3 = v + 1) : mv_i (ab b h) 2 8 = nI v := ab_i (by decide) (by decide) e
theorem xwi_2_8 (b : mv_H) (h : xE) (v : Nat) : mv_si (ab b h) 2 8 (nI v) = ab b (ep_s h.1 3 v, h.2) := ab_si b h v (by decide) (by decide)
theorem xfi_2_9 {b : mv_H} {h : xE} {v : Nat} (e : ep_g h.1 4 = v + 1) : mv_i (ab b h) 2 9 = nI v := ab_i (by decide) (by decide) e
theorem xwi_2_9 (b : mv_H) (h : xE) (v : Nat) : mv_si (ab b h) 2 9 (nI v) = ab b (ep_s h.1 4 v, h.2) := ab_si b h v (by decide) (by decide)
theorem xfi_2_10 {b : mv_H} {h : xE} {v : Nat} (e : ep_g h.1 5 = v + 1) : mv_i (ab b h) 2 10 = nI v := ab_i (by decide) (by decide) e
theorem xwi_2_10 (b : mv_H) (h : xE) (v : Nat) : mv_si (ab b h) 2 10 (nI v) = ab b (ep_s h.1 5 v, h.2) := ab_si b h v (by decide) (by decide)
theorem xfi_2_15 {b : mv_H} {h : xE} {v : Nat} (e : ep_g h.1 6 = v + 1) : mv_i (ab b h) 2 15 = nI v := ab_i (by decide) (by decide) e
theorem xwi_2_15 (b : mv_H) (h : xE) (v : Nat) : mv_si (ab b h) 2 15 (nI v) = ab b (ep_s h.1 6 v, h.2) := ab_si b h v (by decide) (by decide)
theorem xfi_3_5 {b : mv_H} {h : xE} {v : Nat} (e : ep_g h.1 7 = v + 1) : mv_i (ab b h) 3 5 = nI v := ab_i (by decide) (by decide) e
theorem xwi_3_5 (b : mv_H) (h : xE) (v : Nat) : mv_si (ab b h) 3 5 (nI v) = ab b (ep_s h.1 7 v, h.2) := ab_si b h v (by decide) (by decide)
theorem xfi_3_6 {b : mv_H} {h : xE} {v : Nat} (e : ep_g h.1 8 = v + 1) : mv_i (ab b h) 3 6 = nI v := ab_i (by decide) (by decide) e
theorem xwi_3_6 (b : mv_H) (h : xE) (v : Nat) : mv_si (ab b h) 3 6 (nI v) = ab b (ep_s h.1 8 v, h.2) := ab_si b h v (by decide) (by decide)
theorem xfi_3_7 {b : mv_H} {h : xE} {v : Nat} (e : ep_g h.1 9 = v + 1) : mv_i (ab b h) 3 7 = nI v := ab_i (by decide) (by decide) e
theorem xwi_3_7 (b : mv_H) (h : xE) (v : Nat) : mv_si (ab b h) 3 7 (nI v) = ab b (ep_s h.1 9 v, h.2) := ab_si b h v (by decide) (by decide)
theorem xfi_3_8 {b : mv_H} {h : xE} {v : Nat} (e : ep_g h.1 10 = v + 1) : mv_i (ab b h) 3 8 = nI v := ab_i (by decide) (by decide) e
theorem xwi_3_8 (b : mv_H) (h : xE) (v : Nat) : mv_si (ab b h) 3 8 (nI v) = ab b (ep_s h.1 10 v, h.2) := ab_si b h v (by decide) (by decide)
theorem xfi_3_9 {b : mv_H} {h : xE} {v : Nat} (e : ep_g h.1 11 = v + 1) : mv_i (ab b h) 3 9 = nI v := ab_i (by decide) (by decide) e
theorem xwi_3_9 (b : mv_H) (h : xE) (v : Nat) : mv_si (ab b h) 3 9 (nI v) = ab b (ep_s h.1 11 v, h.2) := ab_si b h v (by decide) (by decide)
theorem xfi_7_5 {b : mv_H} {h : xE} {v : Nat} (e : ep_g h.1 12 = v + 1) : mv_i (ab b h) 7 5 = nI v := ab_i (by decide) (by decide) e
theorem xwi_7_5 (b : mv_H) (h : xE) (v : Nat) : mv_si (ab b h) 7 5 (nI v) = ab b (ep_s h.1 12 v, h.2) := ab_si b h v (by decide) (by decide)
theorem xfi_13_7 {b : mv_H} {h : xE} {v : Nat} (e : ep_g h.1 13 = v + 1) : mv_i (ab b h) 13 7 = nI v := ab_i (by decide) (by decide) e
theorem xwi_13_7 (b : mv_H) (h : xE) (v : Nat) : mv_si (ab b h) 13 7 (nI v) = ab b (ep_s h.1 13 v, h.2) := ab_si b h v (by decide) (by decide)
theorem xfi_13_9 {b : mv_H} {h : xE} {v : Nat} (e : ep_g h.1 14 = v + 1) : mv_i (ab b h) 13 9 = nI v := ab_i (by decide) (by decide) e
theorem xwi_13_9 (b : mv_H) (h : xE) (v : Nat) : mv_si (ab b h) 13 9 (nI v) = ab b (ep_s h.1 14 v, h.2) := ab_si b h v (by decide) (by decide)
theorem xfi_21_0 {b : mv_H} {h : xE} {v : Nat} (e : ep_g h.1 15 = v + 1) : mv_i (ab b h) 21 0 = nI v := ab_i (by decide) (by decide) e
theorem xwi_21_0 (b : mv_H) (h : xE) (v : Nat) : mv_si (ab b h) 21 0 (nI v) = ab b (ep_s h.1 15 v, h.2) := ab_si b h v (by decide) (by decide)
theorem xfi_21_1 {b : mv_H} {h : xE} {v : Nat} (e : ep_g h.1 16 = v + 1) : mv_i (ab b h) 21 1 = nI v := ab_i (by decide) (by decide) e
theorem xwi_21_1 (b : mv_H) (h : xE) (v : Nat) : mv_si (ab b h) 21 1 (nI v) = ab b (ep_s h.1 16 v, h.2) := ab_si b h v (by decide) (by decide)
theorem xfi_22_8 {b : mv_H} {h : xE} {v : Nat} (e : ep_g h.1 17 = v + 1) : mv_i (ab b h) 22 8 = nI v := ab_i (by decide) (by decide) e
theorem xwi_22_8 (b : mv_H) (h : xE) (v : Nat) : mv_si (ab b h) 22 8 (nI v) = ab b (ep_s h.1 17 v, h.2) := ab_si b h v (by decide) (by decide)
theorem xfi_22_10 {b : mv_H} {h : xE} {v : Nat} (e : ep_g h.1 18 = v + 1) : mv_i (ab b h) 22 10 = nI v := ab_i (by decide) (by decide) e
theorem xwi_22_10 (b : mv_H) (h : xE) (v : Nat) : mv_si (ab b h) 22 10 (nI v) = ab b (ep_s h.1 18 v, h.2) := ab_si b h v (by decide) (by decide)
theorem xfi_143_1 {b : mv_H} {h : xE} {v : Nat} (e : ep_g h.1 19 = v + 1) : mv_i (ab b h) 143 1 = nI v := ab_i (by decide) (by decide) e
theorem xwi_143_1 (b : mv_H) (h : xE) (v : Nat) : mv_si (ab b h) 143 1 (nI v) = ab b (ep_s h.1 19 v, h.2) := ab_si b h v (by decide) (by decide)
theorem xfi_145_0 {b : mv_H} {h : xE} {v : Nat} (e : ep_g h.1 20 = v + 1) : mv_i (ab b h) 145 0 = nI v := ab_i (by decide) (by decide) e
theorem xwi_145_0 (b : mv_H) (h : xE) (v : Nat) : mv_si (ab b h) 145 0 (nI v) = ab b (ep_s h.1 20 v, h.2) := ab_si b h v (by decide) (by decide)
theorem xfi_145_1 {b : mv_H} {h : xE} {v : Nat} (e : ep_g h.1 21 = v + 1) : mv_i (ab b h) 145 1 = nI v := ab_i (by decide) (by decide) e
theorem xwi_145_1 (b : mv_H) (h : xE) (v : Nat) : mv_si (ab b h) 145 1 (nI v) = ab b (ep_s h.1 21 v, h.2) := ab_si b h v (by decide) (by decide)
theorem xfi_145_6 {b : mv_H} {h : xE} {v : Nat} (e : ep_g h.1 22 = v + 1) : mv_i (ab b h) 145 6 = nI v := ab_i (by decide) (by decide) e
theorem xwi_145_6 (b : mv_H) (h : xE) (v : Nat) : mv_si (ab b h) 145 6 (nI v) = ab b (ep_s h.1 22 v, h.2) := ab_si b h v (by decide) (by decide)
theorem xfi_145_7 {b : mv_H} {h : xE} {v : Nat} (e : ep_g h.1 23 = v + 1) : mv_i (ab b h) 145 7 = nI v := ab_i (by decide) (by decide) e
theorem xwi_145_7 (b : mv_H) (h : xE) (v : Nat) : mv_si (ab b h) 145 7 (nI v) = ab b (ep_s h.1 23 v, h.2) := ab_si b h v (by decide) (by decide)
theorem xfi_145_8 {b : mv_H} {h : xE} {v : Nat} (e : ep_g h.1 24 = v + 1) : mv_i (ab b h) 145 8 = nI v := ab_i (by decide) (by decide) e
theorem xwi_145_8 (b : mv_H) (h : xE) (v : Nat) : mv_si (ab b h) 145 8 (nI v) = ab b (ep_s h.1 24 v, h.2) := ab_si b h v (by decide) (by decide)
theorem xfi_145_9 {b : mv_H} {h : xE} {v : Nat} (e : ep_g h.1 25 = v + 1) : mv_i (ab b h) 145 9 = nI v := ab_i (by decide) (by decide) e
theorem xwi_145_9 (b : mv_H) (h : xE) (v : Nat) : mv_si (ab b h) 145 9 (nI v) = ab b (ep_s h.1 25 v, h.2) := ab_si b h v (by decide) (by decide)
theorem xfi_145_10 {b : mv_H} {h : xE} {v : Nat} (e : ep_g h.1 26 = v + 1) : mv_i (ab b h) 145 10 = nI v := ab_i (by decide) (by decide) e
theorem xwi_145_10 (b : mv_H) (h : xE) (v : Nat) : mv_si (ab b h) 145 10 (nI v) = ab b (ep_s h.1 26 v, h.2) := ab_si b h v (by decide) (by decide)
theorem xfi_145_17 {b : mv_H} {h : xE} {v : Nat} (e : ep_g h.1 27 = v + 1) : mv_i (ab b h) 145 17 = nI v := ab_i (by decide) (by decide) e
theorem xwi_145_17 (b : mv_H) (h : xE) (v : Nat) : mv_si (ab b h) 145 17 (nI v) = ab b (ep_s h.1 27 v, h.2) := ab_si b h v (by decide) (by decide)
theorem xfi_156_4 {b : mv_H} {h : xE} {v : Nat} (e : ep_g h.1 28 = v + 1) : mv_i (ab b h) 156 4 = nI v := ab_i (by decide) (by decide) e
theorem xwi_156_4 (b : mv_H) (h : xE) (v : Nat) : mv_si (ab b h) 156 4 (nI v) = ab b (ep_s h.1 28 v, h.2) := ab_si b h v (by decide) (by decide)
def xL_4 (t : x6) : Nat := t.1.1.1.1.1.1
def xS_4 (t : x6) (N : Nat) : x6 := (match t with | (p0, q0) => ((match p0 with | (p1, q1) => ((match p1 with | (p2, q2) => ((match p2 with | (p3, q3) => ((match p3 with | (p4, q4) => ((match p4 with | (p5, q5) => (N, q5)), q4)), q3)), q2)), q1)), q0))
theorem xLe_4 (t : x6) : xL_4 t = xg6 t 0 := rfl
theorem xSe_4 (t : x6) (N : Nat) : xS_4 t N = xs6 t 0 N := rfl
theorem xfa_4 {b : mv_H} {h : xE} {k v : Nat} (q : k < 32770) (e : ep_g (xL_4 h.2) k = v + 1) : mv_a (ab b h) 4 (nI k).toNatClampNeg = nI v := by rw [xcl (by omega)]; exact ab_a (j := 0) (by decide) (by decide) e
theorem xwa_4 (b : mv_H) (h : xE) {k : Nat} (v : Nat) (q : k < 32770) : mv_sa (ab b h) 4 (nI k).toNatClampNeg (nI v) = ab b (h.1, xs6 h.2 0 (ep_s (xg6 h.2 0) k v)) := by rw [xcl (by omega)]; exact ab_sa b h k v (by decide) (by decide)
def xL_5 (t : x6) : Nat := t.2.1.1.1.1.1
def xS_5 (t : x6) (N : Nat) : x6 := (match t with | (p0, q0) => (p0, (match q0 with | (p1, q1) => ((match p1 with | (p2, q2) => ((match p2 with | (p3, q3) => ((match p3 with | (p4, q4) => ((match p4 with | (p5, q5) => (N, q5)), q4)), q3)), q2)), q1))))
theorem xLe_5 (t : x6) : xL_5 t = xg6 t 1 := rfl
theorem xSe_5 (t : x6) (N : Nat) : xS_5 t N = xs6 t 1 N := rfl
theorem xfa_5 {b : mv_H} {h : xE} {k v : Nat} (q : k < 32770) (e : ep_g (xL_5 h.2) k = v + 1) : mv_a (ab b h) 5 (nI k).toNatClampNeg = nI v := by rw [xcl (by omega)]; exact ab_a (j := 1) (by decide) (by decide) e
theorem xwa_5 (b : mv_H) (h : xE) {k : Nat} (v : Nat) (q : k < 32770) : mv_sa (ab b h) 5 (nI k).toNatClampNeg (nI v) = ab b (h.1, xs6 h.2 1 (ep_s (xg6 h.2 1) k v)) := by rw [xcl (by omega)]; exact ab_sa b h k v (by decide) (by decide)
def xL_8 (t : x6) : Nat := t.1.2.1.1.1.1
def xS_8 (t : x6) (N : Nat) : x6 := (match t with | (p0, q0) => ((match p0 with | (p1, q1) => (p1, (match q1 with | (p2, q2) => ((match p2 with | (p3, q3) => ((match p3 with | (p4, q4) => ((match p4 with | (p5, q5) => (N, q5)), q4)), q3)), q2)))), q0))
theorem xLe_8 (t : x6) : xL_8 t = xg6 t 2 := rfl
theorem xSe_8 (t : x6) (N : Nat) : xS_8 t N = xs6 t 2 N := rfl
theorem xfa_8 {b : mv_H} {h : xE} {k v : Nat} (q : k < 32896) (e : ep_g (xL_8 h.2) k = v + 1) : mv_a (ab b h) 8 (nI k).toNatClampNeg = nI v := by rw [xcl (by omega)]; exact ab_a (j := 2) (by decide) (by decide) e
theorem xwa_8 (b : mv_H) (h : xE) {k : Nat} (v : Nat) (q : k < 32896) : mv_sa (ab b h) 8 (nI k).toNatClampNeg (nI v) = ab b (h.1, xs6 h.2 2 (ep_s (xg6 h.2 2) k v)) := by rw [xcl (by omega)]; exact ab_sa b h k v (by decide) (by decide)
def xL_9 (t : x6) : Nat := t.2.2.1.1.1.1
def xS_9 (t : x6) (N : Nat) : x6 := (match t with | (p0, q0) => (p0, (match q0 with | (p1, q1) => (p1, (match q1 with | (p2, q2) => ((match p2 with | (p3, q3) => ((match p3 with | (p4, q4) => ((match p4 with | (p5, q5) => (N, q5)), q4)), q3)), q2))))))
theorem xLe_9 (t : x6) : xL_9 t = xg6 t 3 := rfl
theorem xSe_9 (t : x6) (N : Nat) : xS_9 t N = xs6 t 3 N := rfl
theorem xfa_9 {b : mv_H} {h : xE} {k v : Nat} (q : k < 16449) (e : ep_g (xL_9 h.2) k = v + 1) : mv_a (ab b h) 9 (nI k).toNatClampNeg = nI v := by rw [xcl (by omega)]; exact ab_a (j := 3) (by decide) (by decide) e
theorem xwa_9 (b : mv_H) (h : xE) {k : Nat} (v : Nat) (q : k < 16449) : mv_sa (ab b h) 9 (nI k).toNatClampNeg (nI v) = ab b (h.1, xs6 h.2 3 (ep_s (xg6 h.2 3) k v)) := by rw [xcl (by omega)]; exact ab_sa b h k v (by decide) (by decide)
def xL_10 (t : x6) : Nat := t.1.1.2.1.1.1
def xS_10 (t : x6) (N : Nat) : x6 := (match t with | (p0, q0) => ((match p0 with | (p1, q1) => ((match p1 with | (p2, q2) => (p2, (match q2 with | (p3, q3) => ((match p3 with | (p4, q4) => ((match p4 with | (p5, q5) => (N, q5)), q4)), q3)))), q1)), q0))
theorem xLe_10 (t : x6) : xL_10 t = xg6 t 4 := rfl
theorem xSe_10 (t : x6) (N : Nat) : xS_10 t N = xs6 t 4 N := rfl
theorem xfa_10 {b : mv_H} {h : xE} {k v : Nat} (q : k < 1024) (e : ep_g (xL_10 h.2) k = v + 1) : mv_a (ab b h) 10 (nI k).toNatClampNeg = nI v := by rw [xcl (by omega)]; exact ab_a (j := 4) (by decide) (by decide) e
theorem xwa_10 (b : mv_H) (h : xE) {k : Nat} (v : Nat) (q : k < 1024) : mv_sa (ab b h) 10 (nI k).toNatClampNeg (nI v) = ab b (h.1, xs6 h.2 4 (ep_s (xg6 h.2 4) k v)) := by rw [xcl (by omega)]; exact ab_sa b h k v (by decide) (by decide)
theorem xff_10 (b : mv_H) (h : xE) (v : Nat) : mv_fi (ab b h) 10 0 1024 (nI v) = ab b (h.1, xs6 h.2 4 (xfill 1024 (xL_10 h.2) 0 v)) := by have := ab_fi b h 0 1024 v (o := 10) (j := 4) (by decide) (by decide); rw [Nat.zero_add] at this; exact this
def xL_11 (t : x6) : Nat := t.2.1.2.1.1.1
def xS_11 (t : x6) (N : Nat) : x6 := (match t with | (p0, q0) => (p0, (match q0 with | (p1, q1) => ((match p1 with | (p2, q2) => (p2, (match q2 with | (p3, q3) => ((match p3 with | (p4, q4) => ((match p4 with | (p5, q5) => (N, q5)), q4)), q3)))), q1))))
theorem xLe_11 (t : x6) : xL_11 t = xg6 t 5 := rfl
theorem xSe_11 (t : x6) (N : Nat) : xS_11 t N = xs6 t 5 N := rfl
theorem xfa_11 {b : mv_H} {h : xE} {k v : Nat} (q : k < 16448) (e : ep_g (xL_11 h.2) k = v + 1) : mv_a (ab b h) 11 (nI k).toNatClampNeg = nI v := by rw [xcl (by omega)]; exact ab_a (j := 5) (by decide) (by decide) e
theorem xwa_11 (b : mv_H) (h : xE) {k : Nat} (v : Nat) (q : k < 16448) : mv_sa (ab b h) 11 (nI k).toNatClampNeg (nI v) = ab b (h.1, xs6 h.2 5 (ep_s (xg6 h.2 5) k v)) := by rw [xcl (by omega)]; exact ab_sa b h k v (by decide) (by decide)
def xL_12 (t : x6) : Nat := t.1.2.2.1.1.1
def xS_12 (t : x6) (N : Nat) : x6 := (match t with | (p0, q0) => ((match p0 with | (p1, q1) => (p1, (match q1 with | (p2, q2) => (p2, (match q2 with | (p3, q3) => ((match p3 with | (p4, q4) => ((match p4 with | (p5, q5) => (N, q5)), q4)), q3)))))), q0))
theorem xLe_12 (t : x6) : xL_12 t = xg6 t 6 := rfl
theorem xSe_12 (t : x6) (N : Nat) : xS_12 t N = xs6 t 6 N := rfl
theorem xfa_12 {b : mv_H} {h : xE} {k v : Nat} (q : k < 128) (e : ep_g (xL_12 h.2) k = v + 1) : mv_a (ab b h) 12 (nI k).toNatClampNeg = nI v := by rw [xcl (by omega)]; exact ab_a (j := 6) (by decide) (by decide) e
theorem xwa_12 (b : mv_H) (h : xE) {k : Nat} (v : Nat) (q : k < 128) : mv_sa (ab b h) 12 (nI k).toNatClampNeg (nI v) = ab b (h.1, xs6 h.2 6 (ep_s (xg6 h.2 6) k v)) := by rw [xcl (by omega)]; exact ab_sa b h k v (by decide) (by decide)
def xL_14 (t : x6) : Nat := t.2.2.2.1.1.1
def xS_14 (t : x6) (N : Nat) : x6 := (match t with | (p0, q0) => (p0, (match q0 with | (p1, q1) => (p1, (match q1 with | (p2, q2) => (p2, (match q2 with | (p3, q3) => ((match p3 with | (p4, q4) => ((match p4 with | (p5, q5) => (N, q5)), q4)), q3))))))))
theorem xLe_14 (t : x6) : xL_14 t = xg6 t 7 := rfl
theorem xSe_14 (t : x6) (N : Nat) : xS_14 t N = xs6 t 7 N := rfl
theorem xfa_14 {b : mv_H} {h : xE} {k v : Nat} (q : k < 16448) (e : ep_g (xL_14 h.2) k = v + 1) : mv_a (ab b h) 14 (nI k).toNatClampNeg = nI v := by rw [xcl (by omega)]; exact ab_a (j := 7) (by decide) (by decide) e
theorem xwa_14 (b : mv_H) (h : xE) {k : Nat} (v : Nat) (q : k < 16448) : mv_sa (ab b h) 14 (nI k).toNatClampNeg (nI v) = ab b (h.1, xs6 h.2 7 (ep_s (xg6 h.2 7) k v)) := by rw [xcl (by omega)]; exact ab_sa b h k v (by decide) (by decide)
theorem xfg_14 (b : mv_H) (h : xE) (k v : Nat) (q : k < 16449) : mv_fi (ab b h) 14 (nI 0).toNatClampNeg (nI k).toNatClampNeg (nI v) = ab b (h.1, xs6 h.2 7 (xfill k (xL_14 h.2) 0 v)) := by rw [xcl (by omega), xcl (by omega)]; have := ab_fi b h 0 k v (o := 14) (j := 7) (by decide) (by decide); rw [Nat.zero_add] at this; exact this
def xL_15 (t : x6) : Nat := t.1.1.1.2.1.1
def xS_15 (t : x6) (N : Nat) : x6 := (match t with | (p0, q0) => ((match p0 with | (p1, q1) => ((match p1 with | (p2, q2) => ((match p2 with | (p3, q3) => (p3, (match q3 with | (p4, q4) => ((match p4 with | (p5, q5) => (N, q5)), q4)))), q2)), q1)), q0))
theorem xLe_15 (t : x6) : xL_15 t = xg6 t 8 := rfl
theorem xSe_15 (t : x6) (N : Nat) : xS_15 t N = xs6 t 8 N := rfl
theorem xfa_15 {b : mv_H} {h : xE} {k v : Nat} (q : k < 16448) (e : ep_g (xL_15 h.2) k = v + 1) : mv_a (ab b h) 15 (nI k).toNatClampNeg = nI v := by rw [xcl (by omega)]; exact ab_a (j := 8) (by decide) (by decide) e
theorem xwa_15 (b : mv_H) (h : xE) {k : Nat} (v : Nat) (q : k < 16448) : mv_sa (ab b h) 15 (nI k).toNatClampNeg (nI v) = ab b (h.1, xs6 h.2 8 (ep_s (xg6 h.2 8) k v)) := by rw [xcl (by omega)]; exact ab_sa b h k v (by decide) (by decide)
def xL_16 (t : x6) : Nat := t.2.1.1.2.1.1
def xS_16 (t : x6) (N : Nat) : x6 := (match t with | (p0, q0) => (p0, (match q0 with | (p1, q1) => ((match p1 with | (p2, q2) => ((match p2 with | (p3, q3) => (p3, (match q3 with | (p4, q4) => ((match p4 with | (p5, q5) => (N, q5)), q4)))), q2)), q1))))
theorem xLe_16 (t : x6) : xL_16 t = xg6 t 9 := rfl
theorem xSe_16 (t : x6) (N : Nat) : xS_16 t N = xs6 t 9 N := rfl
theorem xfa_16 {b : mv_H} {h : xE} {k v : Nat} (q : k < 16448) (e : ep_g (xL_16 h.2) k = v + 1) : mv_a (ab b h) 16 (nI k).toNatClampNeg = nI v := by rw [xcl (by omega)]; exact ab_a (j := 9) (by decide) (by decide) e
theorem xwa_16 (b : mv_H) (h : xE) {k : Nat} (v : Nat) (q : k < 16448) : mv_sa (ab b h) 16 (nI k).toNatClampNeg (nI v) = ab b (h.1, xs6 h.2 9 (ep_s (xg6 h.2 9) k v)) := by rw [xcl (by omega)]; exact ab_sa b h k v (by decide) (by decide)
theorem xfg_16 (b : mv_H) (h : xE) (k v : Nat) (q : k < 16449) : mv_fi (ab b h) 16 (nI 0).toNatClampNeg (nI k).toNatClampNeg (nI v) = ab b (h.1, xs6 h.2 9 (xfill k (xL_16 h.2) 0 v)) := by rw [xcl (by omega), xcl (by omega)]; have := ab_fi b h 0 k v (o := 16) (j := 9) (by decide) (by decide); rw [Nat.zero_add] at this; exact this
def xL_17 (t : x6) : Nat := t.1.2.1.2.1.1
def xS_17 (t : x6) (N : Nat) : x6 := (match t with | (p0, q0) => ((match p0 with | (p1, q1) => (p1, (match q1 with | (p2, q2) => ((match p2 with | (p3, q3) => (p3, (match q3 with | (p4, q4) => ((match p4 with | (p5, q5) => (N, q5)), q4)))), q2)))), q0))
theorem xLe_17 (t : x6) : xL_17 t = xg6 t 10 := rfl
theorem xSe_17 (t : x6) (N : Nat) : xS_17 t N = xs6 t 10 N := rfl
theorem xfa_17 {b : mv_H} {h : xE} {k v : Nat} (q : k < 128) (e : ep_g (xL_17 h.2) k = v + 1) : mv_a (ab b h) 17 (nI k).toNatClampNeg = nI v := by rw [xcl (by omega)]; exact ab_a (j := 10) (by decide) (by decide) e
theorem xwa_17 (b : mv_H) (h : xE) {k : Nat} (v : Nat) (q : k < 128) : mv_sa (ab b h) 17 (nI k).toNatClampNeg (nI v) = ab b (h.1, xs6 h.2 10 (ep_s (xg6 h.2 10) k v)) := by rw [xcl (by omega)]; exact ab_sa b h k v (by decide) (by decide)
theorem xff_17 (b : mv_H) (h : xE) (v : Nat) : mv_fi (ab b h) 17 0 128 (nI v) = ab b (h.1, xs6 h.2 10 (xfill 128 (xL_17 h.2) 0 v)) := by have := ab_fi b h 0 128 v (o := 17) (j := 10) (by decide) (by decide); rw [Nat.zero_add] at this; exact this
def xL_19 (t : x6) : Nat := t.2.2.1.2.1.1
def xS_19 (t : x6) (N : Nat) : x6 := (match t with | (p0, q0) => (p0, (match q0 with | (p1, q1) => (p1, (match q1 with | (p2, q2) => ((match p2 with | (p3, q3) => (p3, (match q3 with | (p4, q4) => ((match p4 with | (p5, q5) => (N, q5)), q4)))), q2))))))
theorem xLe_19 (t : x6) : xL_19 t = xg6 t 11 := rfl
theorem xSe_19 (t : x6) (N : Nat) : xS_19 t N = xs6 t 11 N := rfl
theorem xfa_19 {b : mv_H} {h : xE} {k v : Nat} (q : k < 64) (e : ep_g (xL_19 h.2) k = v + 1) : mv_a (ab b h) 19 (nI k).toNatClampNeg = nI v := by rw [xcl (by omega)]; exact ab_a (j := 11) (by decide) (by decide) e
theorem xwa_19 (b : mv_H) (h : xE) {k : Nat} (v : Nat) (q : k < 64) : mv_sa (ab b h) 19 (nI k).toNatClampNeg (nI v) = ab b (h.1, xs6 h.2 11 (ep_s (xg6 h.2 11) k v)) := by rw [xcl (by omega)]; exact ab_sa b h k v (by decide) (by decide)
def xL_20 (t : x6) : Nat := t.1.1.2.2.1.1
def xS_20 (t : x6) (N : Nat) : x6 := (match t with | (p0, q0) => ((match p0 with | (p1, q1) => ((match p1 with | (p2, q2) => (p2, (match q2 with | (p3, q3) => (p3, (match q3 with | (p4, q4) => ((match p4 with | (p5, q5) => (N, q5)), q4)))))), q1)), q0))
theorem xLe_20 (t : x6) : xL_20 t = xg6 t 12 := rfl
theorem xSe_20 (t : x6) (N : Nat) : xS_20 t N = xs6 t 12 N := rfl
theorem xfa_20 {b : mv_H} {h : xE} {k v : Nat} (q : k < 64) (e : ep_g (xL_20 h.2) k = v + 1) : mv_a (ab b h) 20 (nI k).toNatClampNeg = nI v := by rw [xcl (by omega)]; exact ab_a (j := 12) (by decide) (by decide) e
theorem xwa_20 (b : mv_H) (h : xE) {k : Nat} (v : Nat) (q : k < 64) : mv_sa (ab b h) 20 (nI k).toNatClampNeg (nI v) = ab b (h.1, xs6 h.2 12 (ep_s (xg6 h.2 12) k v)) := by rw [xcl (by omega)]; exact ab_sa b h k v (by decide) (by decide)
def xL_23 (t : x6) : Nat := t.2.1.2.2.1.1
def xS_23 (t : x6) (N : Nat) : x6 := (match t with | (p0, q0) => (p0, (match q0 with | (p1, q1) => ((match p1 with | (p2, q2) => (p2, (match q2 with | (p3, q3) => (p3, (match q3 with | (p4, q4) => ((match p4 with | (p5, q5) => (N, q5)), q4)))))), q1))))
theorem xLe_23 (t : x6) : xL_23 t = xg6 t 13 := rfl
theorem xSe_23 (t : x6) (N : Nat) : xS_23 t N = xs6 t 13 N := rfl
theorem xfa_23 {b : mv_H} {h : xE} {k v : Nat} (q : k < 1024) (e : ep_g (xL_23 h.2) k = v + 1) : mv_a (ab b h) 23 (nI k).toNatClampNeg = nI v := by rw [xcl (by omega)]; exact ab_a (j := 13) (by decide) (by decide) e
theorem xwa_23 (b : mv_H) (h : xE) {k : Nat} (v : Nat) (q : k < 1024) : mv_sa (ab b h) 23 (nI k).toNatClampNeg (nI v) = ab b (h.1, xs6 h.2 13 (ep_s (xg6 h.2 13) k v)) := by rw [xcl (by omega)]; exact ab_sa b h k v (by decide) (by decide)
def xL_24 (t : x6) : Nat := t.1.2.2.2.1.1
def xS_24 (t : x6) (N : Nat) : x6 := (match t with | (p0, q0) => ((match p0 with | (p1, q1) => (p1, (match q1 with | (p2, q2) => (p2, (match q2 with | (p3, q3) => (p3, (match q3 with | (p4, q4) => ((match p4 with | (p5, q5) => (N, q5)), q4)))))))), q0))
theorem xLe_24 (t : x6) : xL_24 t = xg6 t 14 := rfl
theorem xSe_24 (t : x6) (N : Nat) : xS_24 t N = xs6 t 14 N := rfl
theorem xfa_24 {b : mv_H} {h : xE} {k v : Nat} (q : k < 1024) (e : ep_g (xL_24 h.2) k = v + 1) : mv_a (ab b h) 24 (nI k).toNatClampNeg = nI v := by rw [xcl (by omega)]; exact ab_a (j := 14) (by decide) (by decide) e
theorem xwa_24 (b : mv_H) (h : xE) {k : Nat} (v : Nat) (q : k < 1024) : mv_sa (ab b h) 24 (nI k).toNatClampNeg (nI v) = ab b (h.1, xs6 h.2 14 (ep_s (xg6 h.2 14) k v)) := by rw [xcl (by omega)]; exact ab_sa b h k v (by decide) (by decide)
def xL_25 (t : x6) : Nat := t.2.2.2.2.1.1
def xS_25 (t : x6) (N : Nat) : x6 := (match t with | (p0, q0) => (p0, (match q0 with | (p1, q1) => (p1, (match q1 with | (p2, q2) => (p2, (match q2 with | (p3, q3) => (p3, (match q3 with | (p4, q4) => ((match p4 with | (p5, q5) => (N, q5)), q4))))))))))
theorem xLe_25 (t : x6) : xL_25 t = xg6 t 15 := rfl
theorem xSe_25 (t : x6) (N : Nat) : xS_25 t N = xs6 t 15 N := rfl
theorem xfa_25 {b : mv_H} {h : xE} {k v : Nat} (q : k < 1024) (e : ep_g (xL_25 h.2) k = v + 1) : mv_a (ab b h) 25 (nI k).toNatClampNeg = nI v := by rw [xcl (by omega)]; exact ab_a (j := 15) (by decide) (by decide) e
theorem xwa_25 (b : mv_H) (h : xE) {k : Nat} (v : Nat) (q : k < 1024) : mv_sa (ab b h) 25 (nI k).toNatClampNeg (nI v) = ab b (h.1, xs6 h.2 15 (ep_s (xg6 h.2 15) k v)) := by rw [xcl (by omega)]; exact ab_sa b h k v (by decide) (by decide)
def xL_26 (t : x6) : Nat := t.1.1.1.1.2.1
def xS_26 (t : x6) (N : Nat) : x6 := (match t with | (p0, q0) => ((match p0 with | (p1, q1) => ((match p1 with | (p2, q2) => ((match p2 with | (p3, q3) => ((match p3 with | (p4, q4) => (p4, (match q4 with | (p5, q5) => (N, q5)))), q3)), q2)), q1)), q0))
theorem xLe_26 (t : x6) : xL_26 t = xg6 t 16 := rfl
theorem xSe_26 (t : x6) (N : Nat) : xS_26 t N = xs6 t 16 N := rfl
theorem xfa_26 {b : mv_H} {h : xE} {k v : Nat} (q : k < 1024) (e : ep_g (xL_26 h.2) k = v + 1) : mv_a (ab b h) 26 (nI k).toNatClampNeg = nI v := by rw [xcl (by omega)]; exact ab_a (j := 16) (by decide) (by decide) e
theorem xwa_26 (b : mv_H) (h : xE) {k : Nat} (v : Nat) (q : k < 1024) : mv_sa (ab b h) 26 (nI k).toNatClampNeg (nI v) = ab b (h.1, xs6 h.2 16 (ep_s (xg6 h.2 16) k v)) := by rw [xcl (by omega)]; exact ab_sa b h k v (by decide) (by decide)
def xL_27 (t : x6) : Nat := t.2.1.1.1.2.1
def xS_27 (t : x6) (N : Nat) : x6 := (match t with | (p0, q0) => (p0, (match q0 with | (p1, q1) => ((match p1 with | (p2, q2) => ((match p2 with | (p3, q3) => ((match p3 with | (p4, q4) => (p4, (match q4 with | (p5, q5) => (N, q5)))), q3)), q2)), q1))))
theorem xLe_27 (t : x6) : xL_27 t = xg6 t 17 := rfl
theorem xSe_27 (t : x6) (N : Nat) : xS_27 t N = xs6 t 17 N := rfl
theorem xfa_27 {b : mv_H} {h : xE} {k v : Nat} (q : k < 1024) (e : ep_g (xL_27 h.2) k = v + 1) : mv_a (ab b h) 27 (nI k).toNatClampNeg = nI v := by rw [xcl (by omega)]; exact ab_a (j := 17) (by decide) (by decide) e
theorem xwa_27 (b : mv_H) (h : xE) {k : Nat} (v : Nat) (q : k < 1024) : mv_sa (ab b h) 27 (nI k).toNatClampNeg (nI v) = ab b (h.1, xs6 h.2 17 (ep_s (xg6 h.2 17) k v)) := by rw [xcl (by omega)]; exact ab_sa b h k v (by decide) (by decide)
def xL_28 (t : x6) : Nat := t.1.2.1.1.2.1
def xS_28 (t : x6) (N : Nat) : x6 := (match t with | (p0, q0) => ((match p0 with | (p1, q1) => (p1, (match q1 with | (p2, q2) => ((match p2 with | (p3, q3) => ((match p3 with | (p4, q4) => (p4, (match q4 with | (p5, q5) => (N, q5)))), q3)), q2)))), q0))
theorem xLe_28 (t : x6) : xL_28 t = xg6 t 18 := rfl
theorem xSe_28 (t : x6) (N : Nat) : xS_28 t N = xs6 t 18 N := rfl
theorem xfa_28 {b : mv_H} {h : xE} {k v : Nat} (q : k < 61) (e : ep_g (xL_28 h.2) k = v + 1) : mv_a (ab b h) 28 (nI k).toNatClampNeg = nI v := by rw [xcl (by omega)]; exact ab_a (j := 18) (by decide) (by decide) e
theorem xwa_28 (b : mv_H) (h : xE) {k : Nat} (v : Nat) (q : k < 61) : mv_sa (ab b h) 28 (nI k).toNatClampNeg (nI v) = ab b (h.1, xs6 h.2 18 (ep_s (xg6 h.2 18) k v)) := by rw [xcl (by omega)]; exact ab_sa b h k v (by decide) (by decide)
def xL_29 (t : x6) : Nat := t.2.2.1.1.2.1
def xS_29 (t : x6) (N : Nat) : x6 := (match t with | (p0, q0) => (p0, (match q0 with | (p1, q1) => (p1, (match q1 with | (p2, q2) => ((match p2 with | (p3, q3) => ((match p3 with | (p4, q4) => (p4, (match q4 with | (p5, q5) => (N, q5)))), q3)), q2))))))
theorem xLe_29 (t : x6) : xL_29 t = xg6 t 19 := rfl
theorem xSe_29 (t : x6) (N : Nat) : xS_29 t N = xs6 t 19 N := rfl
theorem xfa_29 {b : mv_H} {h : xE} {k v : Nat} (q : k < 61) (e : ep_g (xL_29 h.2) k = v + 1) : mv_a (ab b h) 29 (nI k).toNatClampNeg = nI v := by rw [xcl (by omega)]; exact ab_a (j := 19) (by decide) (by decide) e
theorem xwa_29 (b : mv_H) (h : xE) {k : Nat} (v : Nat) (q : k < 61) : mv_sa (ab b h) 29 (nI k).toNatClampNeg (nI v) = ab b (h.1, xs6 h.2 19 (ep_s (xg6 h.2 19) k v)) := by rw [xcl (by omega)]; exact ab_sa b h k v (by decide) (by decide)
def xL_30 (t : x6) : Nat := t.1.1.2.1.2.1
def xS_30 (t : x6) (N : Nat) : x6 := (match t with | (p0, q0) => ((match p0 with | (p1, q1) => ((match p1 with | (p2, q2) => (p2, (match q2 with | (p3, q3) => ((match p3 with | (p4, q4) => (p4, (match q4 with | (p5, q5) => (N, q5)))), q3)))), q1)), q0))
theorem xLe_30 (t : x6) : xL_30 t = xg6 t 20 := rfl
theorem xSe_30 (t : x6) (N : Nat) : xS_30 t N = xs6 t 20 N := rfl
theorem xfa_30 {b : mv_H} {h : xE} {k v : Nat} (q : k < 61) (e : ep_g (xL_30 h.2) k = v + 1) : mv_a (ab b h) 30 (nI k).toNatClampNeg = nI v := by rw [xcl (by omega)]; exact ab_a (j := 20) (by decide) (by decide) e
theorem xwa_30 (b : mv_H) (h : xE) {k : Nat} (v : Nat) (q : k < 61) : mv_sa (ab b h) 30 (nI k).toNatClampNeg (nI v) = ab b (h.1, xs6 h.2 20 (ep_s (xg6 h.2 20) k v)) := by rw [xcl (by omega)]; exact ab_sa b h k v (by decide) (by decide)
def xL_31 (t : x6) : Nat := t.2.1.2.1.2.1
def xS_31 (t : x6) (N : Nat) : x6 := (match t with | (p0, q0) => (p0, (match q0 with | (p1, q1) => ((match p1 with | (p2, q2) => (p2, (match q2 with | (p3, q3) => ((match p3 with | (p4, q4) => (p4, (match q4 with | (p5, q5) => (N, q5)))), q3)))), q1))))
theorem xLe_31 (t : x6) : xL_31 t = xg6 t 21 := rfl
theorem xSe_31 (t : x6) (N : Nat) : xS_31 t N = xs6 t 21 N := rfl
theorem xfa_31 {b : mv_H} {h : xE} {k v : Nat} (q : k < 61) (e : ep_g (xL_31 h.2) k = v + 1) : mv_a (ab b h) 31 (nI k).toNatClampNeg = nI v := by rw [xcl (by omega)]; exact ab_a (j := 21) (by decide) (by decide) e
theorem xwa_31 (b : mv_H) (h : xE) {k : Nat} (v : Nat) (q : k < 61) : mv_sa (ab b h) 31 (nI k).toNatClampNeg (nI v) = ab b (h.1, xs6 h.2 21 (ep_s (xg6 h.2 21) k v)) := by rw [xcl (by omega)]; exact ab_sa b h k v (by decide) (by decide)
def xL_144 (t : x6) : Nat := t.1.2.2.1.2.1
def xS_144 (t : x6) (N : Nat) : x6 := (match t with | (p0, q0) => ((match p0 with | (p1, q1) => (p1, (match q1 with | (p2, q2) => (p2, (match q2 with | (p3, q3) => ((match p3 with | (p4, q4) => (p4, (match q4 with | (p5, q5) => (N, q5)))), q3)))))), q0))
theorem xLe_144 (t : x6) : xL_144 t = xg6 t 22 := rfl
theorem xSe_144 (t : x6) (N : Nat) : xS_144 t N = xs6 t 22 N := rfl
theorem xfa_144 {b : mv_H} {h : xE} {k v : Nat} (q : k < 8192) (e : ep_g (xL_144 h.2) k = v + 1) : mv_a (ab b h) 144 (nI k).toNatClampNeg = nI v := by rw [xcl (by omega)]; exact ab_a (j := 22) (by decide) (by decide) e
theorem xwa_144 (b : mv_H) (h : xE) {k : Nat} (v : Nat) (q : k < 8192) : mv_sa (ab b h) 144 (nI k).toNatClampNeg (nI v) = ab b (h.1, xs6 h.2 22 (ep_s (xg6 h.2 22) k v)) := by rw [xcl (by omega)]; exact ab_sa b h k v (by decide) (by decide)
def xL_146 (t : x6) : Nat := t.2.2.2.1.2.1
def xS_146 (t : x6) (N : Nat) : x6 := (match t with | (p0, q0) => (p0, (match q0 with | (p1, q1) => (p1, (match q1 with | (p2, q2) => (p2, (match q2 with | (p3, q3) => ((match p3 with | (p4, q4) => (p4, (match q4 with | (p5, q5) => (N, q5)))), q3))))))))
theorem xLe_146 (t : x6) : xL_146 t = xg6 t 23 := rfl
theorem xSe_146 (t : x6) (N : Nat) : xS_146 t N = xs6 t 23 N := rfl
theorem xfa_146 {b : mv_H} {h : xE} {k v : Nat} (q : k < 64) (e : ep_g (xL_146 h.2) k = v + 1) : mv_a (ab b h) 146 (nI k).toNatClampNeg = nI v := by rw [xcl (by omega)]; exact ab_a (j := 23) (by decide) (by decide) e
theorem xwa_146 (b : mv_H) (h : xE) {k : Nat} (v : Nat) (q : k < 64) : mv_sa (ab b h) 146 (nI k).toNatClampNeg (nI v) = ab b (h.1, xs6 h.2 23 (ep_s (xg6 h.2 23) k v)) := by rw [xcl (by omega)]; exact ab_sa b h k v (by decide) (by decide)
def xL_147 (t : x6) : Nat := t.1.1.1.2.2.1
def xS_147 (t : x6) (N : Nat) : x6 := (match t with | (p0, q0) => ((match p0 with | (p1, q1) => ((match p1 with | (p2, q2) => ((match p2 with | (p3, q3) => (p3, (match q3 with | (p4, q4) => (p4, (match q4 with | (p5, q5) => (N, q5)))))), q2)), q1)), q0))
theorem xLe_147 (t : x6) : xL_147 t = xg6 t 24 := rfl
theorem xSe_147 (t : x6) (N : Nat) : xS_147 t N = xs6 t 24 N := rfl
theorem xfa_147 {b : mv_H} {h : xE} {k v : Nat} (q : k < 64) (e : ep_g (xL_147 h.2) k = v + 1) : mv_a (ab b h) 147 (nI k).toNatClampNeg = nI v := by rw [xcl (by omega)]; exact ab_a (j := 24) (by decide) (by decide) e
theorem xwa_147 (b : mv_H) (h : xE) {k : Nat} (v : Nat) (q : k < 64) : mv_sa (ab b h) 147 (nI k).toNatClampNeg (nI v) = ab b (h.1, xs6 h.2 24 (ep_s (xg6 h.2 24) k v)) := by rw [xcl (by omega)]; exact ab_sa b h k v (by decide) (by decide)
def xL_148 (t : x6) : Nat := t.2.1.1.2.2.1
def xS_148 (t : x6) (N : Nat) : x6 := (match t with | (p0, q0) => (p0, (match q0 with | (p1, q1) => ((match p1 with | (p2, q2) => ((match p2 with | (p3, q3) => (p3, (match q3 with | (p4, q4) => (p4, (match q4 with | (p5, q5) => (N, q5)))))), q2)), q1))))
theorem xLe_148 (t : x6) : xL_148 t = xg6 t 25 := rfl
theorem xSe_148 (t : x6) (N : Nat) : xS_148 t N = xs6 t 25 N := rfl
theorem xfa_148 {b : mv_H} {h : xE} {k v : Nat} (q : k < 64) (e : ep_g (xL_148 h.2) k = v + 1) : mv_a (ab b h) 148 (nI k).toNatClampNeg = nI v := by rw [xcl (by omega)]; exact ab_a (j := 25) (by decide) (by decide) e
theorem xwa_148 (b : mv_H) (h : xE) {k : Nat} (v : Nat) (q : k < 64) : mv_sa (ab b h) 148 (nI k).toNatClampNeg (nI v) = ab b (h.1, xs6 h.2 25 (ep_s (xg6 h.2 25) k v)) := by rw [xcl (by omega)]; exact ab_sa b h k v (by decide) (by decide)
def xL_149 (t : x6) : Nat := t.1.2.1.2.2.1
def xS_149 (t : x6) (N : Nat) : x6 := (match t with | (p0, q0) => ((match p0 with | (p1, q1) => (p1, (match q1 with | (p2, q2) => ((match p2 with | (p3, q3) => (p3, (match q3 with | (p4, q4) => (p4, (match q4 with | (p5, q5) => (N, q5)))))), q2)))), q0))
theorem xLe_149 (t : x6) : xL_149 t = xg6 t 26 := rfl
theorem xSe_149 (t : x6) (N : Nat) : xS_149 t N = xs6 t 26 N := rfl
theorem xfa_149 {b : mv_H} {h : xE} {k v : Nat} (q : k < 64) (e : ep_g (xL_149 h.2) k = v + 1) : mv_a (ab b h) 149 (nI k).toNatClampNeg = nI v := by rw [xcl (by omega)]; exact ab_a (j := 26) (by decide) (by decide) e
theorem xwa_149 (b : mv_H) (h : xE) {k : Nat} (v : Nat) (q : k < 64) : mv_sa (ab b h) 149 (nI k).toNatClampNeg (nI v) = ab b (h.1, xs6 h.2 26 (ep_s (xg6 h.2 26) k v)) := by rw [xcl (by omega)]; exact ab_sa b h k v (by decide) (by decide)
def xL_152 (t : x6) : Nat := t.2.2.1.2.2.1
def xS_152 (t : x6) (N : Nat) : x6 := (match t with | (p0, q0) => (p0, (match q0 with | (p1, q1) => (p1, (match q1 with | (p2, q2) => ((match p2 with | (p3, q3) => (p3, (match q3 with | (p4, q4) => (p4, (match q4 with | (p5, q5) => (N, q5)))))), q2))))))
theorem xLe_152 (t : x6) : xL_152 t = xg6 t 27 := rfl
theorem xSe_152 (t : x6) (N : Nat) : xS_152 t N = xs6 t 27 N := rfl
theorem xfa_152 {b : mv_H} {h : xE} {k v : Nat} (q : k < 48) (e : ep_g (xL_152 h.2) k = v + 1) : mv_a (ab b h) 152 (nI k).toNatClampNeg = nI v := by rw [xcl (by omega)]; exact ab_a (j := 27) (by decide) (by decide) e
theorem xwa_152 (b : mv_H) (h : xE) {k : Nat} (v : Nat) (q : k < 48) : mv_sa (ab b h) 152 (nI k).toNatClampNeg (nI v) = ab b (h.1, xs6 h.2 27 (ep_s (xg6 h.2 27) k v)) := by rw [xcl (by omega)]; exact ab_sa b h k v (by decide) (by decide)
def xL_153 (t : x6) : Nat := t.1.1.2.2.2.1
def xS_153 (t : x6) (N : Nat) : x6 := (match t with | (p0, q0) => ((match p0 with | (p1, q1) => ((match p1 with | (p2, q2) => (p2, (match q2 with | (p3, q3) => (p3, (match q3 with | (p4, q4) => (p4, (match q4 with | (p5, q5) => (N, q5)))))))), q1)), q0))
theorem xLe_153 (t : x6) : xL_153 t = xg6 t 28 := rfl
theorem xSe_153 (t : x6) (N : Nat) : xS_153 t N = xs6 t 28 N := rfl
theorem xfa_153 {b : mv_H} {h : xE} {k v : Nat} (q : k < 3072) (e : ep_g (xL_153 h.2) k = v + 1) : mv_a (ab b h) 153 (nI k).toNatClampNeg = nI v := by rw [xcl (by omega)]; exact ab_a (j := 28) (by decide) (by decide) e
theorem xwa_153 (b : mv_H) (h : xE) {k : Nat} (v : Nat) (q : k < 3072) : mv_sa (ab b h) 153 (nI k).toNatClampNeg (nI v) = ab b (h.1, xs6 h.2 28 (ep_s (xg6 h.2 28) k v)) := by rw [xcl (by omega)]; exact ab_sa b h k v (by decide) (by decide)
def xL_154 (t : x6) : Nat := t.2.1.2.2.2.1
def xS_154 (t : x6) (N : Nat) : x6 := (match t with | (p0, q0) => (p0, (match q0 with | (p1, q1) => ((match p1 with | (p2, q2) => (p2, (match q2 with | (p3, q3) => (p3, (match q3 with | (p4, q4) => (p4, (match q4 with | (p5, q5) => (N, q5)))))))), q1))))
theorem xLe_154 (t : x6) : xL_154 t = xg6 t 29 := rfl
theorem xSe_154 (t : x6) (N : Nat) : xS_154 t N = xs6 t 29 N := rfl
theorem xfa_154 {b : mv_H} {h : xE} {k v : Nat} (q : k < 8192) (e : ep_g (xL_154 h.2) k = v + 1) : mv_a (ab b h) 154 (nI k).toNatClampNeg = nI v := by rw [xcl (by omega)]; exact ab_a (j := 29) (by decide) (by decide) e
theorem xwa_154 (b : mv_H) (h : xE) {k : Nat} (v : Nat) (q : k < 8192) : mv_sa (ab b h) 154 (nI k).toNatClampNeg (nI v) = ab b (h.1, xs6 h.2 29 (ep_s (xg6 h.2 29) k v)) := by rw [xcl (by omega)]; exact ab_sa b h k v (by decide) (by decide)
def xL_157 (t : x6) : Nat := t.1.2.2.2.2.1
def xS_157 (t : x6) (N : Nat) : x6 := (match t with | (p0, q0) => ((match p0 with | (p1, q1) => (p1, (match q1 with | (p2, q2) => (p2, (match q2 with | (p3, q3) => (p3, (match q3 with | (p4, q4) => (p4, (match q4 with | (p5, q5) => (N, q5)))))))))), q0))
theorem xLe_157 (t : x6) : xL_157 t = xg6 t 30 := rfl
theorem xSe_157 (t : x6) (N : Nat) : xS_157 t N = xs6 t 30 N := rfl
theorem xfa_157 {b : mv_H} {h : xE} {k v : Nat} (q : k < 48) (e : ep_g (xL_157 h.2) k = v + 1) : mv_a (ab b h) 157 (nI k).toNatClampNeg = nI v := by rw [xcl (by omega)]; exact ab_a (j := 30) (by decide) (by decide) e
theorem xwa_157 (b : mv_H) (h : xE) {k : Nat} (v : Nat) (q : k < 48) : mv_sa (ab b h) 157 (nI k).toNatClampNeg (nI v) = ab b (h.1, xs6 h.2 30 (ep_s (xg6 h.2 30) k v)) := by rw [xcl (by omega)]; exact ab_sa b h k v (by decide) (by decide)
def xL_158 (t : x6) : Nat := t.2.2.2.2.2.1
def xS_158 (t : x6) (N : Nat) : x6 := (match t with | (p0, q0) => (p0, (match q0 with | (p1, q1) => (p1, (match q1 with | (p2, q2) => (p2, (match q2 with | (p3, q3) => (p3, (match q3 with | (p4, q4) => (p4, (match q4 with | (p5, q5) => (N, q5))))))))))))
theorem xLe_158 (t : x6) : xL_158 t = xg6 t 31 := rfl
theorem xSe_158 (t : x6) (N : Nat) : xS_158 t N = xs6 t 31 N := rfl
theorem xfa_158 {b : mv_H} {h : xE} {k v : Nat} (q : k < 97) (e : ep_g (xL_158 h.2) k = v + 1) : mv_a (ab b h) 158 (nI k).toNatClampNeg = nI v := by rw [xcl (by omega)]; exact ab_a (j := 31) (by decide) (by decide) e
theorem xwa_158 (b : mv_H) (h : xE) {k : Nat} (v : Nat) (q : k < 97) : mv_sa (ab b h) 158 (nI k).toNatClampNeg (nI v) = ab b (h.1, xs6 h.2 31 (ep_s (xg6 h.2 31) k v)) := by rw [xcl (by omega)]; exact ab_sa b h k v (by decide) (by decide)
def xL_159 (t : x6) : Nat := t.1.1.1.1.1.2
def xS_159 (t : x6) (N : Nat) : x6 := (match t with | (p0, q0) => ((match p0 with | (p1, q1) => ((match p1 with | (p2, q2) => ((match p2 with | (p3, q3) => ((match p3 with | (p4, q4) => ((match p4 with | (p5, q5) => (p5, N)), q4)), q3)), q2)), q1)), q0))
theorem xLe_159 (t : x6) : xL_159 t = xg6 t 32 := rfl
theorem xSe_159 (t : x6) (N : Nat) : xS_159 t N = xs6 t 32 N := rfl
theorem xfa_159 {b : mv_H} {h : xE} {k v : Nat} (q : k < 97) (e : ep_g (xL_159 h.2) k = v + 1) : mv_a (ab b h) 159 (nI k).toNatClampNeg = nI v := by rw [xcl (by omega)]; exact ab_a (j := 32) (by decide) (by decide) e
theorem xwa_159 (b : mv_H) (h : xE) {k : Nat} (v : Nat) (q : k < 97) : mv_sa (ab b h) 159 (nI k).toNatClampNeg (nI v) = ab b (h.1, xs6 h.2 32 (ep_s (xg6 h.2 32) k v)) := by rw [xcl (by omega)]; exact ab_sa b h k v (by decide) (by decide)
def xL_160 (t : x6) : Nat := t.2.1.1.1.1.2
def xS_160 (t : x6) (N : Nat) : x6 := (match t with | (p0, q0) => (p0, (match q0 with | (p1, q1) => ((match p1 with | (p2, q2) => ((match p2 with | (p3, q3) => ((match p3 with | (p4, q4) => ((match p4 with | (p5, q5) => (p5, N)), q4)), q3)), q2)), q1))))
theorem xLe_160 (t : x6) : xL_160 t = xg6 t 33 := rfl
theorem xSe_160 (t : x6) (N : Nat) : xS_160 t N = xs6 t 33 N := rfl
theorem xfa_160 {b : mv_H} {h : xE} {k v : Nat} (q : k < 97) (e : ep_g (xL_160 h.2) k = v + 1) : mv_a (ab b h) 160 (nI k).toNatClampNeg = nI v := by rw [xcl (by omega)]; exact ab_a (j := 33) (by decide) (by decide) e
theorem xwa_160 (b : mv_H) (h : xE) {k : Nat} (v : Nat) (q : k < 97) : mv_sa (ab b h) 160 (nI k).toNatClampNeg (nI v) = ab b (h.1, xs6 h.2 33 (ep_s (xg6 h.2 33) k v)) := by rw [xcl (by omega)]; exact ab_sa b h k v (by decide) (by decide)
def xL_6 (t : x6) : Nat := t.1.1.1.1.2.2
def xS_6 (t : x6) (N : Nat) : x6 := (match t with | (p0, q0) => ((match p0 with | (p1, q1) => ((match p1 with | (p2, q2) => ((match p2 with | (p3, q3) => ((match p3 with | (p4, q4) => (p4, (match q4 with | (p5, q5) => (p5, N)))), q3)), q2)), q1)), q0))
theorem xLe_6 (t : x6) : xL_6 t = xg6 t 48 := rfl
theorem xSe_6 (t : x6) (N : Nat) : xS_6 t N = xs6 t 48 N := rfl
theorem xfb_6 {b : mv_H} {h : xE} {k v : Nat} (q : k < 32770) (e : ep_g (xL_6 h.2) k = v + 1) : mv_b (ab b h) 6 (nI k).toNatClampNeg = nJ v := by rw [xcl (by omega)]; exact ab_b (j := 48) (by decide) (by decide) e
theorem xwb_6 (b : mv_H) (h : xE) {k : Nat} (v : Nat) (q : k < 32770) : mv_sb (ab b h) 6 (nI k).toNatClampNeg (nJ v) = ab b (h.1, xs6 h.2 48 (ep_s (xg6 h.2 48) k v)) := by rw [xcl (by omega)]; exact ab_sb b h k v (by decide) (by decide)
def xL_18 (t : x6) : Nat := t.2.1.1.1.2.2
def xS_18 (t : x6) (N : Nat) : x6 := (match t with | (p0, q0) => (p0, (match q0 with | (p1, q1) => ((match p1 with | (p2, q2) => ((match p2 with | (p3, q3) => ((match p3 with | (p4, q4) => (p4, (match q4 with | (p5, q5) => (p5, N)))), q3)), q2)), q1))))
theorem xLe_18 (t : x6) : xL_18 t = xg6 t 49 := rfl
theorem xSe_18 (t : x6) (N : Nat) : xS_18 t N = xs6 t 49 N := rfl
theorem xfb_18 {b : mv_H} {h : xE} {k v : Nat} (q : k < 128) (e : ep_g (xL_18 h.2) k = v + 1) : mv_b (ab b h) 18 (nI k).toNatClampNeg = nJ v := by rw [xcl (by omega)]; exact ab_b (j := 49) (by decide) (by decide) e
theorem xwb_18 (b : mv_H) (h : xE) {k : Nat} (v : Nat) (q : k < 128) : mv_sb (ab b h) 18 (nI k).toNatClampNeg (nJ v) = ab b (h.1, xs6 h.2 49 (ep_s (xg6 h.2 49) k v)) := by rw [xcl (by omega)]; exact ab_sb b h k v (by decide) (by decide)
theorem xff_18 (b : mv_H) (h : xE) (v : Nat) : mv_fl (ab b h) 18 0 128 (nJ v) = ab b (h.1, xs6 h.2 49 (xfill 128 (xL_18 h.2) 0 v)) := by have := ab_fl b h 0 128 v (o := 18) (j := 49) (by decide) (by decide); rw [Nat.zero_add] at this; exact this
def xL_150 (t : x6) : Nat := t.1.2.1.1.2.2
def xS_150 (t : x6) (N : Nat) : x6 := (match t with | (p0, q0) => ((match p0 with | (p1, q1) => (p1, (match q1 with | (p2, q2) => ((match p2 with | (p3, q3) => ((match p3 with | (p4, q4) => (p4, (match q4 with | (p5, q5) => (p5, N)))), q3)), q2)))), q0))
theorem xLe_150 (t : x6) : xL_150 t = xg6 t 50 := rfl
theorem xSe_150 (t : x6) (N : Nat) : xS_150 t N = xs6 t 50 N := rfl
theorem xfb_150 {b : mv_H} {h : xE} {k v : Nat} (q : k < 48) (e : ep_g (xL_150 h.2) k = v + 1) : mv_b (ab b h) 150 (nI k).toNatClampNeg = nJ v := by rw [xcl (by omega)]; exact ab_b (j := 50) (by decide) (by decide) e
theorem xwb_150 (b : mv_H) (h : xE) {k : Nat} (v : Nat) (q : k < 48) : mv_sb (ab b h) 150 (nI k).toNatClampNeg (nJ v) = ab b (h.1, xs6 h.2 50 (ep_s (xg6 h.2 50) k v)) := by rw [xcl (by omega)]; exact ab_sb b h k v (by decide) (by decide)
def xL_151 (t : x6) : Nat := t.2.2.1.1.2.2
def xS_151 (t : x6) (N : Nat) : x6 := (match t with | (p0, q0) => (p0, (match q0 with | (p1, q1) => (p1, (match q1 with | (p2, q2) => ((match p2 with | (p3, q3) => ((match p3 with | (p4, q4) => (p4, (match q4 with | (p5, q5) => (p5, N)))), q3)), q2))))))
theorem xLe_151 (t : x6) : xL_151 t = xg6 t 51 := rfl
theorem xSe_151 (t : x6) (N : Nat) : xS_151 t N = xs6 t 51 N := rfl
theorem xfb_151 {b : mv_H} {h : xE} {k v : Nat} (q : k < 48) (e : ep_g (xL_151 h.2) k = v + 1) : mv_b (ab b h) 151 (nI k).toNatClampNeg = nJ v := by rw [xcl (by omega)]; exact ab_b (j := 51) (by decide) (by decide) e
theorem xwb_151 (b : mv_H) (h : xE) {k : Nat} (v : Nat) (q : k < 48) : mv_sb (ab b h) 151 (nI k).toNatClampNeg (nJ v) = ab b (h.1, xs6 h.2 51 (ep_s (xg6 h.2 51) k v)) := by rw [xcl (by omega)]; exact ab_sb b h k v (by decide) (by decide)
def xL_155 (t : x6) : Nat := t.1.1.2.1.2.2
def xS_155 (t : x6) (N : Nat) : x6 := (match t with | (p0, q0) => ((match p0 with | (p1, q1) => ((match p1 with | (p2, q2) => (p2, (match q2 with | (p3, q3) => ((match p3 with | (p4, q4) => (p4, (match q4 with | (p5, q5) => (p5, N)))), q3)))), q1)), q0))
theorem xLe_155 (t : x6) : xL_155 t = xg6 t 52 := rfl
theorem xSe_155 (t : x6) (N : Nat) : xS_155 t N = xs6 t 52 N := rfl
theorem xfb_155 {b : mv_H} {h : xE} {k v : Nat} (q : k < 8192) (e : ep_g (xL_155 h.2) k = v + 1) : mv_b (ab b h) 155 (nI k).toNatClampNeg = nJ v := by rw [xcl (by omega)]; exact ab_b (j := 52) (by decide) (by decide) e
theorem xwb_155 (b : mv_H) (h : xE) {k : Nat} (v : Nat) (q : k < 8192) : mv_sb (ab b h) 155 (nI k).toNatClampNeg (nJ v) = ab b (h.1, xs6 h.2 52 (ep_s (xg6 h.2 52) k v)) := by rw [xcl (by omega)]; exact ab_sb b h k v (by decide) (by decide)
