/-! numbers: division without sign -/
theorem mlJ9 (x y : Nat) : nJ x * nJ y = nJ (x * y) := by
  rw [xJ_mul]
  unfold ymul
  exact xJ_eq (Nat.mod_mod _ _)
theorem dvJ9 {A B : Nat} (hA : A < 9223372036854775808) (hB : B < 9223372036854775808) : nJ A / nJ B = nJ (A / B) := by
  apply Int64.toBitVec_inj.mp
  show BitVec.sdiv (BitVec.ofNat 64 A) (BitVec.ofNat 64 B) = BitVec.ofNat 64 (A / B)
  have a : (BitVec.ofNat 64 A).toNat = A := by rw [BitVec.toNat_ofNat, Nat.mod_eq_of_lt (by omega)]
  have b : (BitVec.ofNat 64 B).toNat = B := by rw [BitVec.toNat_ofNat, Nat.mod_eq_of_lt (by omega)]
  have ma : (BitVec.ofNat 64 A).msb = false := BitVec.msb_eq_false_iff_two_mul_lt.mpr (by rw [a]; omega)
  have mb : (BitVec.ofNat 64 B).msb = false := BitVec.msb_eq_false_iff_two_mul_lt.mpr (by rw [b]; omega)
  rw [BitVec.sdiv_eq, ma, mb]
  apply BitVec.eq_of_toNat_eq
  show (BitVec.udiv (BitVec.ofNat 64 A) (BitVec.ofNat 64 B)).toNat = _
  rw [show BitVec.udiv (BitVec.ofNat 64 A) (BitVec.ofNat 64 B) = BitVec.ofNat 64 A / BitVec.ofNat 64 B from rfl, BitVec.toNat_udiv, a, b, BitVec.toNat_ofNat, Nat.mod_eq_of_lt]
  exact Nat.lt_of_le_of_lt (Nat.div_le_self _ _) (by omega)
theorem sh1J {m : Nat} (h : 2 * m < 18446744073709551616) : nJ m <<< (((1 : Int32)).toInt64 &&& 63) = nJ (2 * m) := by
  have e1 : nJ m <<< (((1 : Int32)).toInt64 &&& 63) = nJ (yshl m 1) := xJ_shl m 1
  have e3 : yshl m 1 = 2 * m := by
    unfold yshl
    rw [show 1 % 64 = 1 from rfl, Nat.mod_eq_of_lt (by omega)] <;> omega
  rw [e1, e3]
theorem nzJ {B : Nat} (h0 : 0 < B) (hB : B < 18446744073709551616) : xnzJ (nJ B) = true := by
  unfold xnzJ
  rw [decide_eq_false (fun z => by have := (nJ_z hB).mp z; omega)] <;> rfl
theorem cl_div (h : mv_H) {A B : Nat} (hA : A < 18446744073709551616) (hB : B < 18446744073709551616) (h0 : 0 < B) : f_Bits_divide h (nJ A) (nJ B) = some (nJ (A / B), h) := by
  unfold f_Bits_divide
  have c0 : ¬ lg_cmp (nJ B) 0 = 0 := fun z => by
    have := (nJ_z hB).mp (lc_z z)
    omega
  rw [if_neg c0]
  by_cases n : 9223372036854775808 ≤ B
  · have c1 : ¬ (0 : Int32) ≤ lg_cmp (nJ B) 0 := Int32.not_le.mpr ((lc_neg hB).mpr n)
    rw [if_neg c1, bel_C h hA hB]
    by_cases z : A < B
    · rw [decide_eq_true z, Nat.div_eq_of_lt z] <;> rfl
    · have e : A / B = 1 := Nat.div_eq_of_lt_le (by omega) (by omega)
      rw [decide_eq_false z, e] <;> rfl
  · have c1 : (0 : Int32) ≤ lg_cmp (nJ B) 0 := Int32.not_lt.mp (fun z => n ((lc_neg hB).mp z))
    rw [if_pos c1, nzJ h0 hB]
    by_cases m : 9223372036854775808 ≤ A
    · rw [if_pos ((lc_neg hA).mpr m)]
      have e1 : ((nJ A).toUInt64 >>> (((1 : Int32)).toInt64.toUInt64 &&& Int64.toUInt64 63)).toInt64 = nJ (A / 2) := shJ hA (k := 1) (by omega)
      have hq : A / 2 / B ≤ A / 2 := Nat.div_le_self _ _
      have e2 : nJ (A / 2) / nJ B = nJ (A / 2 / B) := dvJ9 (by omega) (by omega)
      have e3 := sh1J (m := A / 2 / B) (by omega)
      have t1 : A / 2 / B * B ≤ A / 2 := Nat.div_mul_le_self _ _
      have t2 : A / 2 < A / 2 / B * B + B := by
        have := Nat.lt_div_mul_add (a := A / 2) h0
        exact this
      have e4 : nJ (2 * (A / 2 / B)) * nJ B = nJ (2 * (A / 2 / B * B)) := by rw [mlJ9, Nat.mul_assoc]
      have e5 : nJ A - nJ (2 * (A / 2 / B * B)) = nJ (A - 2 * (A / 2 / B * B)) := sbJ hA (by omega)
      rw [e1, e2, e3, e4, e5, cond_true, bel_C h (by omega) hB]
      have k1 : 2 * (A / 2 / B) * B = 2 * (A / 2 / B * B) := Nat.mul_assoc _ _ _
      have k2 : (2 * (A / 2 / B) + 1) * B = 2 * (A / 2 / B * B) + B := by rw [Nat.add_mul, k1, Nat.one_mul]
      have k3 : (2 * (A / 2 / B) + 1 + 1) * B = 2 * (A / 2 / B * B) + B + B := by rw [Nat.add_mul, k2, Nat.one_mul]
      by_cases z : A - 2 * (A / 2 / B * B) < B
      · have e : A / B = 2 * (A / 2 / B) := Nat.div_eq_of_lt_le (by rw [k1]; omega) (by rw [k2]; omega)
        rw [decide_eq_true z, e] <;> rfl
      · have e : A / B = 2 * (A / 2 / B) + 1 := Nat.div_eq_of_lt_le (by rw [k2]; omega) (by rw [k3]; omega)
        have e6 : nJ (2 * (A / 2 / B)) + 1 = nJ (2 * (A / 2 / B) + 1) := adJ (x := 2 * (A / 2 / B)) (y := 1) (by omega)
        rw [decide_eq_false z, e, ← e6] <;> rfl
    · rw [if_neg (fun z => m ((lc_neg hA).mp z)), dvJ9 (by omega) (by omega)] <;> rfl
