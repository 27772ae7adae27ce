/-! signed comparison, quotients, shifts -/
theorem sg32 {a : Int64} {x : Int32} (h : ZE a x) : ((a <<< ((((64 : Int32) - nI 32)).toInt64 &&& 63)) >>> ((((64 : Int32) - nI 32)).toInt64 &&& 63)) = x.toInt64 := by
  rw [show ((((64 : Int32) - nI 32)).toInt64 &&& 63) = Int64.ofNat 32 by decide +kernel]
  apply Int64.toInt_inj.mp
  have s := sg_32 h.lt
  rw [show a.toBitVec.toNat = x.toBitVec.toNat from h] at s
  rw [Int32.toInt_toInt64]
  show ((a <<< Int64.ofNat 32) >>> Int64.ofNat 32).toBitVec.toInt = x.toBitVec.toInt
  have t := BitVec.toInt_eq_toNat_cond x.toBitVec
  have l := n32_lt x
  rw [s, t]
  split <;> split <;> omega
theorem toI64_lt (x y : Int32) : x.toInt64 < y.toInt64 ↔ x < y := by rw [Int64.lt_iff_toInt_lt, Int32.lt_iff_toInt_lt, Int32.toInt_toInt64, Int32.toInt_toInt64]
theorem toI64_z (x : Int32) : x.toInt64 = 0 ↔ x = 0 := by
  rw [← Int64.toInt_inj, ← Int32.toInt_inj, Int32.toInt_toInt64]
  exact Iff.rfl
section ZE6
variable {a b : Int64} {x y : Int32}
theorem ZE.slt (h : ZE a x) (g : ZE b y) : u2 213 (nJ 32) a b = oneI (decide (x < y)) := by
  refine u2_v (by decide) (by decide) ?_
  have e1 : f_Bits_ofTwo hZ 213 a b (nI 32) = xhb (f_Bits_holds hZ 213 a b (nI 32)) fun v34 g33 => if v34 = (0 : Int32) then (some ((0 : Int64), g33)) else (some ((1 : Int64), g33)) := by
    unfold f_Bits_ofTwo
    rw [if_neg (by decide), if_neg (by decide), if_neg (by decide), if_neg (by decide), if_neg (by decide), if_neg (by decide), if_neg (by decide), if_neg (by decide), if_neg (by decide), if_neg (by decide), if_neg (by decide), if_neg (by decide), if_neg (by decide)]
  have e3 : f_Bits_holds hZ 213 a b (nI 32) = (xhb (f_Bits_signed hZ a (nI 32)) fun v13 g12 => xhb (f_Bits_signed g12 b (nI 32)) fun v15 g14 => if (0 : Int32) ≤ (lg_cmp v13 v15) then (bif xzb (0 : Int32) then some ((0 : Int32), g14) else none) else (bif xzb (1 : Int32) then some ((1 : Int32), g14) else none)) := by
    unfold f_Bits_holds
    rw [if_neg (by decide), if_neg (by decide), if_neg (by decide), if_neg (by decide)]
  unfold f_Bits_signed at e3
  rw [xhb_s, xhb_s, sg32 h, sg32 g] at e3
  show f_Bits_ofTwo hZ 213 a b (nI 32) = _
  by_cases c : x < y
  · have z : ¬ (0 : Int32) ≤ lg_cmp x.toInt64 y.toInt64 := fun q => absurd ((lg_cmp_lt _ _).mpr ((toI64_lt x y).mpr c)) (Int32.not_lt.mpr q)
    rw [if_neg z] at e3
    rw [e1, e3, decide_eq_true c]
    rfl
  · have z : (0 : Int32) ≤ lg_cmp x.toInt64 y.toInt64 := Int32.not_lt.mp (fun q => c ((toI64_lt x y).mp ((lg_cmp_lt _ _).mp q)))
    rw [if_pos z] at e3
    rw [e1, e3, decide_eq_false c]
    rfl
theorem ZE.sdiv (h : ZE a x) (g : ZE b y) : u2 214 (nJ 32) a b = (if y = 0 then -1 else x.toInt64 / y.toInt64) &&& mkI (nI 32) := by
  refine u2_v (by decide) (by decide) ?_
  have e1 : f_Bits_ofTwo hZ 214 a b (nI 32) = (xhb (f_Bits_signed hZ a (nI 32)) fun v18 g17 => xhb (f_Bits_signed g17 b (nI 32)) fun v20 g19 => xhb (f_Bits_signedDivide g19 v18 v20) fun v22 g21 => xhb (f_Bits_mask g21 (nI 32)) fun v24 g23 => some ((v22 &&& v24), g23)) := by
    unfold f_Bits_ofTwo
    rw [if_neg (by decide), if_neg (by decide), if_neg (by decide), if_neg (by decide), if_neg (by decide), if_neg (by decide), if_neg (by decide), if_neg (by decide), if_neg (by decide), if_neg (by decide), if_pos (by decide)]
  unfold f_Bits_signed f_Bits_signedDivide at e1
  rw [xhb_s, xhb_s, sg32 h, sg32 g] at e1
  show f_Bits_ofTwo hZ 214 a b (nI 32) = _
  rw [e1]
  by_cases c : y = 0
  · rw [if_pos c, if_pos ((lg_cmp_eq _ _).mpr ((toI64_z y).mpr c)), xhb_s, bm_e, xhb_s]
  · rw [if_neg c, if_neg (fun q => c ((toI64_z y).mp ((lg_cmp_eq _ _).mp q))), xnzJ_t (fun q => c ((toI64_z y).mp q)), cond_true, xhb_s, bm_e, xhb_s]
theorem ZE.srem (h : ZE a x) (g : ZE b y) : u2 215 (nJ 32) a b = (if y = 0 then x.toInt64 else x.toInt64 - x.toInt64 / y.toInt64 * y.toInt64) &&& mkI (nI 32) := by
  refine u2_v (by decide) (by decide) ?_
  have e1 : f_Bits_ofTwo hZ 215 a b (nI 32) = (xhb (f_Bits_signed hZ a (nI 32)) fun v26 g25 => xhb (f_Bits_signed g25 b (nI 32)) fun v28 g27 => xhb (f_Bits_signedRemain g27 v26 v28) fun v30 g29 => xhb (f_Bits_mask g29 (nI 32)) fun v32 g31 => some ((v30 &&& v32), g31)) := by
    unfold f_Bits_ofTwo
    rw [if_neg (by decide), if_neg (by decide), if_neg (by decide), if_neg (by decide), if_neg (by decide), if_neg (by decide), if_neg (by decide), if_neg (by decide), if_neg (by decide), if_neg (by decide), if_neg (by decide), if_pos (by decide)]
  unfold f_Bits_signed f_Bits_signedRemain at e1
  rw [xhb_s, xhb_s, sg32 h, sg32 g] at e1
  show f_Bits_ofTwo hZ 215 a b (nI 32) = _
  rw [e1]
  by_cases c : y = 0
  · rw [if_pos c, if_pos ((lg_cmp_eq _ _).mpr ((toI64_z y).mpr c)), xhb_s, bm_e, xhb_s]
  · rw [if_neg c, if_neg (fun q => c ((toI64_z y).mp ((lg_cmp_eq _ _).mp q))), xnzJ_t (fun q => c ((toI64_z y).mp q)), cond_true, xhb_s, bm_e, xhb_s]
/-- shifts: the second number is below 32 -/
theorem shl_v (hb : b.toBitVec.toNat < 32) : u2 131 (nJ 32) a b = (a <<< (((b.toInt32)).toInt64 &&& 63)) &&& mkI (nI 32) := by
  refine u2_v (by decide) (by decide) ?_
  have e1 : f_Bits_ofTwo hZ 131 a b (nI 32) = f_Bits_ofTwo_234 131 a b (nI 32) hZ := by
    unfold f_Bits_ofTwo
    rw [if_neg (by decide), if_neg (by decide), if_neg (by decide), if_neg (by decide), if_neg (by decide), if_neg (by decide), if_neg (by decide), if_neg (by decide), if_pos (by decide)]
  unfold f_Bits_ofTwo_234 at e1
  rw [sh_f hZ 131 a b (by decide)] at e1
  unfold f_Bits_shift_19 at e1
  rw [if_neg (by decide), if_pos hb, if_pos rfl, if_pos rfl, xhb_s, bm_e, xhb_s] at e1
  exact e1
theorem shr_v (hb : b.toBitVec.toNat < 32) : u2 132 (nJ 32) a b = (((a).toUInt64 >>> ((((b).toInt32)).toInt64.toUInt64 &&& Int64.toUInt64 63)).toInt64) &&& mkI (nI 32) := by
  refine u2_v (by decide) (by decide) ?_
  have e1 : f_Bits_ofTwo hZ 132 a b (nI 32) = f_Bits_ofTwo_234 132 a b (nI 32) hZ := by
    unfold f_Bits_ofTwo
    rw [if_neg (by decide), if_neg (by decide), if_neg (by decide), if_neg (by decide), if_neg (by decide), if_neg (by decide), if_neg (by decide), if_neg (by decide), if_neg (by decide), if_pos (by decide)]
  unfold f_Bits_ofTwo_234 at e1
  rw [sh_f hZ 132 a b (by decide)] at e1
  unfold f_Bits_shift_19 at e1
  rw [if_neg (by decide), if_pos hb, if_pos rfl, if_neg (by decide), xhb_s, bm_e, xhb_s] at e1
  exact e1
theorem sra_v (h : ZE a x) (hb : b.toBitVec.toNat < 32) : u2 216 (nJ 32) a b = (x.toInt64 >>> (((b.toInt32)).toInt64 &&& 63)) &&& mkI (nI 32) := by
  refine u2_v (by decide) (by decide) ?_
  have e1 : f_Bits_ofTwo hZ 216 a b (nI 32) = f_Bits_ofTwo_234 216 a b (nI 32) hZ := by
    unfold f_Bits_ofTwo
    rw [if_neg (by decide), if_neg (by decide), if_neg (by decide), if_neg (by decide), if_neg (by decide), if_neg (by decide), if_neg (by decide), if_neg (by decide), if_neg (by decide), if_neg (by decide), if_neg (by decide), if_neg (by decide), if_pos (by decide)]
  unfold f_Bits_ofTwo_234 at e1
  rw [sh_f hZ 216 a b (by decide)] at e1
  unfold f_Bits_shift_19 f_Bits_signed f_Bits_shift_46 at e1
  rw [if_pos rfl, xhb_s, sg32 h, if_pos hb, if_pos rfl, xhb_s, bm_e, xhb_s] at e1
  exact e1
end ZE6
