theorem nJ_bv (a : Int64) : nJ a.toBitVec.toNat = a := by
  apply Int64.toBitVec_inj.mp
  show BitVec.ofNat 64 a.toBitVec.toNat = a.toBitVec
  exact BitVec.eq_of_toNat_eq (by rw [BitVec.toNat_ofNat, Nat.mod_eq_of_lt a.toBitVec.isLt])
/-! numbers: the class's operations and the reference's -/
/-- w bits -/
def mkI (w : Int32) : Int64 := if w < 64 then ((1 : Int64) <<< (w.toInt64 &&& 63)) - 1 else -1
theorem bm_e (h : mv_H) (w : Int32) : f_Bits_mask h w = some (mkI w, h) := by
  unfold f_Bits_mask mkI
  split <;> rfl
theorem an_m1 (x : Int64) : x &&& -1 = x := by
  apply Int64.toBitVec_inj.mp
  rw [Int64.toBitVec_and, show Int64.toBitVec (-1) = BitVec.allOnes 64 by decide, BitVec.and_allOnes]
theorem bc_c (h : mv_H) (v : Int64) {w : Int32} (hw : w.toInt ≤ 64) : f_Book_cut h v w = some (v &&& mkI w, h) := by
  unfold f_Book_cut mkI
  by_cases z : w = 64
  · rw [if_pos z, if_neg (by rw [z]; decide), an_m1]
  · have q : w < 64 := Int32.lt_iff_toInt_lt.mpr (show w.toInt < 64 by
      have : ¬ w.toInt = 64 := fun q => z (Int32.toInt_inj.mp q)
      omega)
    rw [if_neg z, if_pos q]
/-- below, without sign -/
def bI9 (x y : Int64) : Int32 := b01 (decide (x.toBitVec.toNat < y.toBitVec.toNat))
theorem bl_c (h : mv_H) (x y : Int64) : f_Bits_below h x y = some (bI9 x y, h) := by
  have e := bel_C h (A := x.toBitVec.toNat) (B := y.toBitVec.toNat) (by have := x.toBitVec.isLt; omega) (by have := y.toBitVec.isLt; omega)
  rw [nJ_bv, nJ_bv] at e
  exact e
theorem bel_R (h : mv_H) {A B : Nat} (hA : A < 18446744073709551616) (hB : B < 18446744073709551616) : f_Book_below h (nJ A) (nJ B) = some (b01 (decide (A < B)), h) := by
  unfold f_Book_below
  rw [show (-9223372036854775808 : Int64) = nJ 9223372036854775808 from rfl, xJ_add, xJ_add, lc_v, ys_v, ys_v]
  unfold yadd
  have e1 : ((A + 9223372036854775808) % 18446744073709551616 + 9223372036854775808) % 18446744073709551616 = A := by omega
  have e2 : ((B + 9223372036854775808) % 18446744073709551616 + 9223372036854775808) % 18446744073709551616 = B := by omega
  rw [e1, e2]
  by_cases c : A < B
  · rw [decide_eq_true c, if_neg (show ¬ B < A by omega), if_neg (show ¬ A = B by omega)] <;> rfl
  · rw [decide_eq_false c]
    by_cases d : B < A
    · rw [if_pos d] <;> rfl
    · rw [if_neg d, if_pos (show A = B by omega)] <;> rfl
theorem bl_r (h : mv_H) (x y : Int64) : f_Book_below h x y = some (bI9 x y, h) := by
  have e := bel_R h (A := x.toBitVec.toNat) (B := y.toBitVec.toNat) (by have := x.toBitVec.isLt; omega) (by have := y.toBitVec.isLt; omega)
  rw [nJ_bv, nJ_bv] at e
  exact e
theorem bI_01 (x y : Int64) : bI9 x y = 0 ∨ bI9 x y = 1 := by
  unfold bI9
  cases decide (x.toBitVec.toNat < y.toBitVec.toNat)
  · exact Or.inl rfl
  · exact Or.inr rfl
/-! the class -/
theorem tc_add (h : mv_H) (x y : Int64) (w : Int32) : f_Bits_ofTwo h 43 x y w = some ((x + y) &&& mkI w, h) := by
  show xhb (f_Bits_mask h w) (fun v g => some (((x + y) &&& v), g)) = _
  rw [bm_e] <;> rfl
theorem tc_sub (h : mv_H) (x y : Int64) (w : Int32) : f_Bits_ofTwo h 45 x y w = some ((x - y) &&& mkI w, h) := by
  show xhb (f_Bits_mask h w) (fun v g => some (((x - y) &&& v), g)) = _
  rw [bm_e] <;> rfl
theorem tc_mul (h : mv_H) (x y : Int64) (w : Int32) : f_Bits_ofTwo h 42 x y w = some ((x * y) &&& mkI w, h) := by
  show xhb (f_Bits_mask h w) (fun v g => some (((x * y) &&& v), g)) = _
  rw [bm_e] <;> rfl
theorem tc_or (h : mv_H) (x y : Int64) (w : Int32) : f_Bits_ofTwo h 124 x y w = some (x ||| y, h) := rfl
theorem tc_xor (h : mv_H) (x y : Int64) (w : Int32) : f_Bits_ofTwo h 94 x y w = some (x ^^^ y, h) := rfl
theorem tc_and (h : mv_H) (x y : Int64) (w : Int32) : f_Bits_ofTwo h 38 x y w = some (x &&& y, h) := rfl
def oneI (b : Bool) : Int64 := if b = true then 1 else 0
theorem tc_lt (h : mv_H) (x y : Int64) (w : Int32) : f_Bits_ofTwo h 60 x y w = some (oneI (decide (x.toBitVec.toNat < y.toBitVec.toNat)), h) := by
  show xhb (xhb (f_Bits_below h x y) (fun v2 g1 => bif xzb v2 then some (v2, g1) else none)) (fun v34 g33 => if v34 = (0 : Int32) then (some ((0 : Int64), g33)) else (some ((1 : Int64), g33))) = _
  rw [bl_c]
  unfold bI9 oneI
  cases decide (x.toBitVec.toNat < y.toBitVec.toNat) <;> rfl
theorem tc_le (h : mv_H) (x y : Int64) (w : Int32) : f_Bits_ofTwo h 130 x y w = some (oneI (!decide (y.toBitVec.toNat < x.toBitVec.toNat)), h) := by
  show xhb (xhb (f_Bits_below h y x) (fun v9 g8 => if v9 = (0 : Int32) then (bif xzb (1 : Int32) then some ((1 : Int32), g8) else none) else (bif xzb (0 : Int32) then some ((0 : Int32), g8) else none))) (fun v34 g33 => if v34 = (0 : Int32) then (some ((0 : Int64), g33)) else (some ((1 : Int64), g33))) = _
  rw [bl_c]
  unfold bI9 oneI
  cases decide (y.toBitVec.toNat < x.toBitVec.toNat) <;> rfl
theorem tc_eq (h : mv_H) (x y : Int64) (w : Int32) : f_Bits_ofTwo h 128 x y w = some (oneI (decide (x = y)), h) := by
  show xhb (if (lg_cmp x y) = (0 : Int32) then (bif xzb (1 : Int32) then some ((1 : Int32), h) else none) else (bif xzb (0 : Int32) then some ((0 : Int32), h) else none)) (fun v34 g33 => if v34 = (0 : Int32) then (some ((0 : Int64), g33)) else (some ((1 : Int64), g33))) = _
  by_cases z : x = y
  · rw [if_pos ((lg_cmp_eq _ _).mpr z), decide_eq_true z] <;> rfl
  · rw [if_neg (fun q => z ((lg_cmp_eq _ _).mp q)), decide_eq_false z] <;> rfl
theorem tc_ne (h : mv_H) (x y : Int64) (w : Int32) : f_Bits_ofTwo h 129 x y w = some (oneI (!decide (x = y)), h) := by
  show xhb (if (lg_cmp x y) = (0 : Int32) then (bif xzb (0 : Int32) then some ((0 : Int32), h) else none) else (bif xzb (1 : Int32) then some ((1 : Int32), h) else none)) (fun v34 g33 => if v34 = (0 : Int32) then (some ((0 : Int64), g33)) else (some ((1 : Int64), g33))) = _
  by_cases z : x = y
  · rw [if_pos ((lg_cmp_eq _ _).mpr z), decide_eq_true z] <;> rfl
  · rw [if_neg (fun q => z ((lg_cmp_eq _ _).mp q)), decide_eq_false z] <;> rfl
/-! the reference -/
theorem tr_add (P : Nat) (h : mv_H) (x y : Int64) (w : Int32) : f_Book_apply P h 43 x y w = some (x + y, h) := rfl
theorem tr_sub (P : Nat) (h : mv_H) (x y : Int64) (w : Int32) : f_Book_apply P h 45 x y w = some (x - y, h) := rfl
theorem tr_mul (P : Nat) (h : mv_H) (x y : Int64) (w : Int32) : f_Book_apply P h 42 x y w = some (x * y, h) := rfl
theorem tr_or (P : Nat) (h : mv_H) (x y : Int64) (w : Int32) : f_Book_apply P h 124 x y w = some (x ||| y, h) := rfl
theorem tr_xor (P : Nat) (h : mv_H) (x y : Int64) (w : Int32) : f_Book_apply P h 94 x y w = some (x ^^^ y, h) := rfl
theorem tr_and (P : Nat) (h : mv_H) (x y : Int64) (w : Int32) : f_Book_apply P h 38 x y w = some (x &&& y, h) := rfl
theorem tr_lt (P : Nat) (h : mv_H) (x y : Int64) (w : Int32) : f_Book_apply P h 60 x y w = some (oneI (decide (x.toBitVec.toNat < y.toBitVec.toNat)), h) := by
  show xhb (f_Book_below h x y) (fun u6 g5 => if u6 = (0 : Int32) then (some ((0 : Int64), g5)) else (some ((1 : Int64), g5))) = _
  rw [bl_r]
  unfold bI9 oneI
  cases decide (x.toBitVec.toNat < y.toBitVec.toNat) <;> rfl
theorem tr_le (P : Nat) (h : mv_H) (x y : Int64) (w : Int32) : f_Book_apply P h 258 x y w = some (oneI (!decide (y.toBitVec.toNat < x.toBitVec.toNat)), h) := by
  show xhb (f_Book_below h y x) (fun u8 g7 => if u8 = (0 : Int32) then (some ((1 : Int64), g7)) else (some ((0 : Int64), g7))) = _
  rw [bl_r]
  unfold bI9 oneI
  cases decide (y.toBitVec.toNat < x.toBitVec.toNat) <;> rfl
theorem tr_eq (P : Nat) (h : mv_H) (x y : Int64) (w : Int32) : f_Book_apply P h 256 x y w = some (oneI (decide (x = y)), h) := by
  show (if (lg_cmp x y) = (0 : Int32) then (some ((1 : Int64), h)) else (some ((0 : Int64), h))) = _
  by_cases z : x = y
  · rw [if_pos ((lg_cmp_eq _ _).mpr z), decide_eq_true z] <;> rfl
  · rw [if_neg (fun q => z ((lg_cmp_eq _ _).mp q)), decide_eq_false z] <;> rfl
theorem tr_ne (P : Nat) (h : mv_H) (x y : Int64) (w : Int32) : f_Book_apply P h 257 x y w = some (oneI (!decide (x = y)), h) := by
  show (if (lg_cmp x y) = (0 : Int32) then (some ((0 : Int64), h)) else (some ((1 : Int64), h))) = _
  by_cases z : x = y
  · rw [if_pos ((lg_cmp_eq _ _).mpr z), decide_eq_true z] <;> rfl
  · rw [if_neg (fun q => z ((lg_cmp_eq _ _).mp q)), decide_eq_false z] <;> rfl
theorem sg_same (h : mv_H) (x : Int64) (w : Int32) : f_Bits_signed h x w = f_Book_signed h x w := rfl
theorem oneI_m (b : Bool) : oneI b &&& mkI 1 = oneI b := by cases b <;> decide
/-- what is inside of w bits stays -/
theorem or_mk {x y m : Int64} (hx : x &&& m = x) (hy : y &&& m = y) : (x ||| y) &&& m = x ||| y := by
  apply Int64.toBitVec_inj.mp
  have a := congrArg Int64.toBitVec hx
  have b := congrArg Int64.toBitVec hy
  rw [Int64.toBitVec_and] at a b
  rw [Int64.toBitVec_and, Int64.toBitVec_or]
  apply BitVec.eq_of_getLsbD_eq
  intro i hi
  have a := congrArg (fun z => z.getLsbD i) a
  have b := congrArg (fun z => z.getLsbD i) b
  simp only [BitVec.getLsbD_and, BitVec.getLsbD_or] at a b ⊢
  revert a b
  cases x.toBitVec.getLsbD i <;> cases y.toBitVec.getLsbD i <;> cases m.toBitVec.getLsbD i <;> simp
theorem xor_mk {x y m : Int64} (hx : x &&& m = x) (hy : y &&& m = y) : (x ^^^ y) &&& m = x ^^^ y := by
  apply Int64.toBitVec_inj.mp
  have a := congrArg Int64.toBitVec hx
  have b := congrArg Int64.toBitVec hy
  rw [Int64.toBitVec_and] at a b
  rw [Int64.toBitVec_and, Int64.toBitVec_xor]
  apply BitVec.eq_of_getLsbD_eq
  intro i hi
  have a := congrArg (fun z => z.getLsbD i) a
  have b := congrArg (fun z => z.getLsbD i) b
  simp only [BitVec.getLsbD_and, BitVec.getLsbD_xor] at a b ⊢
  revert a b
  cases x.toBitVec.getLsbD i <;> cases y.toBitVec.getLsbD i <;> cases m.toBitVec.getLsbD i <;> simp
theorem and_mk {x y m : Int64} (hx : x &&& m = x) : (x &&& y) &&& m = x &&& y := by
  apply Int64.toBitVec_inj.mp
  have a := congrArg Int64.toBitVec hx
  rw [Int64.toBitVec_and] at a
  rw [Int64.toBitVec_and, Int64.toBitVec_and]
  apply BitVec.eq_of_getLsbD_eq
  intro i hi
  have a := congrArg (fun z => z.getLsbD i) a
  simp only [BitVec.getLsbD_and] at a ⊢
  revert a
  cases x.toBitVec.getLsbD i <;> cases y.toBitVec.getLsbD i <;> cases m.toBitVec.getLsbD i <;> simp
