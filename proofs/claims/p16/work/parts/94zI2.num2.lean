/-! values inside of w bits -/
def FTq (w : Nat) (x : Int64) : Prop := x.toBitVec.toNat < 2 ^ w
theorem mkI_n {w : Nat} (hw : w ≤ 64) : (mkI (nI w)).toBitVec.toNat = 2 ^ w - 1 := by
  have : ∀ k : Fin 65, (mkI (nI k.val)).toBitVec.toNat = 2 ^ k.val - 1 := by decide +kernel
  exact this ⟨w, by omega⟩
theorem and_w (x : Int64) {w : Nat} (hw : w ≤ 64) : (x &&& mkI (nI w)).toBitVec.toNat = x.toBitVec.toNat % 2 ^ w := by
  rw [Int64.toBitVec_and, BitVec.toNat_and, mkI_n hw, Nat.and_two_pow_sub_one_eq_mod]
theorem FTq.and (x : Int64) {w : Nat} (hw : w ≤ 64) : FTq w (x &&& mkI (nI w)) := by
  unfold FTq
  rw [and_w x hw]
  exact Nat.mod_lt _ (Nat.two_pow_pos w)
theorem FTq.eq {w : Nat} {x : Int64} (h : FTq w x) (hw : w ≤ 64) : x &&& mkI (nI w) = x := by
  apply Int64.toBitVec_inj.mp
  apply BitVec.eq_of_toNat_eq
  rw [and_w x hw]
  exact Nat.mod_eq_of_lt h
theorem FTq.of {w : Nat} {x : Int64} (h : x &&& mkI (nI w) = x) (hw : w ≤ 64) : FTq w x := by
  rw [← h]; exact FTq.and x hw
theorem FTq.or {w : Nat} {x y : Int64} (a : FTq w x) (b : FTq w y) (hw : w ≤ 64) : FTq w (x ||| y) := FTq.of (or_mk (a.eq hw) (b.eq hw)) hw
theorem FTq.xor {w : Nat} {x y : Int64} (a : FTq w x) (b : FTq w y) (hw : w ≤ 64) : FTq w (x ^^^ y) := FTq.of (xor_mk (a.eq hw) (b.eq hw)) hw
theorem FTq.and' {w : Nat} {x : Int64} (a : FTq w x) (y : Int64) (hw : w ≤ 64) : FTq w (x &&& y) := FTq.of (and_mk (a.eq hw)) hw
theorem FTq.one (b : Bool) : FTq 1 (oneI b) := FTq.of (show oneI b &&& mkI (nI 1) = oneI b from oneI_m b) (by omega)
theorem FTq.le {w v : Nat} {x : Int64} (a : FTq w x) (h : w ≤ v) : FTq v x := Nat.lt_of_lt_of_le a (Nat.pow_le_pow_right (by decide) h)
/-- the reference's cut -/
theorem cutW (h : mv_H) (v : Int64) {w : Nat} (hw : w ≤ 64) : f_Book_cut h v (nI w) = some (v &&& mkI (nI w), h) := bc_c h v (by rw [nIi (by omega)]; omega)
/-! remainder, quotient -/
theorem rem_c (h g : mv_H) (P : Nat) (x y : Int64) (w : Int32) : ∃ u, f_Bits_ofTwo h 37 x y w = some (u, h) ∧ f_Book_apply P g 37 x y w = some (u, g) ∧ u.toBitVec.toNat ≤ x.toBitVec.toNat := by
  have e1 : f_Bits_ofTwo h 37 x y w = (if (lg_cmp y (0 : Int64)) = (0 : Int32) then (some (x, h)) else (xhb (f_Bits_divide h x y) fun v6 g5 => some ((x - (v6 * y)), g5))) := by
    unfold f_Bits_ofTwo
    rw [if_pos (by decide)]
  have e2 : f_Book_apply P g 37 x y w = (if (lg_cmp y (0 : Int64)) = (0 : Int32) then (some (x, g)) else (xhb (f_Book_divided g x y) fun u2 g1 => some ((x - (u2 * y)), g1))) := by
    unfold f_Book_apply
    rw [if_pos (by decide)]
  by_cases z : y = 0
  · refine ⟨x, ?_, ?_, Nat.le_refl _⟩
    · rw [e1, if_pos ((lg_cmp_eq _ _).mpr z)]
    · rw [e2, if_pos ((lg_cmp_eq _ _).mpr z)]
  · have nz : ¬ lg_cmp y 0 = 0 := fun q => z ((lg_cmp_eq _ _).mp q)
    have hx : x.toBitVec.toNat < 18446744073709551616 := x.toBitVec.isLt
    have hy : y.toBitVec.toNat < 18446744073709551616 := y.toBitVec.isLt
    have y0 : 0 < y.toBitVec.toNat := by
      rcases Nat.eq_zero_or_pos y.toBitVec.toNat with q | q
      · exact absurd (by rw [← nJ_bv y, q]; rfl) z
      · exact q
    have c1 := cl_div h hx hy y0
    have c2 := rf_div g hx hy y0
    rw [nJ_bv, nJ_bv] at c1 c2
    refine ⟨x - nJ (x.toBitVec.toNat / y.toBitVec.toNat) * y, ?_, ?_, ?_⟩
    · rw [e1, if_neg nz, c1, xhb_s]
    · rw [e2, if_neg nz, c2, xhb_s]
    · have hm := Nat.div_mul_le_self x.toBitVec.toNat y.toBitVec.toNat
      have e3 : x - nJ (x.toBitVec.toNat / y.toBitVec.toNat) * y = nJ (x.toBitVec.toNat - x.toBitVec.toNat / y.toBitVec.toNat * y.toBitVec.toNat) := by
        have m9 := mlJ9 (x.toBitVec.toNat / y.toBitVec.toNat) y.toBitVec.toNat
        rw [nJ_bv] at m9
        have m8 := sbG9 (R := x.toBitVec.toNat) (B := x.toBitVec.toNat / y.toBitVec.toNat * y.toBitVec.toNat) hm (by omega)
        rw [nJ_bv] at m8
        rw [m9]
        exact m8
      rw [e3]
      have e4 : (nJ (x.toBitVec.toNat - x.toBitVec.toNat / y.toBitVec.toNat * y.toBitVec.toNat)).toBitVec.toNat = (x.toBitVec.toNat - x.toBitVec.toNat / y.toBitVec.toNat * y.toBitVec.toNat) % 2 ^ 64 := by
        show (BitVec.ofNat 64 _).toNat = _
        rw [BitVec.toNat_ofNat]
      rw [e4]
      exact Nat.le_trans (Nat.mod_le _ _) (Nat.sub_le _ _)
theorem div_c (h g : mv_H) (P : Nat) (x y : Int64) (w : Int32) : ∃ u, f_Bits_ofTwo h 47 x y w = some (u &&& mkI w, h) ∧ f_Book_apply P g 47 x y w = some (u, g) := by
  have e1 : f_Bits_ofTwo h 47 x y w = xhb (f_Bits_divide h x y) (fun v14 g13 => xhb (f_Bits_mask g13 w) (fun v16 g15 => some ((v14 &&& v16), g15))) := by
    unfold f_Bits_ofTwo
    rw [if_neg (by decide), if_neg (by decide), if_neg (by decide), if_neg (by decide), if_neg (by decide), if_pos (by decide)]
  have e2 : f_Book_apply P g 47 x y w = (if (lg_cmp y (0 : Int64)) = (0 : Int32) then (some ((-1 : Int64), g)) else (xhb (f_Book_divided g x y) fun u4 g3 => some (u4, g3))) := by
    unfold f_Book_apply
    rw [if_neg (by decide), if_neg (by decide), if_neg (by decide), if_neg (by decide), if_neg (by decide), if_pos (by decide)]
  by_cases z : y = 0
  · refine ⟨-1, ?_, ?_⟩
    · have e3 : f_Bits_divide h x y = some (-1, h) := by
        unfold f_Bits_divide
        rw [if_pos ((lg_cmp_eq _ _).mpr z)]
      rw [e1, e3, xhb_s, bm_e, xhb_s]
    · rw [e2, if_pos ((lg_cmp_eq _ _).mpr z)]
  · obtain ⟨v, v1, v2⟩ := dv_same h g x y z
    refine ⟨v, ?_, ?_⟩
    · rw [e1, v1, xhb_s, bm_e, xhb_s]
    · rw [e2, if_neg (fun q => z ((lg_cmp_eq _ _).mp q)), v2, xhb_s]
theorem slt_c (h g : mv_H) (P : Nat) (x y : Int64) (w : Int32) : ∃ b, f_Bits_ofTwo h 213 x y w = some (oneI b, h) ∧ f_Book_apply P g 1000 x y w = some (oneI b, g) := by
  have e1 : f_Bits_ofTwo h 213 x y w = xhb (f_Bits_holds h 213 x y w) fun v34 g33 => if v34 = (0 : Int32) then (some ((0 : Int64), g33)) else (some ((1 : Int64), g33)) := by
    unfold f_Bits_ofTwo
    rw [if_neg (by decide), if_neg (by decide), if_neg (by decide), if_neg (by decide), if_neg (by decide), if_neg (by decide), if_neg (by decide), if_neg (by decide), if_neg (by decide), if_neg (by decide), if_neg (by decide), if_neg (by decide), if_neg (by decide)]
  have e3 : f_Bits_holds h 213 x y w = (xhb (f_Bits_signed h x w) fun v13 g12 => xhb (f_Bits_signed g12 y w) fun v15 g14 => if (0 : Int32) ≤ (lg_cmp v13 v15) then (bif xzb (0 : Int32) then some ((0 : Int32), g14) else none) else (bif xzb (1 : Int32) then some ((1 : Int32), g14) else none)) := by
    unfold f_Bits_holds
    rw [if_neg (by decide), if_neg (by decide), if_neg (by decide), if_neg (by decide)]
  have e2 : f_Book_apply P g 1000 x y w = xhb (f_Book_signed g x w) fun u14 g13 => xhb (f_Book_signed g13 y w) fun u16 g15 => if (0 : Int32) ≤ (lg_cmp u14 u16) then (some ((0 : Int64), g15)) else (some ((1 : Int64), g15)) := by
    unfold f_Book_apply
    rw [if_neg (by decide), if_neg (by decide), if_neg (by decide), if_neg (by decide), if_neg (by decide), if_neg (by decide), if_neg (by decide), if_neg (by decide), if_neg (by decide), if_neg (by decide), if_neg (by decide), if_neg (by decide), if_neg (by decide), if_neg (by decide), if_pos (by decide)]
  unfold f_Bits_signed at e3
  unfold f_Book_signed at e2
  rw [xhb_s, xhb_s] at e3 e2
  by_cases z : (0 : Int32) ≤ lg_cmp ((x <<< ((((64 : Int32) - w)).toInt64 &&& 63)) >>> ((((64 : Int32) - w)).toInt64 &&& 63)) ((y <<< ((((64 : Int32) - w)).toInt64 &&& 63)) >>> ((((64 : Int32) - w)).toInt64 &&& 63))
  · rw [if_pos z] at e3 e2
    refine ⟨false, ?_, e2⟩
    rw [e1, e3]; rfl
  · rw [if_neg z] at e3 e2
    refine ⟨true, ?_, e2⟩
    rw [e1, e3]; rfl
