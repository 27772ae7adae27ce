/-! numbers: shifts of both sides -/
theorem in_w (g : mv_H) (y : Int64) {w : Nat} (h0 : 0 < w) (hw : w ≤ 64) : f_Model_in g y (0 : Int64) ((nI w - (1 : Int32)).toInt64) = some (b01 (decide (y.toBitVec.toNat < w)), g) := by
  have hy : y.toBitVec.toNat < 18446744073709551616 := y.toBitVec.isLt
  have := in_S g (x := y.toBitVec.toNat) (lo := 0) (hi := w - 1) hy (by omega) (by omega)
  rw [nJ_bv] at this
  rw [wid1 h0 (by omega), show (0 : Int64) = nJ 0 from rfl, this]
  by_cases c : y.toBitVec.toNat < w
  · rw [decide_eq_true c, decide_eq_true (by omega)]
  · rw [decide_eq_false c, decide_eq_false (by omega)]
theorem sh_f (h : mv_H) (k : Int32) (x y : Int64) {w : Nat} (hw : w ≤ 64) : f_Bits_shift h k x y (nI w) = f_Bits_shift_19 k x y (nI w) (if y.toBitVec.toNat < w then 0 else 1) h := by
  have lc := lcN y (c := w) (by omega)
  unfold f_Bits_shift f_Bits_shift_14
  by_cases a : lg_cmp y 0 < 0
  · rw [if_pos a, if_neg (lc.1 a)]
  · rw [if_neg a]
    by_cases b : y.toBitVec.toNat < w
    · rw [if_pos ((lc.2 a).mpr b), if_pos b]
    · rw [if_neg (fun q => b ((lc.2 a).mp q)), if_neg b]
theorem shl_c (h g : mv_H) (P : Nat) (x y : Int64) {w : Nat} (h0 : 0 < w) (hw : w ≤ 64) : ∃ u, f_Bits_ofTwo h 131 x y (nI w) = some (u &&& mkI (nI w), h) ∧ f_Book_apply P g 259 x y (nI w) = some (u, g) := by
  have e1 : f_Bits_ofTwo h 131 x y (nI w) = f_Bits_ofTwo_234 131 x y (nI w) h := by
    unfold f_Bits_ofTwo
    rw [if_neg (by decide), if_neg (by decide), if_neg (by decide), if_neg (by decide), if_neg (by decide), if_neg (by decide), if_neg (by decide), if_neg (by decide), if_pos (by decide)]
  have e2 : f_Book_apply P g 259 x y (nI w) = (xhb (f_Model_in g y (0 : Int64) (((nI w - (1 : Int32))).toInt64)) fun u10 g9 => if u10 = (0 : Int32) then (some ((0 : Int64), g9)) else (some ((x <<< ((((y).toInt32)).toInt64 &&& 63)), g9))) := by
    unfold f_Book_apply
    rw [if_neg (by decide), if_neg (by decide), if_neg (by decide), if_neg (by decide), if_neg (by decide), if_neg (by decide), if_neg (by decide), if_neg (by decide), if_neg (by decide), if_neg (by decide), if_neg (by decide), if_neg (by decide), if_pos (by decide)]
  rw [in_w g y h0 hw, xhb_s] at e2
  unfold f_Bits_ofTwo_234 at e1
  rw [sh_f h 131 x y hw] at e1
  unfold f_Bits_shift_19 at e1
  rw [if_neg (by decide)] at e1
  by_cases c : y.toBitVec.toNat < w
  · rw [decide_eq_true c, if_neg (by decide)] at e2
    rw [if_pos c, if_pos rfl, if_pos rfl, xhb_s, bm_e, xhb_s] at e1
    exact ⟨_, e1, e2⟩
  · rw [decide_eq_false c, if_pos (by decide)] at e2
    rw [if_neg c, if_neg (by decide), xhb_s, bm_e, xhb_s] at e1
    exact ⟨_, e1, e2⟩
theorem shr_c (h g : mv_H) (P : Nat) (x y : Int64) {w : Nat} (h0 : 0 < w) (hw : w ≤ 64) : ∃ u, f_Bits_ofTwo h 132 x y (nI w) = some (u &&& mkI (nI w), h) ∧ f_Book_apply P g 260 x y (nI w) = some (u, g) := by
  have e1 : f_Bits_ofTwo h 132 x y (nI w) = f_Bits_ofTwo_234 132 x y (nI w) h := by
    unfold f_Bits_ofTwo
    rw [if_neg (by decide), if_neg (by decide), if_neg (by decide), if_neg (by decide), if_neg (by decide), if_neg (by decide), if_neg (by decide), if_neg (by decide), if_neg (by decide), if_pos (by decide)]
  have e2 : f_Book_apply P g 260 x y (nI w) = (xhb (f_Model_in g y (0 : Int64) (((nI w - (1 : Int32))).toInt64)) fun u12 g11 => if u12 = (0 : Int32) then (some ((0 : Int64), g11)) else (some ((((x).toUInt64 >>> ((((y).toInt32)).toInt64.toUInt64 &&& Int64.toUInt64 63)).toInt64), g11))) := by
    unfold f_Book_apply
    rw [if_neg (by decide), if_neg (by decide), if_neg (by decide), if_neg (by decide), if_neg (by decide), if_neg (by decide), if_neg (by decide), if_neg (by decide), if_neg (by decide), if_neg (by decide), if_neg (by decide), if_neg (by decide), if_neg (by decide), if_pos (by decide)]
  rw [in_w g y h0 hw, xhb_s] at e2
  unfold f_Bits_ofTwo_234 at e1
  rw [sh_f h 132 x y hw] at e1
  unfold f_Bits_shift_19 at e1
  rw [if_neg (by decide)] at e1
  by_cases c : y.toBitVec.toNat < w
  · rw [decide_eq_true c, if_neg (by decide)] at e2
    rw [if_pos c, if_pos rfl, if_neg (by decide), xhb_s, bm_e, xhb_s] at e1
    exact ⟨_, e1, e2⟩
  · rw [decide_eq_false c, if_pos (by decide)] at e2
    rw [if_neg c, if_neg (by decide), xhb_s, bm_e, xhb_s] at e1
    exact ⟨_, e1, e2⟩
theorem sra_c (h g : mv_H) (P : Nat) (x y : Int64) {w : Nat} (h0 : 0 < w) (hw : w ≤ 64) : ∃ u, f_Bits_ofTwo h 216 x y (nI w) = some (u &&& mkI (nI w), h) ∧ f_Book_apply P g 1003 x y (nI w) = some (u, g) := by
  have e1 : f_Bits_ofTwo h 216 x y (nI w) = f_Bits_ofTwo_234 216 x y (nI w) h := by
    unfold f_Bits_ofTwo
    rw [if_neg (by decide), if_neg (by decide), if_neg (by decide), if_neg (by decide), if_neg (by decide), if_neg (by decide), if_neg (by decide), if_neg (by decide), if_neg (by decide), if_neg (by decide), if_neg (by decide), if_neg (by decide), if_pos (by decide)]
  have e2 : f_Book_apply P g 1003 x y (nI w) = (xhb (f_Book_signed g x (nI w)) fun u18 g17 => xhb (f_Model_in g17 y (0 : Int64) (((nI w - (1 : Int32))).toInt64)) fun u20 g19 => if u20 = (0 : Int32) then (f_Book_apply_310 P (63 : Int64) u18 g19) else (f_Book_apply_310 P y u18 g19)) := by
    unfold f_Book_apply
    rw [if_neg (by decide), if_neg (by decide), if_neg (by decide), if_neg (by decide), if_neg (by decide), if_neg (by decide), if_neg (by decide), if_neg (by decide), if_neg (by decide), if_neg (by decide), if_neg (by decide), if_neg (by decide), if_neg (by decide), if_neg (by decide), if_neg (by decide), if_pos (by decide)]
  unfold f_Book_signed f_Book_apply_310 at e2
  rw [xhb_s, in_w g y h0 hw, xhb_s] at e2
  unfold f_Bits_ofTwo_234 at e1
  rw [sh_f h 216 x y hw] at e1
  unfold f_Bits_shift_19 f_Bits_signed f_Bits_shift_46 at e1
  rw [if_pos rfl, xhb_s] at e1
  by_cases c : y.toBitVec.toNat < w
  · rw [decide_eq_true c, if_neg (by decide)] at e2
    rw [if_pos c, if_pos rfl, xhb_s, bm_e, xhb_s] at e1
    exact ⟨_, e1, e2⟩
  · rw [decide_eq_false c, if_pos (by decide)] at e2
    rw [if_neg c, if_neg (by decide), xhb_s, bm_e, xhb_s] at e1
    exact ⟨_, e1, e2⟩
theorem dm1 (x : Int64) : x / (-1 : Int64) = -x := by
  apply Int64.toBitVec_inj.mp
  rw [Int64.toBitVec_div]
  have : Int64.toBitVec (-1) = -1#64 := by decide
  have e2 : (-x).toBitVec = -x.toBitVec := Int64.toBitVec_neg x
  rw [e2]
  exact ((congrArg (fun z => x.toBitVec.sdiv z) this).trans (BitVec.sdiv_neg (x := x.toBitVec) (y := 1#64) (by decide))).trans (by rw [BitVec.sdiv_one])
theorem sdi_c (h g : mv_H) (P : Nat) (x y : Int64) (w : Int32) : ∃ u, f_Bits_ofTwo h 214 x y w = some (u &&& mkI w, h) ∧ f_Book_apply P g 1001 x y w = some (u, g) := by
  have e1 : f_Bits_ofTwo h 214 x y w = (xhb (f_Bits_signed h x w) fun v18 g17 => xhb (f_Bits_signed g17 y w) fun v20 g19 => xhb (f_Bits_signedDivide g19 v18 v20) fun v22 g21 => xhb (f_Bits_mask g21 w) fun v24 g23 => some ((v22 &&& v24), g23)) := by
    unfold f_Bits_ofTwo
    rw [if_neg (by decide), if_neg (by decide), if_neg (by decide), if_neg (by decide), if_neg (by decide), if_neg (by decide), if_neg (by decide), if_neg (by decide), if_neg (by decide), if_neg (by decide), if_pos (by decide)]
  have e2 : f_Book_apply P g 1001 x y w = (xhb (f_Book_signed g x w) fun u22 g21 => xhb (f_Book_signed g21 y w) fun u24 g23 => xhb (f_Book_divide g23 1001 u22 u24 x) fun u26 g25 => some (u26, g25)) := by
    unfold f_Book_apply
    rw [if_neg (by decide), if_neg (by decide), if_neg (by decide), if_neg (by decide), if_neg (by decide), if_neg (by decide), if_neg (by decide), if_neg (by decide), if_neg (by decide), if_neg (by decide), if_neg (by decide), if_neg (by decide), if_neg (by decide), if_neg (by decide), if_neg (by decide), if_neg (by decide)]
  unfold f_Bits_signed f_Bits_signedDivide at e1
  unfold f_Book_signed f_Book_divide at e2
  rw [xhb_s, xhb_s] at e1 e2
  rw [e1, e2]
  clear e1 e2
  generalize ((x <<< ((((64 : Int32) - w)).toInt64 &&& 63)) >>> ((((64 : Int32) - w)).toInt64 &&& 63)) = a
  generalize ((y <<< ((((64 : Int32) - w)).toInt64 &&& 63)) >>> ((((64 : Int32) - w)).toInt64 &&& 63)) = b
  by_cases z : lg_cmp b 0 = 0
  · rw [if_pos z, if_pos z, if_pos rfl, xhb_s, xhb_s, bm_e, xhb_s]
    exact ⟨-1, rfl, rfl⟩
  · have hb : xnzJ b = true := xnzJ_t (fun q => z ((lg_cmp_eq _ _).mpr q))
    rw [if_neg z, if_neg z, hb, cond_true, xhb_s, bm_e, xhb_s]
    by_cases y1 : lg_cmp b (-1) = 0
    · rw [if_pos y1, if_pos rfl, xhb_s]
      refine ⟨a / b, rfl, ?_⟩
      rw [(lg_cmp_eq _ _).mp y1, dm1]
    · rw [if_neg y1, if_pos rfl, cond_true, xhb_s]
      exact ⟨a / b, rfl, rfl⟩
/-- with sign or without, the low w bits are the same -/
theorem sg_and (x : Int64) {w : Nat} (h0 : 0 < w) (hw : w ≤ 64) : ((x <<< ((((64 : Int32) - nI w)).toInt64 &&& 63)) >>> ((((64 : Int32) - nI w)).toInt64 &&& 63)) &&& mkI (nI w) = x &&& mkI (nI w) := by
  have hs : ∀ k : Fin 65, 0 < k.val → (((((64 : Int32) - nI k.val)).toInt64 &&& 63)).toBitVec = BitVec.ofNat 64 (64 - k.val) ∧ ∀ i : Fin 64, (mkI (nI k.val)).toBitVec.getLsbD i.val = decide (i.val < k.val) := by decide +kernel
  obtain ⟨h1, h2⟩ := hs ⟨w, by omega⟩ h0
  apply Int64.toBitVec_inj.mp
  rw [Int64.toBitVec_and, Int64.toBitVec_and]
  apply BitVec.eq_of_getLsbD_eq
  intro i hi
  have h2 := h2 ⟨i, hi⟩
  have h2 : (mkI (nI w)).toBitVec.getLsbD i = decide (i < w) := h2
  rw [BitVec.getLsbD_and, BitVec.getLsbD_and, h2]
  by_cases c : i < w
  · rw [decide_eq_true c, Bool.and_true, Bool.and_true]
    have hb : ∀ k : Fin 64, (BitVec.ofNat 64 k.val).smod 64#64 = BitVec.ofNat 64 k.val := by decide +kernel
    have hk := hb ⟨64 - w, by omega⟩
    have hk : (BitVec.ofNat 64 (64 - w)).smod 64#64 = BitVec.ofNat 64 (64 - w) := hk
    rw [Int64.toBitVec_shiftRight, Int64.toBitVec_shiftLeft, h1]
    have hk2 : (BitVec.ofNat 64 (64 - w)).smod 64 = BitVec.ofNat 64 (64 - w) := hk
    rw [hk2]
    have hn : (BitVec.ofNat 64 (64 - w)).toNat = 64 - w := by
      rw [BitVec.toNat_ofNat]
      exact Nat.mod_eq_of_lt (by omega)
    rw [BitVec.sshiftRight_eq', BitVec.shiftLeft_eq', hn, BitVec.getLsbD_sshiftRight]
    rw [decide_eq_false (show ¬ 64 ≤ i by omega), if_pos (show 64 - w + i < 64 by omega), BitVec.getLsbD_shiftLeft, decide_eq_true (show 64 - w + i < 64 by omega), decide_eq_false (show ¬ 64 - w + i < 64 - w by omega), show 64 - w + i - (64 - w) = i by omega]
    simp
  · rw [decide_eq_false c, Bool.and_false, Bool.and_false]
