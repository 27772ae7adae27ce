/-! the constants in a word -/
theorem w32 (w : Int64) : w.toInt32.toBitVec.toNat = w.toBitVec.toNat % 4294967296 := by rw [wT_32, BitVec.toNat_setWidth]
theorem smod32 : ∀ k : Fin 32, ((nI k.val) &&& 31).toBitVec.smod 32 = BitVec.ofNat 32 k.val := by decide +kernel
theorem sar32 (x : Int32) {n : Nat} (hn : n < 32) : (x >>> ((nI n) &&& 31)).toBitVec = x.toBitVec.sshiftRight n := by
  rw [Int32.toBitVec_shiftRight, smod32 ⟨n, hn⟩]
  show x.toBitVec.sshiftRight (BitVec.ofNat 32 n).toNat = _
  rw [BitVec.toNat_ofNat, Nat.mod_eq_of_lt (by omega)]
theorem shl32 (x : Int32) {n : Nat} (hn : n < 32) : (x <<< ((nI n) &&& 31)).toBitVec.toNat = x.toBitVec.toNat * 2 ^ n % 4294967296 := by
  rw [Int32.toBitVec_shiftLeft, smod32 ⟨n, hn⟩, BitVec.shiftLeft_eq', BitVec.toNat_ofNat, Nat.mod_eq_of_lt (show n < 2 ^ 32 by omega), BitVec.toNat_shiftLeft, Nat.shiftLeft_eq]
theorem sar_n (x : Int32) {n : Nat} (hn : n < 32) : (x >>> ((nI n) &&& 31)).toBitVec.toInt = x.toBitVec.toInt / ((2 ^ n : Nat) : Int) := by
  rw [sar32 x hn, BitVec.toInt_sshiftRight, Int.shiftRight_eq_div_pow]
  all_goals rfl
theorem or_add {x y : Nat} (k : Nat) (hx : x % 2 ^ k = 0) (hy : y < 2 ^ k) : x ||| y = x + y := by
  have e : x = 2 ^ k * (x / 2 ^ k) := (Nat.mul_div_cancel' (Nat.dvd_of_mod_eq_zero hx)).symm
  rw [e]
  exact (Nat.two_pow_add_eq_or_of_lt hy _).symm
theorem or32 (x y : Int32) : (x ||| y).toBitVec.toNat = x.toBitVec.toNat ||| y.toBitVec.toNat := by rw [Int32.toBitVec_or, BitVec.toNat_or]
theorem WNd_nI (w : Int64) (lo : Nat) {n : Nat} (hn : n < 32) : (nI (WNd w lo n)).toBitVec.toNat = WNd w lo n := nI_tn (by
  have a := WNd_lt w lo n
  have b : 2 ^ n ≤ 2 ^ 31 := Nat.pow_le_pow_right (by decide) (by omega)
  omega)
/-- I -/
theorem immI_z (w : Int64) : ZE (u1 310 (nJ 8204) (gatV w (nJ 4293918720))) (w.toInt32 >>> ((20 : Int32) &&& 31)) := by
  have g := gat_4293918720 w
  have l := WNd_lt w 20 12
  have s := sx_12 (v := gatV w (nJ 4293918720)) (by rw [g]; exact l)
  rw [g] at s
  unfold ZE
  rw [s]
  have a := sar_n w.toInt32 (n := 20) (by decide)
  have b1 := BitVec.toInt_eq_toNat_cond (w.toInt32 >>> ((nI 20) &&& 31)).toBitVec
  have b2 := BitVec.toInt_eq_toNat_cond w.toInt32.toBitVec
  have b3 := w32 w
  have b4 := n32_lt (w.toInt32 >>> ((nI 20) &&& 31))
  show _ = (w.toInt32 >>> ((nI 20) &&& 31)).toBitVec.toNat
  rw [show (2 : Nat) ^ 20 = 1048576 from rfl] at a
  unfold WNd at l ⊢
  rw [show (2 : Nat) ^ 20 = 1048576 from rfl, show (2 : Nat) ^ 12 = 4096 from rfl] at l ⊢
  rw [b3] at b2
  generalize (w.toInt32 >>> ((nI 20) &&& 31)).toBitVec.toNat = B at b1 b4 ⊢
  generalize (w.toInt32 >>> ((nI 20) &&& 31)).toBitVec.toInt = Z at a b1
  generalize w.toInt32.toBitVec.toInt = Y at a b2
  generalize w.toBitVec.toNat = W at b2 b3 l ⊢
  clear s g b3
  split at b1 <;> split at b2 <;> split <;> omega
/-- S -/
theorem immS_v (h : mv_H) (w : Int64) : f_Model_immS h w.toInt32 = some (((w.toInt32 >>> ((25 : Int32) &&& 31)) <<< ((5 : Int32) &&& 31)) ||| nI (WNd w 7 5), h) := by
  unfold f_Model_immS
  rw [pie_11_7, xhb_s]
theorem immS_z (w : Int64) : ZE (u1 310 (nJ 8204) (u2 309 (nJ 5) (gatV w (nJ 4261412864)) (gatV w (nJ 3968)))) (((w.toInt32 >>> ((25 : Int32) &&& 31)) <<< ((5 : Int32) &&& 31)) ||| nI (WNd w 7 5)) := by
  have g1 := gat_4261412864 w
  have g2 := gat_3968 w
  have l1 : WNd w 25 7 < 128 := WNd_lt w 25 7
  have l2 : WNd w 7 5 < 32 := WNd_lt w 7 5
  have j := u309 (k := 5) (by decide) (x := gatV w (nJ 4261412864)) (y := gatV w (nJ 3968)) (by rw [g1]; exact Nat.lt_of_lt_of_le l1 (by decide)) (by rw [g2]; exact l2)
  rw [g1, g2, show (2 : Nat) ^ 5 = 32 from rfl] at j
  have s := sx_12 (v := u2 309 (nJ 5) (gatV w (nJ 4261412864)) (gatV w (nJ 3968))) (by rw [j]; omega)
  rw [j] at s
  have a := sar_n w.toInt32 (n := 25) (by decide)
  have b1 := BitVec.toInt_eq_toNat_cond (w.toInt32 >>> ((nI 25) &&& 31)).toBitVec
  have b2 := BitVec.toInt_eq_toNat_cond w.toInt32.toBitVec
  have b3 := w32 w
  have b4 := n32_lt (w.toInt32 >>> ((nI 25) &&& 31))
  have c := shl32 (w.toInt32 >>> ((nI 25) &&& 31)) (n := 5) (by decide)
  have o := or32 ((w.toInt32 >>> ((nI 25) &&& 31)) <<< ((nI 5) &&& 31)) (nI (WNd w 7 5))
  rw [WNd_nI w 7 (by decide), or_add 5 (by rw [c, show (2 : Nat) ^ 5 = 32 from rfl]; omega) l2, c] at o
  unfold ZE
  show _ = (((w.toInt32 >>> ((nI 25) &&& 31)) <<< ((nI 5) &&& 31)) ||| nI (WNd w 7 5)).toBitVec.toNat
  rw [s, o, show (2 : Nat) ^ 5 = 32 from rfl]
  rw [show (2 : Nat) ^ 25 = 33554432 from rfl] at a
  have e1 : WNd w 25 7 = w.toBitVec.toNat / 33554432 % 128 := rfl
  rw [b3] at b2
  generalize WNd w 7 5 = r at l2 ⊢
  rw [e1] at l1 ⊢
  clear s o c j g1 g2 e1 b3
  generalize (w.toInt32 >>> ((nI 25) &&& 31)).toBitVec.toNat = B at b1 b4 ⊢
  generalize (w.toInt32 >>> ((nI 25) &&& 31)).toBitVec.toInt = Z at a b1
  generalize w.toInt32.toBitVec.toInt = Y at a b2
  generalize w.toBitVec.toNat = W at b2 l1 ⊢
  split at b1 <;> split at b2 <;> split <;> omega
