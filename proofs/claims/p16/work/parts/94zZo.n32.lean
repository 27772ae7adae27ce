/-! numbers of 32 bits -/
/-- n bits of the word from lo on -/
def WNd (w : Int64) (lo n : Nat) : Nat := w.toBitVec.toNat / 2 ^ lo % 2 ^ n
theorem WNd_lt (w : Int64) (lo n : Nat) : WNd w lo n < 2 ^ n := Nat.mod_lt _ (Nat.two_pow_pos n)
theorem gat_n (w : Int64) {m hi lo : Nat} (h1 : lo ≤ hi) (h2 : hi ≤ 31) (hm : ((List.range 64).all fun p => (nJ m).toBitVec.getLsbD p == (Nat.ble lo p && Nat.ble p hi)) = true) : (gatV w (nJ m)).toBitVec.toNat = WNd w lo (hi - lo + 1) := by
  have hm' : ∀ p, (nJ m).toBitVec.getLsbD p = true ↔ (lo ≤ p ∧ p ≤ hi) := fun p => by
    by_cases q : p < 64
    · have := List.all_eq_true.mp hm p (List.mem_range.mpr q)
      rw [beq_iff_eq] at this
      rw [this, Bool.and_eq_true]
      exact ⟨fun z => ⟨Nat.le_of_ble_eq_true z.1, Nat.le_of_ble_eq_true z.2⟩, fun z => ⟨Nat.ble_eq_true_of_le z.1, Nat.ble_eq_true_of_le z.2⟩⟩
    · rw [BitVec.getLsbD_of_ge _ _ (by omega)]
      exact ⟨fun z => absurd z (by decide), fun z => by omega⟩
  have lt : WNd w lo (hi - lo + 1) < 18446744073709551616 := by
    have a := WNd_lt w lo (hi - lo + 1)
    have b : 2 ^ (hi - lo + 1) ≤ 2 ^ 64 := Nat.pow_le_pow_right (by decide) (by omega)
    exact Nat.lt_of_lt_of_le a b
  have g : GA w.toBitVec (nJ m).toBitVec (BitVec.ofNat 64 (WNd w lo (hi - lo + 1))) := GA.pc hm' (fun j => by
    rw [BitVec.getLsbD_ofNat]
    unfold WNd
    rw [Nat.testBit_mod_two_pow, Nat.testBit_div_two_pow, Bool.and_eq_true, Bool.and_eq_true, decide_eq_true_eq, decide_eq_true_eq]
    show (j < 64 ∧ j < hi - lo + 1 ∧ w.toBitVec.toNat.testBit (j + lo) = true) ↔ (j + lo ≤ hi ∧ w.toBitVec.toNat.testBit (j + lo) = true)
    exact ⟨fun z => ⟨by omega, z.2.2⟩, fun z => ⟨by omega, by omega, z.2⟩⟩)
  rw [(ga_GA w (nJ m)).eq g, BitVec.toNat_ofNat]
  exact Nat.mod_eq_of_lt lt
theorem pie_n (h : mv_H) (w : Int64) {hi lo : Nat} (h2 : lo ≤ hi) (h3 : hi ≤ 31) (h4 : hi - lo < 31) : f_Model_piece h w.toInt32 (nI hi) (nI lo) = some (nI (WNd w lo (hi - lo + 1)), h) := by
  have e := pi_v (w := w) h2 h3 h4
  rw [Nat.shiftRight_eq_div_pow] at e
  show some (pcI w.toInt32 (nI hi) (nI lo), h) = _
  rw [e]
  rfl
/-- v holds x, and no more -/
def ZE (v : Int64) (x : Int32) : Prop := v.toBitVec.toNat = x.toBitVec.toNat
theorem n32_lt (x : Int32) : x.toBitVec.toNat < 4294967296 := x.toBitVec.isLt
theorem ZE.lt {v : Int64} {x : Int32} (h : ZE v x) : v.toBitVec.toNat < 4294967296 := by rw [show v.toBitVec.toNat = x.toBitVec.toNat from h]; exact n32_lt x
theorem ZE.inj {v v' : Int64} {x : Int32} (h : ZE v x) (g : ZE v' x) : v = v' := Int64.toBitVec_inj.mp (BitVec.eq_of_toNat_eq (h.trans g.symm))
theorem ZE.inj2 {v : Int64} {x y : Int32} (h : ZE v x) (g : ZE v y) : x = y := Int32.toBitVec_inj.mp (BitVec.eq_of_toNat_eq (h.symm.trans g))
theorem nI_tn {n : Nat} (h : n < 4294967296) : (nI n).toBitVec.toNat = n := by
  show (BitVec.ofNat 32 n).toNat = n
  rw [BitVec.toNat_ofNat]
  exact Nat.mod_eq_of_lt h
theorem nJ_tn {n : Nat} (h : n < 18446744073709551616) : (nJ n).toBitVec.toNat = n := by
  show (BitVec.ofNat 64 n).toNat = n
  rw [BitVec.toNat_ofNat]
  exact Nat.mod_eq_of_lt h
theorem ZE.n {n : Nat} (h : n < 4294967296) : ZE (nJ n) (nI n) := by
  unfold ZE
  rw [nJ_tn (by omega), nI_tn h]
theorem and32 (v : Int64) : (v &&& mkI (nI 32)).toBitVec.toNat = v.toBitVec.toNat % 4294967296 := and_w v (by decide)
theorem ZE.mk {v : Int64} {x : Int32} (h : v.toBitVec.toNat % 4294967296 = x.toBitVec.toNat) : ZE (v &&& mkI (nI 32)) x := (and32 v).trans h
theorem ZE.keep {v : Int64} {x : Int32} (h : ZE v x) : ZE (v &&& mkI (nI 32)) x := ZE.mk (by rw [Nat.mod_eq_of_lt h.lt]; exact h)
/-- a long, cut -/
theorem ZE.of (v : Int64) : ZE (v &&& mkI (nI 32)) v.toInt32 := ZE.mk (by
  rw [wT_32, BitVec.toNat_setWidth])
section ZEO
variable {a b : Int64} {x y : Int32}
theorem ZE.add (h : ZE a x) (g : ZE b y) : ZE (u2 43 (nJ 32) a b) (x + y) := by
  rw [u2_v (by decide) (by decide) (tc_add hZ a b (nI 32))]
  refine ZE.mk ?_
  rw [Int64.toBitVec_add, Int32.toBitVec_add, BitVec.toNat_add, BitVec.toNat_add, show a.toBitVec.toNat = x.toBitVec.toNat from h, show b.toBitVec.toNat = y.toBitVec.toNat from g]
  omega
theorem ZE.sub (h : ZE a x) (g : ZE b y) : ZE (u2 45 (nJ 32) a b) (x - y) := by
  rw [u2_v (by decide) (by decide) (tc_sub hZ a b (nI 32))]
  refine ZE.mk ?_
  have := n32_lt x
  have := n32_lt y
  rw [Int64.toBitVec_sub, Int32.toBitVec_sub, BitVec.toNat_sub, BitVec.toNat_sub, show a.toBitVec.toNat = x.toBitVec.toNat from h, show b.toBitVec.toNat = y.toBitVec.toNat from g]
  omega
theorem ZE.mul (h : ZE a x) (g : ZE b y) : ZE (u2 42 (nJ 32) a b) (x * y) := by
  rw [u2_v (by decide) (by decide) (tc_mul hZ a b (nI 32))]
  refine ZE.mk ?_
  rw [Int64.toBitVec_mul, Int32.toBitVec_mul, BitVec.toNat_mul, BitVec.toNat_mul, show a.toBitVec.toNat = x.toBitVec.toNat from h, show b.toBitVec.toNat = y.toBitVec.toNat from g]
  exact Nat.mod_mod_of_dvd _ (by decide)
theorem ZE.and (h : ZE a x) (g : ZE b y) : ZE (u2 38 (nJ 32) a b) (x &&& y) := by
  rw [u2_v (by decide) (by decide) (tc_and hZ a b (nI 32))]
  unfold ZE
  rw [Int64.toBitVec_and, Int32.toBitVec_and, BitVec.toNat_and, BitVec.toNat_and, show a.toBitVec.toNat = x.toBitVec.toNat from h, show b.toBitVec.toNat = y.toBitVec.toNat from g]
theorem ZE.or (h : ZE a x) (g : ZE b y) : ZE (u2 124 (nJ 32) a b) (x ||| y) := by
  rw [u2_v (by decide) (by decide) (tc_or hZ a b (nI 32))]
  unfold ZE
  rw [Int64.toBitVec_or, Int32.toBitVec_or, BitVec.toNat_or, BitVec.toNat_or, show a.toBitVec.toNat = x.toBitVec.toNat from h, show b.toBitVec.toNat = y.toBitVec.toNat from g]
theorem ZE.xor (h : ZE a x) (g : ZE b y) : ZE (u2 94 (nJ 32) a b) (x ^^^ y) := by
  rw [u2_v (by decide) (by decide) (tc_xor hZ a b (nI 32))]
  unfold ZE
  rw [Int64.toBitVec_xor, Int32.toBitVec_xor, BitVec.toNat_xor, BitVec.toNat_xor, show a.toBitVec.toNat = x.toBitVec.toNat from h, show b.toBitVec.toNat = y.toBitVec.toNat from g]
theorem ZE.lt9 (h : ZE a x) (g : ZE b y) : u2 60 (nJ 32) a b = oneI (decide (x.toBitVec.toNat < y.toBitVec.toNat)) := by
  rw [u2_v (by decide) (by decide) (tc_lt hZ a b (nI 32)), show a.toBitVec.toNat = x.toBitVec.toNat from h, show b.toBitVec.toNat = y.toBitVec.toNat from g]
theorem ZE.le9 (h : ZE a x) (g : ZE b y) : u2 130 (nJ 32) a b = oneI (!decide (y.toBitVec.toNat < x.toBitVec.toNat)) := by
  rw [u2_v (by decide) (by decide) (tc_le hZ a b (nI 32)), show a.toBitVec.toNat = x.toBitVec.toNat from h, show b.toBitVec.toNat = y.toBitVec.toNat from g]
theorem ZE.eq9 (h : ZE a x) (g : ZE b y) : u2 128 (nJ 32) a b = oneI (decide (x = y)) := by
  rw [u2_v (by decide) (by decide) (tc_eq hZ a b (nI 32))]
  congr 1
  exact decide_eq_decide.mpr ⟨fun z => by subst z; exact h.inj2 g, fun z => by subst z; exact h.inj g⟩
theorem ZE.ne9 (h : ZE a x) (g : ZE b y) : u2 129 (nJ 32) a b = oneI (!decide (x = y)) := by
  rw [u2_v (by decide) (by decide) (tc_ne hZ a b (nI 32))]
  congr 2
  exact decide_eq_decide.mpr ⟨fun z => by subst z; exact h.inj2 g, fun z => by subst z; exact h.inj g⟩
end ZEO
/-- two numbers joined -/
theorem u309 {k : Nat} (hk : k < 64) {x y : Int64} (hx : x.toBitVec.toNat < 2 ^ (64 - k)) (hy : y.toBitVec.toNat < 2 ^ k) : (u2 309 (nJ k) x y).toBitVec.toNat = x.toBitVec.toNat * 2 ^ k + y.toBitVec.toNat := by
  have e : u2 309 (nJ k) x y = (x <<< (((nJ k).toInt32).toInt64 &&& 63)) ||| y := by
    unfold u2
    rw [if_pos rfl]
  have es : ∀ k : Fin 64, (((nJ k.val).toInt32).toInt64 &&& 63) = Int64.ofNat k.val := by decide +kernel
  rw [e, es ⟨k, hk⟩, Int64.toBitVec_or, BitVec.toNat_or]
  have e2 : (x <<< Int64.ofNat k).toBitVec.toNat = x.toBitVec.toNat * 2 ^ k := by
    have e3 : (x <<< Int64.ofNat k).toBitVec = x.toBitVec <<< k := by
      rw [Int64.toBitVec_shiftLeft]
      have e4 : (Int64.ofNat k).toBitVec.smod 64 = BitVec.ofNat 64 k := by
        have : ∀ k : Fin 64, (Int64.ofNat k.val).toBitVec.smod 64 = BitVec.ofNat 64 k.val := by decide +kernel
        exact this ⟨k, hk⟩
      rw [e4, BitVec.shiftLeft_eq', BitVec.toNat_ofNat, Nat.mod_eq_of_lt (by omega)]
    rw [e3, BitVec.toNat_shiftLeft, Nat.shiftLeft_eq]
    refine Nat.mod_eq_of_lt ?_
    calc x.toBitVec.toNat * 2 ^ k < 2 ^ (64 - k) * 2 ^ k := Nat.mul_lt_mul_of_pos_right hx (Nat.two_pow_pos k)
      _ = 2 ^ 64 := by rw [← Nat.pow_add]; congr 1; omega
  rw [e2, Nat.mul_comm, ← Nat.two_pow_add_eq_or_of_lt hy]

theorem gat_128 (w : Int64) : (gatV w (nJ 128)).toBitVec.toNat = WNd w 7 1 := gat_n w (hi := 7) (lo := 7) (by decide) (by decide) (by decide +kernel)
theorem gat_3840 (w : Int64) : (gatV w (nJ 3840)).toBitVec.toNat = WNd w 8 4 := gat_n w (hi := 11) (lo := 8) (by decide) (by decide) (by decide +kernel)
theorem gat_3968 (w : Int64) : (gatV w (nJ 3968)).toBitVec.toNat = WNd w 7 5 := gat_n w (hi := 11) (lo := 7) (by decide) (by decide) (by decide +kernel)
theorem gat_1015808 (w : Int64) : (gatV w (nJ 1015808)).toBitVec.toNat = WNd w 15 5 := gat_n w (hi := 19) (lo := 15) (by decide) (by decide) (by decide +kernel)
theorem gat_1044480 (w : Int64) : (gatV w (nJ 1044480)).toBitVec.toNat = WNd w 12 8 := gat_n w (hi := 19) (lo := 12) (by decide) (by decide) (by decide +kernel)
theorem gat_1048576 (w : Int64) : (gatV w (nJ 1048576)).toBitVec.toNat = WNd w 20 1 := gat_n w (hi := 20) (lo := 20) (by decide) (by decide) (by decide +kernel)
theorem gat_32505856 (w : Int64) : (gatV w (nJ 32505856)).toBitVec.toNat = WNd w 20 5 := gat_n w (hi := 24) (lo := 20) (by decide) (by decide) (by decide +kernel)
theorem gat_2113929216 (w : Int64) : (gatV w (nJ 2113929216)).toBitVec.toNat = WNd w 25 6 := gat_n w (hi := 30) (lo := 25) (by decide) (by decide) (by decide +kernel)
theorem gat_2145386496 (w : Int64) : (gatV w (nJ 2145386496)).toBitVec.toNat = WNd w 21 10 := gat_n w (hi := 30) (lo := 21) (by decide) (by decide) (by decide +kernel)
theorem gat_2147483648 (w : Int64) : (gatV w (nJ 2147483648)).toBitVec.toNat = WNd w 31 1 := gat_n w (hi := 31) (lo := 31) (by decide) (by decide) (by decide +kernel)
theorem gat_4261412864 (w : Int64) : (gatV w (nJ 4261412864)).toBitVec.toNat = WNd w 25 7 := gat_n w (hi := 31) (lo := 25) (by decide) (by decide) (by decide +kernel)
theorem gat_4293918720 (w : Int64) : (gatV w (nJ 4293918720)).toBitVec.toNat = WNd w 20 12 := gat_n w (hi := 31) (lo := 20) (by decide) (by decide) (by decide +kernel)
theorem gat_4294963200 (w : Int64) : (gatV w (nJ 4294963200)).toBitVec.toNat = WNd w 12 20 := gat_n w (hi := 31) (lo := 12) (by decide) (by decide) (by decide +kernel)
theorem pie_11_7 (h : mv_H) (w : Int64) : f_Model_piece h w.toInt32 (11 : Int32) (7 : Int32) = some (nI (WNd w 7 5), h) := pie_n h w (hi := 11) (lo := 7) (by decide) (by decide) (by decide)
theorem pie_19_15 (h : mv_H) (w : Int64) : f_Model_piece h w.toInt32 (19 : Int32) (15 : Int32) = some (nI (WNd w 15 5), h) := pie_n h w (hi := 19) (lo := 15) (by decide) (by decide) (by decide)
theorem pie_24_20 (h : mv_H) (w : Int64) : f_Model_piece h w.toInt32 (24 : Int32) (20 : Int32) = some (nI (WNd w 20 5), h) := pie_n h w (hi := 24) (lo := 20) (by decide) (by decide) (by decide)
theorem pie_7_7 (h : mv_H) (w : Int64) : f_Model_piece h w.toInt32 (7 : Int32) (7 : Int32) = some (nI (WNd w 7 1), h) := pie_n h w (hi := 7) (lo := 7) (by decide) (by decide) (by decide)
theorem pie_30_25 (h : mv_H) (w : Int64) : f_Model_piece h w.toInt32 (30 : Int32) (25 : Int32) = some (nI (WNd w 25 6), h) := pie_n h w (hi := 30) (lo := 25) (by decide) (by decide) (by decide)
theorem pie_11_8 (h : mv_H) (w : Int64) : f_Model_piece h w.toInt32 (11 : Int32) (8 : Int32) = some (nI (WNd w 8 4), h) := pie_n h w (hi := 11) (lo := 8) (by decide) (by decide) (by decide)
theorem pie_19_12 (h : mv_H) (w : Int64) : f_Model_piece h w.toInt32 (19 : Int32) (12 : Int32) = some (nI (WNd w 12 8), h) := pie_n h w (hi := 19) (lo := 12) (by decide) (by decide) (by decide)
theorem pie_20_20 (h : mv_H) (w : Int64) : f_Model_piece h w.toInt32 (20 : Int32) (20 : Int32) = some (nI (WNd w 20 1), h) := pie_n h w (hi := 20) (lo := 20) (by decide) (by decide) (by decide)
theorem pie_30_21 (h : mv_H) (w : Int64) : f_Model_piece h w.toInt32 (30 : Int32) (21 : Int32) = some (nI (WNd w 21 10), h) := pie_n h w (hi := 30) (lo := 21) (by decide) (by decide) (by decide)
