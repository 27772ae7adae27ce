/-! loads -/
theorem in_m (h : mv_H) (p : Int32) {n : Nat} (hn : n ≤ 4) (h0 : 0 < n) : f_Model_inMemory h p (nI n) = some (if p.toBitVec.toNat + n ≤ 32768 then 1 else 0, h) := by
  have c := BitVec.toInt_eq_toNat_cond p.toBitVec
  have ti : p.toBitVec.toInt = p.toInt := rfl
  have l := n32_lt p
  rw [ti] at c
  have e : ((32768 : Int32) - nI n).toInt64 = Int64.ofNat (32768 - n) := by
    have : ∀ k : Fin 5, ((32768 : Int32) - nI k.val).toInt64 = Int64.ofNat (32768 - k.val) := by decide +kernel
    exact this ⟨n, by omega⟩
  have e2 : (Int64.ofNat (32768 - n)).toInt = ((32768 - n : Nat) : Int) := Int64.toInt_ofNat_of_lt (by omega)
  unfold f_Model_inMemory f_Model_in f_Model_in_17
  rw [e]
  by_cases a : p.toBitVec.toNat + n ≤ 32768
  · have a1 : ¬ lg_cmp p.toInt64 0 < 0 := fun q => by
      have := (lg_cmp_lt _ _).mp q
      rw [Int64.lt_iff_toInt_lt, Int32.toInt_toInt64] at this
      have : p.toInt < 0 := this
      split at c <;> omega
    have a2 : ¬ (0 : Int32) < lg_cmp p.toInt64 (Int64.ofNat (32768 - n)) := fun q => by
      have := mt (lg_cmp_le _ _).mpr (fun z => absurd q (Int32.not_lt.mpr z))
      rw [Int64.le_iff_toInt_le, Int32.toInt_toInt64, e2] at this
      split at c <;> omega
    rw [if_pos a, if_neg a1, if_neg a2]
    rfl
  · rw [if_neg a]
    by_cases a1 : lg_cmp p.toInt64 0 < 0
    · rw [if_pos a1]; rfl
    · have a3 : ¬ p.toInt < 0 := fun q => a1 ((lg_cmp_lt _ _).mpr (by rw [Int64.lt_iff_toInt_lt, Int32.toInt_toInt64]; exact q))
      have a2 : (0 : Int32) < lg_cmp p.toInt64 (Int64.ofNat (32768 - n)) := by
        refine Decidable.byContradiction (fun q => ?_)
        have := (lg_cmp_le _ _).mp (Int32.not_lt.mp q)
        rw [Int64.le_iff_toInt_le, Int32.toInt_toInt64, e2] at this
        split at c <;> omega
      rw [if_neg a1, if_pos a2]; rfl
theorem and255n (x : Int32) : (x &&& (255 : Int32)).toBitVec.toNat = x.toBitVec.toNat % 256 := by
  rw [Int32.toBitVec_and, BitVec.toNat_and]
  exact Nat.and_two_pow_sub_one_eq_mod _ 8
/-- one more byte -/
theorem cat8 {u b : Int32} (hu : u.toBitVec.toNat < 16777216) : ((u <<< ((8 : Int32) &&& 31)) ||| (b &&& (255 : Int32))).toBitVec.toNat = u.toBitVec.toNat * 256 + b.toBitVec.toNat % 256 := by
  have c := shl32 u (n := 8) (by decide)
  rw [show (2 : Nat) ^ 8 = 256 from rfl] at c
  have o := or32 (u <<< ((nI 8) &&& 31)) (b &&& (255 : Int32))
  rw [and255n, or_add 8 (by rw [c, show (2 : Nat) ^ 8 = 256 from rfl]; omega) (by rw [show (2 : Nat) ^ 8 = 256 from rfl]; omega), c] at o
  show ((u <<< ((nI 8) &&& 31)) ||| (b &&& (255 : Int32))).toBitVec.toNat = _
  rw [o]
  omega
theorem i8_n (x : Int32) : (x.toInt8.toInt32).toBitVec.toNat = if x.toBitVec.toNat % 256 < 128 then x.toBitVec.toNat % 256 else x.toBitVec.toNat % 256 + 4294967040 := by
  have e : x.toInt8.toInt32.toBitVec = (x.toBitVec.setWidth 8).signExtend 32 := by
    show (x.toBitVec.signExtend 8).signExtend 32 = _
    congr 1
    apply BitVec.eq_of_getLsbD_eq
    intro i hi
    rw [BitVec.getLsbD_signExtend, BitVec.getLsbD_setWidth, if_pos (show i < 32 by omega)]
  have a := BitVec.toInt_signExtend_of_le (x := x.toBitVec.setWidth 8) (v := 32) (by decide)
  have b := BitVec.toInt_eq_toNat_cond ((x.toBitVec.setWidth 8).signExtend 32)
  have c := BitVec.toInt_eq_toNat_cond (x.toBitVec.setWidth 8)
  have d : (x.toBitVec.setWidth 8).toNat = x.toBitVec.toNat % 256 := BitVec.toNat_setWidth 8 _
  have l := ((x.toBitVec.setWidth 8).signExtend 32).isLt
  rw [e]
  rw [a] at b
  rw [d] at c
  generalize ((x.toBitVec.setWidth 8).signExtend 32).toNat = y at b l ⊢
  generalize (x.toBitVec.setWidth 8).toInt = z at b c
  generalize x.toBitVec.toNat = u at c ⊢
  split at b <;> split at c <;> split <;> omega
theorem i16_n (x : Int32) : (x.toInt16.toInt32).toBitVec.toNat = if x.toBitVec.toNat % 65536 < 32768 then x.toBitVec.toNat % 65536 else x.toBitVec.toNat % 65536 + 4294901760 := by
  have e : x.toInt16.toInt32.toBitVec = (x.toBitVec.setWidth 16).signExtend 32 := by
    show (x.toBitVec.signExtend 16).signExtend 32 = _
    congr 1
    apply BitVec.eq_of_getLsbD_eq
    intro i hi
    rw [BitVec.getLsbD_signExtend, BitVec.getLsbD_setWidth, if_pos (show i < 32 by omega)]
  have a := BitVec.toInt_signExtend_of_le (x := x.toBitVec.setWidth 16) (v := 32) (by decide)
  have b := BitVec.toInt_eq_toNat_cond ((x.toBitVec.setWidth 16).signExtend 32)
  have c := BitVec.toInt_eq_toNat_cond (x.toBitVec.setWidth 16)
  have d : (x.toBitVec.setWidth 16).toNat = x.toBitVec.toNat % 65536 := BitVec.toNat_setWidth 16 _
  have l := ((x.toBitVec.setWidth 16).signExtend 32).isLt
  rw [e]
  rw [a] at b
  rw [d] at c
  generalize ((x.toBitVec.setWidth 16).signExtend 32).toNat = y at b l ⊢
  generalize (x.toBitVec.setWidth 16).toInt = z at b c
  generalize x.toBitVec.toNat = u at c ⊢
  split at b <;> split at c <;> split <;> omega
section LDS
variable {P : Nat} {R : Nat → Nat → Int64} {h : mv_H} {w : Int64}
theorem p_add {p : Int32} {j : Nat} (hp : p.toBitVec.toNat + j < 32768) : p + nI j = nI (p.toBitVec.toNat + j) := by
  apply Int32.toBitVec_inj.mp
  apply BitVec.eq_of_toNat_eq
  rw [Int32.toBitVec_add, BitVec.toNat_add, nI_tn (by omega), nI_tn (by omega)]
  omega
/-- a turn of the load's loop -/
theorem ld_t {n j : Nat} {k x2 p u : Int32} (hp : p.toBitVec.toNat + j < 32768) (hj : j < 4) : f_Model_load_68 P (n + 1) k x2 p u (nI j) h = f_Model_load_68 P n k x2 p ((u <<< ((8 : Int32) &&& 31)) ||| (mv_a h 73 (p.toBitVec.toNat + j) &&& (255 : Int32))) (nI j + (-1)) h := by
  show fF_Model_load_68 P (f_Model_load_68 P n) k x2 p u (nI j) h = _
  unfold fF_Model_load_68
  rw [if_neg (show ¬ nI j < (0 : Int32) from fun q => by have := (nIlt (b := 0) (by omega) (by omega)).mp q; omega), p_add hp, xvi_n hp (by decide), cond_true, cln (by omega)]
theorem ld_e {n : Nat} {k p u : Int32} : f_Model_load_68 P (n + 1) k w.toInt32 p u (-1) h = (if k = (10 : Int32) then (f_Model_load_136 P ((u).toInt8.toInt32) (nI (WNd w 7 5)) h) else (if k = (11 : Int32) then (f_Model_load_136 P ((u).toInt16.toInt32) (nI (WNd w 7 5)) h) else (f_Model_load_136 P u (nI (WNd w 7 5)) h))) := by
  show fF_Model_load_68 P (f_Model_load_68 P n) k w.toInt32 p u (-1) h = _
  unfold fF_Model_load_68
  rw [if_pos (by decide), pie_11_7, xhb_s]
/-- what the load's loop gathers -/
theorem ld_1 {p : Int32} {k : Int32} (hp : p.toBitVec.toNat + 1 ≤ 32768) : ∃ u : Int32, f_Model_load_68 P 200000 k w.toInt32 p 0 (nI 1 - 1) h = f_Model_load_68 P 199999 k w.toInt32 p u (-1) h ∧ u.toBitVec.toNat = (mv_a h 73 p.toBitVec.toNat).toBitVec.toNat % 256 :=
  ⟨_, ld_t (n := 199999) (j := 0) (by omega) (by decide), (cat8 (by decide)).trans (by rw [Nat.add_zero]; show 0 * 256 + _ = _; omega)⟩
theorem ld_2 {p : Int32} {k : Int32} (hp : p.toBitVec.toNat + 2 ≤ 32768) : ∃ u : Int32, f_Model_load_68 P 200000 k w.toInt32 p 0 (nI 2 - 1) h = f_Model_load_68 P 199998 k w.toInt32 p u (-1) h ∧ u.toBitVec.toNat = (mv_a h 73 (p.toBitVec.toNat + 1)).toBitVec.toNat % 256 * 256 + (mv_a h 73 p.toBitVec.toNat).toBitVec.toNat % 256 := by
  have a := cat8 (u := 0) (b := mv_a h 73 (p.toBitVec.toNat + 1)) (by decide)
  rw [show (0 : Int32).toBitVec.toNat = 0 from rfl, Nat.zero_mul, Nat.zero_add] at a
  refine ⟨_, (ld_t (n := 199999) (j := 1) (by omega) (by decide)).trans (ld_t (n := 199998) (j := 0) (by omega) (by decide)), ?_⟩
  rw [cat8 (by rw [a]; omega), a]
  rfl
theorem ld_4 {p : Int32} {k : Int32} (hp : p.toBitVec.toNat + 4 ≤ 32768) : ∃ u : Int32, f_Model_load_68 P 200000 k w.toInt32 p 0 (nI 4 - 1) h = f_Model_load_68 P 199996 k w.toInt32 p u (-1) h ∧ u.toBitVec.toNat = (((mv_a h 73 (p.toBitVec.toNat + 3)).toBitVec.toNat % 256 * 256 + (mv_a h 73 (p.toBitVec.toNat + 2)).toBitVec.toNat % 256) * 256 + (mv_a h 73 (p.toBitVec.toNat + 1)).toBitVec.toNat % 256) * 256 + (mv_a h 73 p.toBitVec.toNat).toBitVec.toNat % 256 := by
  have a := cat8 (u := 0) (b := mv_a h 73 (p.toBitVec.toNat + 3)) (by decide)
  rw [show (0 : Int32).toBitVec.toNat = 0 from rfl, Nat.zero_mul, Nat.zero_add] at a
  have b := cat8 (b := mv_a h 73 (p.toBitVec.toNat + 2)) (by rw [a]; omega)
  rw [a] at b
  have c := cat8 (b := mv_a h 73 (p.toBitVec.toNat + 1)) (by rw [b]; omega)
  rw [b] at c
  refine ⟨_, ((ld_t (n := 199999) (j := 3) (by omega) (by decide)).trans (ld_t (n := 199998) (j := 2) (by omega) (by decide))).trans ((ld_t (n := 199997) (j := 1) (by omega) (by decide)).trans (ld_t (n := 199996) (j := 0) (by omega) (by decide))), ?_⟩
  rw [cat8 (by rw [c]; omega), c]
  rfl
end LDS
