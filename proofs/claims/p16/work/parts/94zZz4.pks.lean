/-! peek and poke of the shipped machine -/
theorem pkx_0 {R : Nat → Nat → Int64} {h : mv_H} (L : RLs R h) : ((mv_i h 70 6).toInt64 &&& (4294967295 : Int64)) = R 0 0 := L.1.x
theorem pkx_1 {R : Nat → Nat → Int64} {h : mv_H} (L : RLs R h) {i : Nat} (hi : i < 32) : ((mv_a h 72 i).toInt64 &&& (4294967295 : Int64)) = R 1 i := (L.2.1 i hi).x
theorem pkx_2 {R : Nat → Nat → Int64} {h : mv_H} (L : RLs R h) {i : Nat} (hi : i < 32768) : (mv_a h 73 i &&& (255 : Int32)).toInt64 = R 2 i := by
  apply Int64.toBitVec_inj.mp
  apply BitVec.eq_of_toNat_eq
  rw [L.2.2.2 i hi]
  have a := and255n (mv_a h 73 i)
  have b := BitVec.toInt_eq_toNat_cond (mv_a h 73 i &&& (255 : Int32)).toInt64.toBitVec
  have c := BitVec.toInt_eq_toNat_cond (mv_a h 73 i &&& (255 : Int32)).toBitVec
  have d : (mv_a h 73 i &&& (255 : Int32)).toInt64.toBitVec.toInt = (mv_a h 73 i &&& (255 : Int32)).toBitVec.toInt := by
    show (mv_a h 73 i &&& (255 : Int32)).toInt64.toInt = (mv_a h 73 i &&& (255 : Int32)).toInt
    rw [Int32.toInt_toInt64]
  have l := (mv_a h 73 i &&& (255 : Int32)).toInt64.toBitVec.isLt
  rw [d] at b
  rw [a] at c
  generalize (mv_a h 73 i &&& (255 : Int32)).toInt64.toBitVec.toNat = y at b l ⊢
  generalize (mv_a h 73 i &&& (255 : Int32)).toBitVec.toInt = z at b c
  generalize (mv_a h 73 i).toBitVec.toNat = x at c ⊢
  split at b <;> split at c <;> omega
/-- a write of a value that is cut -/
theorem wr_mk {R : Nat → Nat → Int64} {w v : Int64} {d : Nat} : wrT (eW rS w) 1 d (v &&& mkI (nI 32)) R = wrT (eW rS w) 1 d v R := by
  rw [wr_1, wr_1]
  by_cases c : d = 0
  · rw [if_pos c, if_pos c]
  · rw [if_neg c, if_neg c, (FTq.and v (w := 32) (by decide)).eq (by decide)]
theorem wr_w {R : Nat → Nat → Int64} {w w' v : Int64} {t d : Nat} : wrT (eW rS w) t d v R = wrT (eW rS w') t d v R := rfl
theorem pox_0 {R : Nat → Nat → Int64} {h : mv_H} {w v : Int64} (L : RLs R h) : RLs (wrT (eW rS w) 0 0 v R) (mv_si h 70 6 v.toInt32) := L.pc (ZE.of v)
theorem pox_1 {R : Nat → Nat → Int64} {h : mv_H} {w v : Int64} {d : Nat} (L : RLs R h) (hd : d < 32) (P : Nat) : ∃ h', f_Model_set P h (nI d) v.toInt32 = some h' ∧ RLs (wrT (eW rS w) 1 d v R) h' ∧ SFs h h' := by
  rw [← wr_mk]
  exact L.xw hd (ZE.of v) P
theorem pox_2 {R : Nat → Nat → Int64} {h : mv_H} {w v : Int64} {i : Nat} (L : RLs R h) (hi : i < 32768) : RLs (wrT (eW rS w) 2 i v R) (mv_sa h 73 i (vp_nar .byte (v.toInt32.toInt8.toInt32))) := by
  refine L.m hi ?_
  have n1 := i8_n v.toInt32
  have n2 := i8_n (v.toInt32.toInt8.toInt32)
  have n3 : (vp_nar .byte (v.toInt32.toInt8.toInt32)).toBitVec.toNat = (v.toInt32.toInt8.toInt32).toInt8.toInt32.toBitVec.toNat := rfl
  have n4 := w32 v
  rw [n3, n2, n1, n4]
  generalize v.toBitVec.toNat = z
  repeat' split
  all_goals omega
