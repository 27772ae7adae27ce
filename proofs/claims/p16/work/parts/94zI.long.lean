/-! numbers: the reference's long division -/
theorem sbG9 {R B : Nat} (h : B ≤ R) (hB : B < 18446744073709551616) : nJ R - nJ B = nJ (R - B) := by
  rw [xJ_sub]
  unfold ysub
  exact xJ_eq (by omega)
theorem dv_R {A r n : Nat} (hA : A < 18446744073709551616) (hn : n < 64) : (nJ r <<< (((1 : Int32)).toInt64 &&& 63)) ||| ((((nJ A).toUInt64 >>> ((nI n).toInt64.toUInt64 &&& Int64.toUInt64 63)).toInt64) &&& (1 : Int64)) = nJ (2 * r + A / 2 ^ n % 2) := by
  have e1 : nJ r <<< (((1 : Int32)).toInt64 &&& 63) = nJ (yshl r 1) := xJ_shl r 1
  have e2 : yshl r 1 = (r % 9223372036854775808) <<< 1 := by
    unfold yshl
    rw [show 1 % 64 = 1 from rfl, Nat.shiftLeft_eq, Nat.shiftLeft_eq]
    omega
  have e3 : (1 : Int64) = nJ 1 := rfl
  have hb : A / 2 ^ n % 2 < 2 ^ 1 := Nat.mod_lt _ (by decide)
  rw [shJ hA hn, e1, e2, e3, xJ_and, Nat.and_one_is_mod, xJ_or, ← Nat.shiftLeft_add_eq_or_of_lt hb, Nat.shiftLeft_eq]
  exact xJ_eq (by omega)
theorem dv_st (c : Nat) {B : Nat} (h0 : 0 < B) : (2 * (c / 2 % B) + c % 2 < B → c / B = 2 * (c / 2 / B) ∧ c % B = 2 * (c / 2 % B) + c % 2) ∧ (¬ 2 * (c / 2 % B) + c % 2 < B → c / B = 2 * (c / 2 / B) + 1 ∧ c % B = 2 * (c / 2 % B) + c % 2 - B) := by
  have d := Nat.div_add_mod' (c / 2) B
  have m := Nat.mod_lt (c / 2) h0
  have g := Nat.div_add_mod' c B
  have k1 : 2 * (c / 2 / B) * B = 2 * (c / 2 / B * B) := Nat.mul_assoc _ _ _
  have k2 : (2 * (c / 2 / B) + 1) * B = 2 * (c / 2 / B * B) + B := by rw [Nat.add_mul, k1, Nat.one_mul]
  have k3 : (2 * (c / 2 / B) + 1 + 1) * B = 2 * (c / 2 / B * B) + B + B := by rw [Nat.add_mul, k2, Nat.one_mul]
  constructor
  · intro z
    have e : c / B = 2 * (c / 2 / B) := Nat.div_eq_of_lt_le (by rw [k1]; omega) (by rw [k2]; omega)
    refine ⟨e, ?_⟩
    rw [e, k1] at g
    omega
  · intro z
    have e : c / B = 2 * (c / 2 / B) + 1 := Nat.div_eq_of_lt_le (by rw [k2]; omega) (by rw [k3]; omega)
    refine ⟨e, ?_⟩
    rw [e, k2] at g
    omega
theorem nI_m1q (n : Nat) : nI n + (-1) = nI n - 1 := by
  rw [Int32.sub_eq_add_neg]
theorem dv_lp {A B : Nat} (hA : A < 18446744073709551616) (hB : B < 18446744073709551616) (h0 : 0 < B) (hz : mv_H) : ∀ (n nn q r : Nat), n ≤ 64 → n < nn → r = A / 2 ^ n % B → q = A / 2 ^ n / B * 2 ^ n → f_Book_divided_10 nn (nJ A) (nJ B) (nJ q) (nJ r) (nI n - 1) hz = some (nJ (A / B), hz) := by
  intro n
  induction n with
  | zero =>
    intro nn q r hn hnn hr hq
    cases nn with
    | zero => omega
    | succ nn =>
      show fF_Book_divided_10 (f_Book_divided_10 nn) (nJ A) (nJ B) (nJ q) (nJ r) (nI 0 - 1) hz = _
      unfold fF_Book_divided_10
      have e : q = A / B := by rw [hq, Nat.pow_zero, Nat.div_one, Nat.mul_one]
      rw [if_pos (show nI 0 - 1 < 0 by decide), e]
  | succ n ih =>
    intro nn q r hn hnn hr hq
    cases nn with
    | zero => omega
    | succ nn =>
      have e8 : nI (n + 1) - 1 = nI n := nI_sub (a := n + 1) (b := 1) (by omega) (by omega)
      show fF_Book_divided_10 (f_Book_divided_10 nn) (nJ A) (nJ B) (nJ q) (nJ r) (nI (n + 1) - 1) hz = _
      rw [e8]
      have c2 : A / 2 ^ (n + 1) = A / 2 ^ n / 2 := by rw [Nat.pow_succ, Nat.div_div_eq_div_mul]
      rw [c2] at hr hq
      have hrB : r < B := by rw [hr]; exact Nat.mod_lt _ h0
      obtain ⟨s1, s2⟩ := dv_st (A / 2 ^ n) h0
      rw [← hr] at s1 s2
      have n0 : ¬ nI n < 0 := fun z => by
        have z := Int32.lt_iff_toInt_lt.mp z
        rw [nIi (by omega)] at z
        have z : (n : Int) < 0 := z
        omega
      have hq2 : q = 2 * (A / 2 ^ n / 2 / B) * 2 ^ n := by rw [hq, Nat.pow_succ]; rw [Nat.mul_comm (2 ^ n) 2, ← Nat.mul_assoc, Nat.mul_comm _ 2]
      have go1 : 2 * r + A / 2 ^ n % 2 < B → f_Book_divided_10 nn (nJ A) (nJ B) (nJ q) (nJ (2 * r + A / 2 ^ n % 2)) (nI n + (-1)) hz = some (nJ (A / B), hz) := fun z => by
        rw [nI_m1q]
        exact ih nn q _ (by omega) (by omega) (s1 z).2.symm (by rw [(s1 z).1]; exact hq2)
      have go2 : ¬ 2 * r + A / 2 ^ n % 2 < B → f_Book_divided_59 (f_Book_divided_10 nn) (nJ A) (nJ B) (nJ q) (nJ (2 * r + A / 2 ^ n % 2)) (nI n) hz = some (nJ (A / B), hz) := fun z => by
        unfold f_Book_divided_59 f_Book_divided_74
        have e1 : (1 : Int64) <<< ((nI n).toInt64 &&& 63) = nJ (2 ^ n) := by
          have e1 : (1 : Int64) <<< ((nI n).toInt64 &&& 63) = nJ (yshl 1 n) := xJ_shl 1 n
          rw [e1]
          unfold yshl
          rw [Nat.mod_eq_of_lt (show n < 64 by omega), Nat.shiftLeft_eq, Nat.one_mul, Nat.mod_eq_of_lt]
          exact Nat.pow_lt_pow_right (by decide) (show n < 64 by omega)
        have hp : 2 ^ n < 2 ^ (n + 1) := Nat.pow_lt_pow_right (by decide) (by omega)
        have e2 : nJ q ||| nJ (2 ^ n) = nJ (q + 2 ^ n) := by
          rw [xJ_or, hq, ← Nat.shiftLeft_eq, ← Nat.shiftLeft_add_eq_or_of_lt hp]
        rw [e1, e2, sbG9 (by omega) hB, nI_m1q]
        refine ih nn _ _ (by omega) (by omega) (s2 z).2.symm ?_
        rw [(s2 z).1, Nat.add_mul, Nat.one_mul, ← hq2]
      unfold fF_Book_divided_10
      rw [if_neg n0]
      by_cases cy : 9223372036854775808 ≤ r
      · have hr64 : r < 18446744073709551616 := by omega
        rw [if_neg (Int32.not_le.mpr ((lc_neg hr64).mpr cy))]
        unfold f_Book_divided_27
        rw [if_neg (show ¬ (1 : Int32) = 0 by decide), dv_R hA (by omega)]
        exact go2 (by omega)
      · have hr64 : r < 18446744073709551616 := by omega
        rw [if_pos (Int32.not_lt.mp (fun z => cy ((lc_neg hr64).mp z)))]
        unfold f_Book_divided_27
        have hb : A / 2 ^ n % 2 < 2 := Nat.mod_lt _ (by decide)
        rw [if_pos rfl, dv_R hA (by omega), bel_R hz (by omega) hB]
        by_cases z : 2 * r + A / 2 ^ n % 2 < B
        · rw [decide_eq_true z]
          exact go1 z
        · rw [decide_eq_false z]
          exact go2 z
theorem rf_div (h : mv_H) {A B : Nat} (hA : A < 18446744073709551616) (hB : B < 18446744073709551616) (h0 : 0 < B) : f_Book_divided h (nJ A) (nJ B) = some (nJ (A / B), h) := by
  unfold f_Book_divided
  have g : ∀ nn, 64 < nn → f_Book_divided_10 nn (nJ A) (nJ B) (nJ 0) (nJ 0) (nI 64 - 1) h = some (nJ (A / B), h) := fun nn hn => by
    have e : A / 2 ^ 64 = 0 := Nat.div_eq_of_lt (by omega)
    exact dv_lp hA hB h0 h 64 nn 0 0 (Nat.le_refl _) hn (by rw [e, Nat.zero_mod]) (by rw [e, Nat.zero_div, Nat.zero_mul])
  exact g 200000 (by decide)
/-- the two divide alike -/
theorem dv_same (h g : mv_H) (x y : Int64) (hy : ¬ y = 0) : ∃ v, f_Bits_divide h x y = some (v, h) ∧ f_Book_divided g x y = some (v, g) := by
  have a := x.toBitVec.isLt
  have b := y.toBitVec.isLt
  have h0 : 0 < y.toBitVec.toNat := Nat.pos_of_ne_zero (fun z => hy (by rw [← nJ_bv y, z]; rfl))
  have e1 := cl_div h (A := x.toBitVec.toNat) (B := y.toBitVec.toNat) (by omega) (by omega) h0
  have e2 := rf_div g (A := x.toBitVec.toNat) (B := y.toBitVec.toNat) (by omega) (by omega) h0
  rw [nJ_bv, nJ_bv] at e1 e2
  exact ⟨_, e1, e2⟩
