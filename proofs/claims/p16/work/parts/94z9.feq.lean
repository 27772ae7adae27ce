/-! field: class and reference -/
theorem mkN_e {f g : Nat → Bool} : ∀ n, (∀ i, i < n → f i = g i) → mkN f n = mkN g n := by
  intro n
  induction n with
  | zero => intro _; rfl
  | succ n ih =>
    intro h
    show 2 * mkN f n + (if f n = true then 1 else 0) = 2 * mkN g n + (if g n = true then 1 else 0)
    rw [ih (fun i hi => h i (by omega)), h n (by omega)]
theorem mkN_z {f : Nat → Bool} : ∀ n, mkN f n = 0 ↔ ∀ i, i < n → ¬ f i = true := by
  intro n
  induction n with
  | zero => exact ⟨fun _ i hi => absurd hi (Nat.not_lt_zero _), fun _ => rfl⟩
  | succ n ih =>
    show 2 * mkN f n + (if f n = true then 1 else 0) = 0 ↔ _
    by_cases z : f n = true
    · rw [if_pos z]
      exact ⟨fun e => by omega, fun e => absurd z (e n (by omega))⟩
    · rw [if_neg z]
      constructor
      · intro e i hi
        by_cases y : i = n
        · rw [y]; exact z
        · exact ih.mp (by omega) i (by omega)
      · intro e
        have := ih.mpr (fun i hi => e i (by omega))
        omega
theorem mkN_64 {f : Nat → Bool} {n : Nat} (h : n ≤ 64) : mkN f n < 18446744073709551616 := Nat.lt_of_lt_of_le (mkN_b f n) (Nat.pow_le_pow_right (by decide) h : 2 ^ n ≤ 2 ^ 64)
theorem nJ_z {x : Nat} (h : x < 18446744073709551616) : nJ x = 0 ↔ x = 0 := by
  constructor
  · intro e
    have q := nJ_n h
    rw [e] at q
    exact q.symm
  · intro e; rw [e] <;> rfl
theorem vs_eq : ∀ x, x < 256 → vp_nar .byte (nI x) = sb x := by decide +kernel
theorem bk_fd {P N : Nat} {s : SI} {σ : mv_H} {o c : Int32} {m : Int64} (hP : SPq P s σ) (hN : SRt N s σ) (hm : MKq P σ o c m) : (m = 0 ↔ ¬ (RG9 o (mv_i σ N 29).toInt ∧ HFq N σ o c)) ∧ (RG9 o (mv_i σ N 29).toInt ∧ HFq N σ o c → m.toBitVec = msk (cdF (mv_a σ (N + 13)) (mv_a σ (N + 10) o.toNatClampNeg).toNatClampNeg c) (mv_i σ N 20).toNatClampNeg (mv_i σ N 20).toNatClampNeg) := by
  obtain ⟨p1, -, -, p4, ⟨p5, -, -, p6⟩, -, -, p8⟩ := hP
  obtain ⟨b1, -, -, b4, b5, b6, -⟩ := hN
  have r1 : (mv_i σ P 10).toInt = (mv_i σ N 29).toInt := by rw [p4, b4]
  rcases hm with ⟨⟨⟨a1, a2⟩, a3⟩, a4⟩ | ⟨a1, a2⟩
  · have a := i32_cl a1
    have hk : o.toNatClampNeg < s.ops.length := by
      rw [p4, nIi (by omega)] at a2
      omega
    obtain ⟨-, c0, c1, c2, c3⟩ := b6 _ hk
    have eL : (mv_i σ P 0).toNatClampNeg = s.bits := by rw [p1, cln (by omega)]
    have eL2 : (mv_i σ N 20).toNatClampNeg = s.bits := by rw [b1, cln (by omega)]
    have eC : (mv_a σ (N + 10) o.toNatClampNeg).toNatClampNeg = c0 := by rw [c1, cln (by omega)]
    have ef : ∀ i, i < s.bits → sgF2 (mv_a σ (P + 8)) o c i = cdF (mv_a σ (N + 13)) c0 c i := fun i hi => by
      unfold sgF2 cdF
      rw [p8 _ hk i hi, (c3 i hi).1, vs_eq _ (c3 i hi).2]
    have em : m = nJ (mkN (cdF (mv_a σ (N + 13)) c0 c) s.bits) := by rw [a4, eL, mkN_e _ ef]
    have h64 := mkN_64 (f := cdF (mv_a σ (N + 13)) c0 c) p5
    have hz : m = 0 ↔ ∀ i, i < s.bits → ¬ cdF (mv_a σ (N + 13)) c0 c i = true := by rw [em, nJ_z h64, mkN_z]
    have hR : RG9 o (mv_i σ N 29).toInt := ⟨a1, by rw [← r1]; exact a2⟩
    rw [eL2, eC]
    refine ⟨⟨fun e q => ?_, fun e => ?_⟩, fun _ => ?_⟩
    · obtain ⟨-, -, i, q1, q2⟩ := q
      rw [eL2] at q1
      rw [eC] at q2
      exact hz.mp e i q1 (decide_eq_true q2)
    · refine hz.mpr (fun i hi z => e ⟨hR, a3, i, by rw [eL2]; exact hi, ?_⟩)
      rw [eC]
      exact of_decide_eq_true z
    · unfold msk
      rw [Nat.sub_self, Nat.pow_zero, Nat.mul_one, em]
      rfl
  · have hno : ¬ (RG9 o (mv_i σ N 29).toInt ∧ HFq N σ o c) := fun q => a1 ⟨⟨q.1.1, by rw [r1]; exact q.1.2⟩, q.2.1⟩
    exact ⟨⟨fun _ => hno, fun _ => a2⟩, fun q => absurd q hno⟩
/-! the shipped one -/
theorem rk_pc {m : BitVec 64} {hi lo : Nat} (h : ∀ p, m.getLsbD p = true ↔ (lo ≤ p ∧ p ≤ hi)) : ∀ p, p ≤ hi + 1 → rk m p = p - lo := by
  intro p
  induction p with
  | zero => intro _; exact (Nat.zero_sub _).symm
  | succ p ih =>
    intro hp
    show rk m p + (if m.getLsbD p = true then 1 else 0) = p + 1 - lo
    rw [ih (by omega)]
    by_cases z : lo ≤ p
    · rw [if_pos ((h p).mpr ⟨z, by omega⟩)]; omega
    · rw [if_neg (fun q => z ((h p).mp q).1)]; omega
theorem GA.pc {w m v : BitVec 64} {hi lo : Nat} (h : ∀ p, m.getLsbD p = true ↔ (lo ≤ p ∧ p ≤ hi)) (hv : ∀ j, v.getLsbD j = true ↔ (j + lo ≤ hi ∧ w.getLsbD (j + lo) = true)) : GA w m v := fun j => by
  refine (hv j).trans ⟨fun q => ?_, fun q => ?_⟩
  · refine ⟨j + lo, (h _).mpr ⟨by omega, q.1⟩, ?_, q.2⟩
    rw [rk_pc h _ (by omega)]
    omega
  · obtain ⟨p, p1, p2, p3⟩ := q
    have p4 := (h p).mp p1
    rw [rk_pc h p (by omega)] at p2
    have : j + lo = p := by omega
    rw [this]
    exact ⟨p4.2, p3⟩
theorem sh_t32 : ∀ k : Fin 32, ((nI k.val).toUInt32 &&& Int32.toUInt32 31) = UInt32.ofNat k.val := by decide +kernel
theorem mk_t32 : ∀ hi : Fin 31, ∀ lo : Fin 32, lo.val ≤ hi.val → (((1 : Int32) <<< (((nI hi.val - nI lo.val) + (1 : Int32)) &&& 31)) - (1 : Int32)).toBitVec = BitVec.ofNat 32 (2 ^ (hi.val - lo.val + 1) - 1) := by decide +kernel
theorem us32 (x : Int32) {k : Nat} (hk : k < 32) : ((x.toUInt32 >>> ((nI k).toUInt32 &&& Int32.toUInt32 31)).toInt32).toBitVec = x.toBitVec >>> k := by
  rw [sh_t32 ⟨k, hk⟩]
  show (x.toUInt32 >>> UInt32.ofNat k).toBitVec = _
  rw [UInt32.toBitVec_shiftRight]
  have e2 : (UInt32.ofNat k).toBitVec % 32 = BitVec.ofNat 32 k := by
    apply BitVec.eq_of_toNat_eq
    simp
    omega
  rw [e2]
  show x.toBitVec >>> (BitVec.ofNat 32 k) = _
  rw [BitVec.ushiftRight_eq']
  congr 1
  simp
  omega
theorem se_b {x : Int32} (h : x.toBitVec.getLsbD 31 = false) (j : Nat) : x.toInt64.toBitVec.getLsbD j = x.toBitVec.getLsbD j := by
  rw [Int32.toBitVec_toInt64, BitVec.getLsbD_signExtend]
  by_cases z : j < 32
  · rw [if_pos z, decide_eq_true (show j < 64 by omega), Bool.true_and]
  · rw [if_neg z, BitVec.msb_eq_getLsbD_last, show 32 - 1 = 31 from rfl, h, Bool.and_false]
    exact (BitVec.getLsbD_of_ge _ _ (by omega)).symm
theorem wT_32 (w : Int64) : w.toInt32.toBitVec = w.toBitVec.setWidth 32 := by
  show w.toBitVec.signExtend 32 = _
  apply BitVec.eq_of_getLsbD_eq
  intro i hi
  rw [BitVec.getLsbD_signExtend, BitVec.getLsbD_setWidth, if_pos (show i < 64 by omega)]
theorem pc_b {w : Int64} {hi lo : Nat} (h1 : 1 ≤ lo) (h2 : lo ≤ hi) (h3 : hi ≤ 31) (j : Nat) : (pcV w.toInt32 hi lo).toBitVec.getLsbD j = true ↔ (j + lo ≤ hi ∧ w.toBitVec.getLsbD (j + lo) = true) := by
  have ew : ∀ i, w.toInt32.toBitVec.getLsbD i = (decide (i < 32) && w.toBitVec.getLsbD i) := fun i => by
    rw [wT_32 w, BitVec.getLsbD_setWidth]
  have ea : ∀ i, ((w.toInt32.toUInt32 >>> ((nI lo).toUInt32 &&& Int32.toUInt32 31)).toInt32).toBitVec.getLsbD i = (decide (lo + i < 32) && w.toBitVec.getLsbD (lo + i)) := fun i => by
    rw [us32 _ (by omega), BitVec.getLsbD_ushiftRight, ew]
  unfold pcV
  by_cases z : hi = 31
  · rw [if_pos z, se_b (by rw [ea, decide_eq_false (by omega), Bool.false_and]), ea, Bool.and_eq_true, decide_eq_true_eq, Nat.add_comm lo j]
    exact ⟨fun q => ⟨by omega, q.2⟩, fun q => ⟨by omega, q.2⟩⟩
  · rw [if_neg z]
    have em : ∀ i, (((1 : Int32) <<< (((nI hi - nI lo) + (1 : Int32)) &&& 31)) - (1 : Int32)).toBitVec.getLsbD i = decide (i < hi - lo + 1) := fun i => by
      rw [mk_t32 ⟨hi, by omega⟩ ⟨lo, by omega⟩ h2, BitVec.getLsbD_ofNat, Nat.testBit_two_pow_sub_one]
      by_cases y : i < hi - lo + 1
      · rw [decide_eq_true y, decide_eq_true (show i < 32 by omega)] <;> rfl
      · rw [decide_eq_false y, Bool.and_false]
    rw [se_b (by rw [Int32.toBitVec_and, BitVec.getLsbD_and, ea, decide_eq_false (by omega), Bool.false_and, Bool.false_and]), Int32.toBitVec_and, BitVec.getLsbD_and, ea, em, Bool.and_eq_true, Bool.and_eq_true, decide_eq_true_eq, decide_eq_true_eq, Nat.add_comm lo j]
    exact ⟨fun q => ⟨by omega, q.1.2⟩, fun q => ⟨⟨by omega, q.2⟩, by omega⟩⟩
theorem pc_nn {w : Int64} {hi lo : Nat} (h1 : 1 ≤ lo) (h2 : lo ≤ hi) (h3 : hi ≤ 31) : 0 ≤ lg_cmp (pcV w.toInt32 hi lo) 0 := by
  have b : ¬ (pcV w.toInt32 hi lo).toBitVec.getLsbD 63 = true := fun q => by
    have := ((pc_b h1 h2 h3 63).mp q).1
    omega
  have hl := (pcV w.toInt32 hi lo).toBitVec.isLt
  have e : (pcV w.toInt32 hi lo).toBitVec.toNat < 9223372036854775808 := by
    have b2 : (pcV w.toInt32 hi lo).toBitVec.toNat.testBit 63 = false := Bool.eq_false_iff.mpr b
    rcases Nat.lt_or_ge (pcV w.toInt32 hi lo).toBitVec.toNat 9223372036854775808 with q | q
    · exact q
    · have t := Nat.testBit_two_pow_add_eq ((pcV w.toInt32 hi lo).toBitVec.toNat - 9223372036854775808) 63
      rw [show 2 ^ 63 + ((pcV w.toInt32 hi lo).toBitVec.toNat - 9223372036854775808) = (pcV w.toInt32 hi lo).toBitVec.toNat by omega, b2, Nat.testBit_lt_two_pow (show (pcV w.toInt32 hi lo).toBitVec.toNat - 9223372036854775808 < 2 ^ 63 by omega)] at t
      cases t
  have n : ¬ lg_cmp (pcV w.toInt32 hi lo) 0 < 0 := fun q => by
    rw [← nJ_bv (pcV w.toInt32 hi lo)] at q
    have := (lc_neg (by omega)).mp q
    omega
  exact Int32.not_lt.mp n
theorem sh_fd {σ : mv_H} {o c : Int32} {m w : Int64} (hS : SHP σ) (h10 : mv_i σ 145 10 = 48) (hm : MKq 145 σ o c m) : (m = 0 ↔ ¬ (RG9 o 48 ∧ 0 ≤ lg_cmp (shV o.toNatClampNeg c w.toInt32) 0)) ∧ (RG9 o 48 ∧ 0 ≤ lg_cmp (shV o.toNatClampNeg c w.toInt32) 0 → GA w.toBitVec m.toBitVec (shV o.toNatClampNeg c w.toInt32).toBitVec) := by
  have neg : ¬ (0 : Int32) ≤ lg_cmp (-1) 0 := by decide
  have e48 : (mv_i σ 145 10).toInt = 48 := by rw [h10] <;> rfl
  rcases hm with ⟨⟨⟨a1, a2⟩, a3⟩, a4⟩ | ⟨a1, a2⟩
  · rw [e48] at a2
    have a := i32_cl a1
    have hk : o.toNatClampNeg < 48 := by omega
    have c0 : 0 ≤ c.toInt ∧ c.toInt < 128 := by unfold LTq at a3; omega
    have ac := i32_cl c0.1
    have hc : c.toNatClampNeg < 128 := by omega
    have ec : c = nI c.toNatClampNeg := nI_o2 ac.symm
    have hl : ltB c.toNatClampNeg = true := by
      unfold ltB bt9
      unfold LTq at a3
      rcases a3 with q | q
      · rw [Nat.ble_eq_true_of_le (show 97 ≤ c.toNatClampNeg by omega), Nat.ble_eq_true_of_le (show c.toNatClampNeg ≤ 122 by omega)] <;> rfl
      · rw [Nat.ble_eq_true_of_le (show 65 ≤ c.toNatClampNeg by omega), Nat.ble_eq_true_of_le (show c.toNatClampNeg ≤ 90 by omega), Bool.and_self, Bool.or_true]
    have eL : (mv_i σ 145 0).toNatClampNeg = 32 := by rw [hS.1] <;> rfl
    have ef : ∀ i, i < 32 → (sgF2 (mv_a σ (145 + 8)) o c i = true ↔ cov o.toNatClampNeg c.toNatClampNeg (31 - i) = true) := fun i hi => by
      obtain ⟨b, b1, b2, b3⟩ := hS.2.1.2 _ hk i hi
      have e1 : sgF2 (mv_a σ (145 + 8)) o c i = true ↔ mv_a σ 153 (o.toNatClampNeg * 64 + i) = c := ⟨of_decide_eq_true, decide_eq_true⟩
      rw [e1, b2, ← lk_ok hk (by omega) hc hl]
      have e2 : nI b = c ↔ b = c.toNatClampNeg := by
        constructor
        · intro e; rw [← e, cln (by omega)]
        · intro e; rw [e]; exact ec.symm
      rw [e2]
      unfold sgO at b3
      by_cases z : ltB b = true
      · rw [z] at b3
        have b3 : lk9 o.toNatClampNeg (31 - i) = b := Nat.eq_of_beq_eq_true b3
        rw [b3]
      · rw [Bool.eq_false_iff.mpr z] at b3
        have b3 : lk9 o.toNatClampNeg (31 - i) = 0 := Nat.eq_of_beq_eq_true b3
        rw [b3]
        constructor
        · intro e; rw [e] at z; exact absurd hl z
        · intro e
          rw [← e] at hl
          exact absurd hl (by decide)
    have h64 := mkN_64 (f := sgF2 (mv_a σ (145 + 8)) o c) (n := 32) (by decide)
    have em : ∀ p, m.toBitVec.getLsbD p = true ↔ (p < 32 ∧ cov o.toNatClampNeg c.toNatClampNeg p = true) := fun p => by
      rw [a4, eL]
      show (BitVec.ofNat 64 (mkN (sgF2 (mv_a σ (145 + 8)) o c) 32)).getLsbD p = true ↔ _
      rw [BitVec.getLsbD_ofNat, mkN_t, Bool.and_eq_true, Bool.and_eq_true, decide_eq_true_eq, decide_eq_true_eq]
      constructor
      · rintro ⟨q1, q2, q3⟩
        refine ⟨q2, ?_⟩
        have := (ef (32 - 1 - p) (by omega)).mp q3
        rw [show 31 - (32 - 1 - p) = p by omega] at this
        exact this
      · rintro ⟨q1, q2⟩
        refine ⟨by omega, q1, (ef (32 - 1 - p) (by omega)).mpr ?_⟩
        rw [show 31 - (32 - 1 - p) = p by omega]
        exact q2
    have hR : RG9 o 48 := ⟨a1, a2⟩
    cases hs : shL o.toNatClampNeg c.toNatClampNeg with
    | none =>
      have hcv : ∀ p, ¬ cov o.toNatClampNeg c.toNatClampNeg p = true := fun p q => by
        unfold cov at q
        rw [hs] at q
        cases q
      have hz : m = 0 := by
        apply Int64.toBitVec_inj.mp
        apply BitVec.eq_of_getLsbD_eq
        intro i hi
        have q : ¬ m.toBitVec.getLsbD i = true := fun q => hcv i ((em i).mp q).2
        rw [Bool.eq_false_iff.mpr q]
        exact (BitVec.getLsbD_zero).symm
      have hv : shV o.toNatClampNeg c w.toInt32 = -1 := by
        unfold shV sv9
        rw [hs]
        split <;> rfl
      rw [hv]
      exact ⟨⟨fun _ q => neg q.2, fun _ => hz⟩, fun q => absurd q.2 neg⟩
    | some x =>
      obtain ⟨hi, lo⟩ := x
      obtain ⟨s1, s2, s3⟩ := shL_b hk hc hs
      have hcv : ∀ p, cov o.toNatClampNeg c.toNatClampNeg p = true ↔ (lo ≤ p ∧ p ≤ hi) := fun p => by
        unfold cov
        rw [hs]
        show (Nat.ble lo p && Nat.ble p hi) = true ↔ _
        rw [Bool.and_eq_true]
        exact ⟨fun q => ⟨Nat.le_of_ble_eq_true q.1, Nat.le_of_ble_eq_true q.2⟩, fun q => ⟨Nat.ble_eq_true_of_le q.1, Nat.ble_eq_true_of_le q.2⟩⟩
      have em2 : ∀ p, m.toBitVec.getLsbD p = true ↔ (lo ≤ p ∧ p ≤ hi) := fun p => by
        rw [em, hcv]
        exact ⟨fun q => q.2, fun q => ⟨by omega, q⟩⟩
      have hnz : ¬ m = 0 := fun e => by
        have q := (em2 lo).mpr ⟨Nat.le_refl _, s2⟩
        rw [e] at q
        have q : (0#64).getLsbD lo = true := q
        rw [BitVec.getLsbD_zero] at q
        cases q
      have hr : 97 ≤ c.toInt ∧ c.toInt ≤ 116 := by
        have q := shL_r hk hc hs
        omega
      have hv : shV o.toNatClampNeg c w.toInt32 = pcV w.toInt32 hi lo := by
        unfold shV sv9
        rw [if_pos hr, hs]
      rw [hv]
      exact ⟨⟨fun e => absurd e hnz, fun e => absurd ⟨hR, pc_nn s1 s2 s3⟩ e⟩, fun _ => GA.pc em2 (pc_b s1 s2 s3)⟩
  · have hno : ¬ (RG9 o 48 ∧ 0 ≤ lg_cmp (shV o.toNatClampNeg c w.toInt32) 0) := fun q => by
      have hL : ¬ LTq c := fun z => a1 ⟨⟨q.1.1, by rw [e48]; exact q.1.2⟩, z⟩
      have hv : shV o.toNatClampNeg c w.toInt32 = -1 := by
        unfold shV
        rw [if_neg (fun z => hL (Or.inl ⟨z.1, by omega⟩))]
      rw [hv] at q
      exact neg q.2
    exact ⟨⟨fun _ => hno, fun _ => a2⟩, fun q => absurd q hno⟩
