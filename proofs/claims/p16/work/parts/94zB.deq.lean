/-! decode: class and reference -/
def UQq (P : Nat) (σ : mv_H) : Prop := ∀ (w : Int64) (a b : Nat), (a : Int) < (mv_i σ P 10).toInt → (b : Int) < (mv_i σ P 10).toInt → MtO P σ w a → MtO P σ w b → a = b
theorem sb_e : ∀ x, x < 256 → ((sb x = 48 ↔ x = 48) ∧ (sb x = 49 ↔ x = 49)) := by decide +kernel
theorem mk_bit (f : Nat → Bool) (L p : Nat) : (nJ (mkN f L)).toBitVec.getLsbD p = (decide (p < 64) && (decide (p < L) && f (L - 1 - p))) := by
  show (BitVec.ofNat 64 (mkN f L)).getLsbD p = _
  rw [BitVec.getLsbD_ofNat, mkN_t]
theorem is_48 {c : Nat} (h : c = 48) : is01 c = true ∧ is1 c = false := by subst h; exact ⟨rfl, rfl⟩
theorem is_49 {c : Nat} (h : c = 49) : is01 c = true ∧ is1 c = true := by subst h; exact ⟨rfl, rfl⟩
theorem is_no {c : Nat} (h : ¬ c = 48) (g : ¬ c = 49) : is01 c = false ∧ is1 c = false := by
  have a : Nat.beq c 48 = false := Bool.eq_false_iff.mpr (fun q => h (Nat.eq_of_beq_eq_true q))
  have b : Nat.beq c 49 = false := Bool.eq_false_iff.mpr (fun q => g (Nat.eq_of_beq_eq_true q))
  unfold is01 is1
  rw [a, b]
  exact ⟨rfl, rfl⟩
theorem mt_bits {w : Int64} {x : Nat → Nat} {L : Nat} (hL : L ≤ 64) : w &&& nJ (mkN (fun i => is01 (x i)) L) = nJ (mkN (fun i => is1 (x i)) L) ↔ ∀ i, i < L → (x i = 48 → w.toBitVec.getLsbD (L - 1 - i) = false) ∧ (x i = 49 → w.toBitVec.getLsbD (L - 1 - i) = true) := by
  constructor
  · intro h i hi
    have e := congrArg (fun z => z.toBitVec.getLsbD (L - 1 - i)) h
    have e : (w &&& nJ (mkN (fun i => is01 (x i)) L)).toBitVec.getLsbD (L - 1 - i) = (nJ (mkN (fun i => is1 (x i)) L)).toBitVec.getLsbD (L - 1 - i) := e
    rw [Int64.toBitVec_and, BitVec.getLsbD_and, mk_bit, mk_bit, decide_eq_true (show L - 1 - i < 64 by omega), decide_eq_true (show L - 1 - i < L by omega), show L - 1 - (L - 1 - i) = i by omega, Bool.true_and, Bool.true_and, Bool.true_and, Bool.true_and] at e
    refine ⟨fun q => ?_, fun q => ?_⟩
    · rw [(is_48 q).1, (is_48 q).2, Bool.and_true] at e
      exact e
    · rw [(is_49 q).1, (is_49 q).2, Bool.and_true] at e
      exact e
  · intro h
    apply Int64.toBitVec_inj.mp
    apply BitVec.eq_of_getLsbD_eq
    intro p hp
    rw [Int64.toBitVec_and, BitVec.getLsbD_and, mk_bit, mk_bit]
    by_cases z : p < L
    · obtain ⟨h1, h2⟩ := h (L - 1 - p) (by omega)
      rw [show L - 1 - (L - 1 - p) = p by omega] at h1 h2
      rw [decide_eq_true z, decide_eq_true hp, Bool.true_and, Bool.true_and, Bool.true_and, Bool.true_and]
      by_cases q : x (L - 1 - p) = 48
      · rw [(is_48 q).1, (is_48 q).2, h1 q] <;> rfl
      · by_cases q2 : x (L - 1 - p) = 49
        · rw [(is_49 q2).1, (is_49 q2).2, h2 q2] <;> rfl
        · rw [(is_no q q2).1, (is_no q q2).2, Bool.and_false]
    · rw [decide_eq_false z, Bool.false_and, Bool.false_and, Bool.and_false, Bool.and_false]
theorem mo_x {P : Nat} {s : SI} {σ : mv_H} {w : Int64} {a : Nat} (hP : SPq P s σ) (ha : a < s.ops.length) : MtO P σ w a ↔ ∀ i, i < s.bits → ((s.ops.getD a ([], [])).2.getD i 0 = 48 → w.toBitVec.getLsbD (s.bits - 1 - i) = false) ∧ ((s.ops.getD a ([], [])).2.getD i 0 = 49 → w.toBitVec.getLsbD (s.bits - 1 - i) = true) := by
  obtain ⟨-, -, -, -, ⟨p5, -, -, -⟩, p6, -⟩ := hP
  obtain ⟨q1, q2, -⟩ := p6 a ha
  unfold MtO
  rw [q1, q2]
  exact mt_bits (x := fun i => (s.ops.getD a ([], [])).2.getD i 0) p5
theorem mo_ft {P N : Nat} {s : SI} {σ : mv_H} {w : Int64} {a : Nat} (hP : SPq P s σ) (hN : SRt N s σ) (ha : a < s.ops.length) : MtO P σ w a ↔ FTo N σ w a := by
  rw [mo_x hP ha]
  have p5 := hP.2.2.2.2.1.1
  obtain ⟨b1, -, -, b4, b5, b6, -⟩ := hN
  obtain ⟨-, c0, c1, c2, c3⟩ := b6 a ha
  have eL2 : (mv_i σ N 20).toNatClampNeg = s.bits := by rw [b1, cln (by omega)]
  have eC : (mv_a σ (N + 10) a).toNatClampNeg = c0 := by rw [c1, cln (by omega)]
  unfold FTo FT1
  rw [eL2, eC]
  constructor
  · intro h i hi
    obtain ⟨d1, d2⟩ := c3 i hi
    obtain ⟨e1, e2⟩ := sb_e _ d2
    rw [d1]
    exact ⟨fun q => (h i hi).1 (e1.mp q), fun q => (h i hi).2 (e2.mp q)⟩
  · intro h i hi
    obtain ⟨d1, d2⟩ := c3 i hi
    obtain ⟨e1, e2⟩ := sb_e _ d2
    have h := h i hi
    rw [d1] at h
    exact ⟨fun q => h.1 (e1.mpr q), fun q => h.2 (e2.mpr q)⟩
theorem map_gD (l : List (List Nat × List Nat)) (i : Nat) : (l.map Prod.snd).getD i [] = (l.getD i ([], [])).2 := by
  rw [List.getD_eq_getElem?_getD, List.getD_eq_getElem?_getD, List.getElem?_map]
  cases l[i]? <;> rfl
theorem uq_of {P : Nat} {s : SI} {σ : mv_H} (hP : SPq P s σ) (h : aptL (s.ops.map Prod.snd) = true) : UQq P σ := by
  have key : ∀ (w : Int64) (a b : Nat), a < b → b < s.ops.length → MtO P σ w a → MtO P σ w b → False := fun w a b hab hb h1 h2 => by
    have q := (aptL_q _).mp h b a hab (by rw [List.length_map]; exact hb)
    rw [map_gD, map_gD] at q
    obtain ⟨-, -, -, -, -, p6, -⟩ := id hP
    have la := (p6 a (by omega)).2.2
    have lb := (p6 b hb).2.2
    obtain ⟨k, k1, k2⟩ := (aptC_d (la.trans lb.symm)).mp q
    rw [la] at k1
    have m1 := (mo_x hP (by omega)).mp h1 k k1
    have m2 := (mo_x hP hb).mp h2 k k1
    unfold dif at k2
    rw [Bool.or_eq_true, Bool.and_eq_true, Bool.and_eq_true] at k2
    rcases k2 with ⟨x, y⟩ | ⟨x, y⟩
    · have x := m1.1 (Nat.eq_of_beq_eq_true x)
      have y := m2.2 (Nat.eq_of_beq_eq_true y)
      rw [x] at y
      cases y
    · have x := m1.2 (Nat.eq_of_beq_eq_true x)
      have y := m2.1 (Nat.eq_of_beq_eq_true y)
      rw [x] at y
      cases y
  intro w a b ha hb h1 h2
  have e : (mv_i σ P 10).toInt = s.ops.length := by rw [hP.2.2.2.1, nIi (by have := hP.2.2.2.2.1.2.2.2; omega)]
  rcases Nat.lt_trichotomy a b with q | q | q
  · exact (key w a b q (by omega) h1 h2).elim
  · exact q
  · exact (key w b a q (by omega) h2 h1).elim
theorem bk_dc {P N : Nat} {s : SI} {σ : mv_H} {w : Int64} {v v' : Int32} (hP : SPq P s σ) (hN : SRt N s σ) (hU : UQq P σ) (h : DCq P σ w v) (g : DRq N σ w v') : v = v' := by
  have e : (mv_i σ P 10).toInt = s.ops.length := by rw [hP.2.2.2.1, nIi (by have := hP.2.2.2.2.1.2.2.2; omega)]
  have e' : (mv_i σ N 29).toInt = s.ops.length := by rw [hN.2.2.2.1, nIi (by have := hN.2.2.2.2.1; omega)]
  rcases h with ⟨h1, h2⟩ | ⟨a, a1, a2, a3⟩ <;> rcases g with ⟨g1, g2⟩ | ⟨b, b1, b2, b3⟩
  · rw [h1, g1]
  · exact absurd ((mo_ft hP hN (by omega)).mpr b3) (h2 b (by omega))
  · exact absurd ((mo_ft hP hN (by omega)).mp a3) (g2 a (by omega))
  · have q := hU w a b a1 (by omega) a3 ((mo_ft hP hN (by omega)).mpr b3)
    rw [a2, b2, q]
/-! the shipped one -/
theorem an_1 (x : Nat) : x &&& 127 = x % 128 := Nat.and_two_pow_sub_one_eq_mod x 7
theorem an_s (x n lo : Nat) : x &&& ((2 ^ n - 1) <<< lo) = ((x >>> lo) % 2 ^ n) <<< lo := by
  refine Nat.eq_of_testBit_eq (fun i => ?_)
  rw [Nat.testBit_and, Nat.testBit_shiftLeft, Nat.testBit_shiftLeft, Nat.testBit_two_pow_sub_one, Nat.testBit_mod_two_pow, Nat.testBit_shiftRight]
  by_cases z : lo ≤ i
  · rw [decide_eq_true (show i ≥ lo from z), show lo + (i - lo) = i by omega, Bool.true_and, Bool.true_and, Bool.and_comm]
  · rw [decide_eq_false (show ¬ i ≥ lo from z), Bool.false_and, Bool.false_and, Bool.and_false]
theorem or_ad {a b n : Nat} (h : b < 2 ^ n) : b ||| (a <<< n) = b + a * 2 ^ n := by
  rw [Nat.or_comm, ← Nat.shiftLeft_add_eq_or_of_lt h, Nat.shiftLeft_eq, Nat.add_comm]
theorem an_2 (x : Nat) : x &&& 28799 = x % 128 + (x / 4096 % 8) * 4096 := by
  rw [show 28799 = 127 ||| ((2 ^ 3 - 1) <<< 12) by decide, Nat.and_or_distrib_left, an_1, an_s, or_ad (by omega), Nat.shiftRight_eq_div_pow]
  all_goals rfl
theorem an_3 (x : Nat) : x &&& 4261441663 = x % 128 + (x / 4096 % 8) * 4096 + (x / 33554432 % 128) * 33554432 := by
  rw [show 4261441663 = 28799 ||| ((2 ^ 7 - 1) <<< 25) by decide, Nat.and_or_distrib_left, an_2, an_s, or_ad (by omega), Nat.shiftRight_eq_div_pow]
  all_goals rfl
theorem an_4 (x : Nat) : x &&& 4294967295 = x % 4294967296 := Nat.and_two_pow_sub_one_eq_mod x 32
theorem fm_all : ((List.range 48).all fun a => Nat.ble (fmG a).1 3 && Nat.blt (fmG a).2.1 128 && Nat.blt (fmG a).2.2.1 8 && Nat.blt (fmG a).2.2.2 128 && (Nat.beq (fmG a).1 2 || Nat.beq (fmG a).2.2.2 0) && (bif Nat.beq (fmG a).1 0 then Nat.beq (fmG a).2.2.1 0 else true) && (bif Nat.beq (fmG a).1 3 then Nat.beq (fmG a).2.1 115 && (Nat.beq a 38 || Nat.beq a 39) else true)) = true := by decide +kernel
theorem w32_e {w : Int64} {c : Nat} (hc : c < 2147483648) : w.toInt32 = nI c ↔ w.toBitVec.toNat % 4294967296 = c := by
  have e : w.toInt32.toBitVec.toNat = w.toBitVec.toNat % 4294967296 := by
    rw [wT_32 w, BitVec.toNat_setWidth]
    all_goals rfl
  have e2 : (nI c).toBitVec.toNat = c := by
    show (BitVec.ofNat 32 c).toNat = c
    rw [BitVec.toNat_ofNat, Nat.mod_eq_of_lt (by omega)]
  constructor
  · intro h; rw [← e, h, e2]
  · intro h
    apply Int32.toBitVec_inj.mp
    apply BitVec.eq_of_toNat_eq
    rw [e, e2, h]
theorem mk_t2 : ∀ hi : Fin 32, ∀ lo : Fin 32, lo.val ≤ hi.val → hi.val - lo.val < 31 → (((1 : Int32) <<< (((nI hi.val - nI lo.val) + (1 : Int32)) &&& 31)) - (1 : Int32)).toBitVec = BitVec.ofNat 32 (2 ^ (hi.val - lo.val + 1) - 1) := by decide +kernel
theorem pi_v {w : Int64} {hi lo : Nat} (h2 : lo ≤ hi) (h3 : hi ≤ 31) (h4 : hi - lo < 31) : pcI w.toInt32 (nI hi) (nI lo) = nI ((w.toBitVec.toNat >>> lo) % 2 ^ (hi - lo + 1)) := by
  unfold pcI
  apply Int32.toBitVec_inj.mp
  apply BitVec.eq_of_getLsbD_eq
  intro i hi9
  have er : (nI ((w.toBitVec.toNat >>> lo) % 2 ^ (hi - lo + 1))).toBitVec.getLsbD i = (decide (i < hi - lo + 1) && w.toBitVec.getLsbD (lo + i)) := by
    show (BitVec.ofNat 32 _).getLsbD i = _
    rw [BitVec.getLsbD_ofNat, Nat.testBit_mod_two_pow, Nat.testBit_shiftRight, decide_eq_true hi9, Bool.true_and]
    all_goals rfl
  rw [er, Int32.toBitVec_and, BitVec.getLsbD_and, us32 _ (by omega), BitVec.getLsbD_ushiftRight, mk_t2 ⟨hi, by omega⟩ ⟨lo, by omega⟩ h2 h4, BitVec.getLsbD_ofNat, Nat.testBit_two_pow_sub_one, decide_eq_true hi9, Bool.true_and, wT_32 w, BitVec.getLsbD_setWidth]
  by_cases z : i < hi - lo + 1
  · rw [decide_eq_true z, decide_eq_true (show lo + i < 32 by omega)]
    simp only [Bool.true_and, Bool.and_true]
  · rw [decide_eq_false z, Bool.and_false, Bool.false_and]
theorem sv_e (w : Int64) : sOv w.toInt32 = s9O (nI (w.toBitVec.toNat / 4096 % 8)) (nI (w.toBitVec.toNat / 33554432 % 128)) (nI (w.toBitVec.toNat % 128)) w.toInt32 := by
  unfold sOv
  have a := pi_v (w := w) (hi := 14) (lo := 12) (by decide) (by decide) (by decide)
  have b := pi_v (w := w) (hi := 31) (lo := 25) (by decide) (by decide) (by decide)
  have c := pi_v (w := w) (hi := 6) (lo := 0) (by decide) (by decide) (by decide)
  rw [Nat.shiftRight_eq_div_pow] at a b
  rw [Nat.shiftRight_zero] at c
  have a : pcI w.toInt32 14 12 = nI (w.toBitVec.toNat / 4096 % 8) := a
  have b : pcI w.toInt32 31 25 = nI (w.toBitVec.toNat / 33554432 % 128) := b
  have c : pcI w.toInt32 6 0 = nI (w.toBitVec.toNat % 128) := c
  rw [a, b, c]
theorem mm_e {w : Int64} {m v : Nat} (hm : m < 18446744073709551616) (hv : v < 18446744073709551616) : w &&& nJ m = nJ v ↔ w.toBitVec.toNat &&& m = v := by
  have e : (w &&& nJ m).toBitVec.toNat = w.toBitVec.toNat &&& m := by rw [Int64.toBitVec_and, BitVec.toNat_and, nJ_n hm]
  constructor
  · intro h; rw [← e, h, nJ_n hv]
  · intro h
    apply Int64.toBitVec_inj.mp
    apply BitVec.eq_of_toNat_eq
    rw [e, nJ_n hv, h]
theorem fm_mt {w : Int64} {a : Nat} (ha : a < 48) : w &&& nJ (mA9 a) = nJ (vA9 a) ↔ fmQ9 a (w.toBitVec.toNat % 128) (w.toBitVec.toNat / 4096 % 8) (w.toBitVec.toNat / 33554432 % 128) w.toInt32 := by
  have t : (Nat.ble (fmG a).1 3 && Nat.blt (fmG a).2.1 128 && Nat.blt (fmG a).2.2.1 8 && Nat.blt (fmG a).2.2.2 128 && (Nat.beq (fmG a).1 2 || Nat.beq (fmG a).2.2.2 0) && (bif Nat.beq (fmG a).1 0 then Nat.beq (fmG a).2.2.1 0 else true) && (bif Nat.beq (fmG a).1 3 then Nat.beq (fmG a).2.1 115 && (Nat.beq a 38 || Nat.beq a 39) else true)) = true := List.all_eq_true.mp fm_all a (List.mem_range.mpr ha)
  simp only [Bool.and_eq_true] at t
  obtain ⟨⟨⟨⟨⟨⟨t1, t2⟩, t3⟩, t4⟩, t5⟩, t6⟩, t7⟩ := t
  have t1 := Nat.le_of_ble_eq_true t1
  have t2 : (fmG a).2.1 < 128 := Nat.le_of_ble_eq_true t2
  have t3 : (fmG a).2.2.1 < 8 := Nat.le_of_ble_eq_true t3
  have t4 : (fmG a).2.2.2 < 128 := Nat.le_of_ble_eq_true t4
  unfold fmQ9
  rcases (show (fmG a).1 = 0 ∨ (fmG a).1 = 1 ∨ (fmG a).1 = 2 ∨ (fmG a).1 = 3 by omega) with z | z | z | z
  · have e5 : (fmG a).2.2.2 = 0 := by
      rw [z] at t5
      exact Nat.eq_of_beq_eq_true t5
    have e6 : (fmG a).2.2.1 = 0 := by
      rw [z] at t6
      exact Nat.eq_of_beq_eq_true t6
    have em : mA9 a = 127 := by unfold mA9; rw [z] <;> rfl
    have ev : vA9 a = (fmG a).2.1 := by unfold vA9; rw [show Nat.beq (fmG a).1 3 = false by rw [z] <;> rfl, cond_false, e5, e6] <;> omega
    rw [em, ev, mm_e (by decide) (by omega), an_1, z]
    exact ⟨fun q => ⟨q, fun y => by omega, fun y => by omega, fun y => by omega⟩, fun q => q.1⟩
  · have e5 : (fmG a).2.2.2 = 0 := by
      rw [z] at t5
      exact Nat.eq_of_beq_eq_true t5
    have em : mA9 a = 28799 := by unfold mA9; rw [z] <;> rfl
    have ev : vA9 a = (fmG a).2.1 + (fmG a).2.2.1 * 4096 := by unfold vA9; rw [show Nat.beq (fmG a).1 3 = false by rw [z] <;> rfl, cond_false, e5] <;> omega
    rw [em, ev, mm_e (by decide) (by omega), an_2, z]
    exact ⟨fun q => ⟨by omega, fun _ => by omega, fun y => by omega, fun y => by omega⟩, fun q => by have y1 := q.1; have y2 := q.2.1 (by omega); omega⟩
  · have em : mA9 a = 4261441663 := by unfold mA9; rw [z] <;> rfl
    have ev : vA9 a = (fmG a).2.1 + (fmG a).2.2.1 * 4096 + (fmG a).2.2.2 * 33554432 := by unfold vA9; rw [show Nat.beq (fmG a).1 3 = false by rw [z] <;> rfl, cond_false]
    rw [em, ev, mm_e (by decide) (by omega), an_3, z]
    exact ⟨fun q => ⟨by omega, fun _ => by omega, fun _ => by omega, fun y => by omega⟩, fun q => by have y1 := q.1; have y2 := q.2.1 (by omega); have y3 := q.2.2.1 rfl; omega⟩
  · rw [z] at t7
    have t7 : (Nat.beq (fmG a).2.1 115 && (Nat.beq a 38 || Nat.beq a 39)) = true := t7
    rw [Bool.and_eq_true] at t7
    have e2 := Nat.eq_of_beq_eq_true t7.1
    have em : mA9 a = 4294967295 := by unfold mA9; rw [z] <;> rfl
    have hv : vA9 a = (if a = 38 then 115 else 1048691) := by
      unfold vA9
      rw [show Nat.beq (fmG a).1 3 = true by rw [z] <;> rfl, cond_true]
      by_cases y : a = 38
      · rw [if_pos y, y] <;> rfl
      · rw [if_neg y, Bool.eq_false_iff.mpr (fun q => y (Nat.eq_of_beq_eq_true q))] <;> rfl
    rw [em, hv, e2, z]
    by_cases y : a = 38
    · rw [if_pos y, if_pos y, mm_e (by decide) (by decide), an_4]
      have q := w32_e (w := w) (c := 115) (by decide)
      exact ⟨fun x => ⟨by omega, fun u => by omega, fun u => by omega, fun _ => q.mpr x⟩, fun x => q.mp (x.2.2.2 rfl)⟩
    · rw [if_neg y, if_neg y, mm_e (by decide) (by decide), an_4]
      have q := w32_e (w := w) (c := 1048691) (by decide)
      exact ⟨fun x => ⟨by omega, fun u => by omega, fun u => by omega, fun _ => q.mpr x⟩, fun x => q.mp (x.2.2.2 rfl)⟩
theorem sh_dc {σ : mv_H} {w : Int64} {v : Int32} (hS : X7q σ) (h10 : mv_i σ 145 10 = 48) (h : DCq 145 σ w v) : v = sOv w.toInt32 := by
  have e48 : (mv_i σ 145 10).toInt = 48 := by rw [h10] <;> rfl
  have mt : ∀ a, a < 48 → (MtO 145 σ w a ↔ fmQ9 a (w.toBitVec.toNat % 128) (w.toBitVec.toNat / 4096 % 8) (w.toBitVec.toNat / 33554432 % 128) w.toInt32) := fun a ha => by
    rw [← fm_mt ha, ← (hS a ha).1, ← (hS a ha).2]
    exact Iff.rfl
  rw [sv_e]
  rcases h with ⟨h1, h2⟩ | ⟨a, a1, a2, a3⟩
  · rcases so_2 (p := w.toBitVec.toNat % 128) (f := w.toBitVec.toNat / 4096 % 8) (g := w.toBitVec.toNat / 33554432 % 128) (w := w.toInt32) (by omega) (by omega) (by omega) with q | ⟨a, q1, q2, q3⟩
    · rw [h1, q]
    · exact absurd ((mt a q1).mpr q3) (h2 a (by omega))
  · rw [a2]
    exact (so_1 a (by omega) ((mt a (by omega)).mp a3)).symm
