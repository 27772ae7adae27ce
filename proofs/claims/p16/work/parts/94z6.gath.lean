/-! the places of a letter, gathered -/
theorem lc_z {x : Int64} (h : lg_cmp x 0 = 0) : x = 0 := by
  rw [← nJ_bv x] at h
  have e := (lc_eq2 (v := x.toBitVec.toNat) (w := 0) (by have := x.toBitVec.isLt; omega) (by decide)).mp h
  rw [← nJ_bv x, e]
  rfl
/-- how many bits of m lie below i -/
def rk (m : BitVec 64) : Nat → Nat
  | 0 => 0
  | i + 1 => rk m i + (if m.getLsbD i = true then 1 else 0)
theorem rk_le (m : BitVec 64) (i : Nat) : ∀ k, rk m i ≤ rk m (i + k) := by
  intro k
  induction k with
  | zero => exact Nat.le_refl _
  | succ k ih =>
    show rk m i ≤ rk m (i + k) + (if m.getLsbD (i + k) = true then 1 else 0)
    omega
theorem rk_b (m : BitVec 64) : ∀ i, rk m i ≤ i := by
  intro i
  induction i with
  | zero => exact Nat.le_refl _
  | succ i ih =>
    show rk m i + (if m.getLsbD i = true then 1 else 0) ≤ i + 1
    split <;> omega
theorem rk_lt {m : BitVec 64} {i j : Nat} (h : i < j) (hi : m.getLsbD i = true) : rk m i < rk m j := by
  have a : rk m (i + 1) = rk m i + 1 := by
    show rk m i + (if m.getLsbD i = true then 1 else 0) = _
    rw [if_pos hi]
  have b := rk_le m (i + 1) (j - (i + 1))
  rw [show i + 1 + (j - (i + 1)) = j by omega] at b
  omega
theorem rk_inj {m : BitVec 64} {i j : Nat} (hi : m.getLsbD i = true) (hj : m.getLsbD j = true) (h : rk m i = rk m j) : i = j := by
  rcases Nat.lt_trichotomy i j with q | q | q
  · have := rk_lt q hi; omega
  · exact q
  · have := rk_lt q hj; omega
theorem rk_ex {m : BitVec 64} {p : Nat} : ∀ b, p < rk m b → ∃ i, i < b ∧ m.getLsbD i = true ∧ rk m i = p := by
  intro b
  induction b with
  | zero => intro h; exact absurd h (Nat.not_lt_zero _)
  | succ b ih =>
    intro h
    have h : p < rk m b + (if m.getLsbD b = true then 1 else 0) := h
    by_cases z : p < rk m b
    · obtain ⟨i, h1, h2⟩ := ih z
      exact ⟨i, by omega, h2⟩
    · by_cases y : m.getLsbD b = true
      · rw [if_pos y] at h
        exact ⟨b, by omega, y, by omega⟩
      · rw [if_neg y] at h
        omega
/-- v is what w has at the places of m -/
def GA (w m v : BitVec 64) : Prop := ∀ j, v.getLsbD j = true ↔ ∃ i, m.getLsbD i = true ∧ rk m i = j ∧ w.getLsbD i = true
theorem GA.eq {w m v v' : BitVec 64} (h : GA w m v) (g : GA w m v') : v = v' := BitVec.eq_of_getLsbD_eq fun j _ => by
  have e : v.getLsbD j = true ↔ v'.getLsbD j = true := (h j).trans (g j).symm
  cases a : v.getLsbD j with
  | true => exact (e.mp a).symm
  | false =>
    cases b : v'.getLsbD j with
    | true => rw [e.mpr b] at a; cases a
    | false => rfl
/-- p places are gathered, r is left -/
def GI (w m : BitVec 64) (p : Nat) (r v : BitVec 64) : Prop := (∀ i, r.getLsbD i = true ↔ (m.getLsbD i = true ∧ p ≤ rk m i)) ∧ ∀ j, v.getLsbD j = true ↔ (j < p ∧ ∃ i, m.getLsbD i = true ∧ rk m i = j ∧ w.getLsbD i = true)
theorem GI.st (w m : BitVec 64) : GI w m 0 m 0#64 := ⟨fun i => ⟨fun h => ⟨h, Nat.zero_le _⟩, fun h => h.1⟩, fun j => ⟨fun h => (by rw [BitVec.getLsbD_zero] at h; cases h), fun h => absurd h.1 (Nat.not_lt_zero _)⟩⟩
theorem GI.z {w m r v : BitVec 64} {p : Nat} (h : GI w m p r v) (hr : r = 0#64) : GA w m v := fun j => by
  refine (h.2 j).trans ⟨fun q => q.2, fun q => ⟨?_, q⟩⟩
  obtain ⟨i, h1, h2, h3⟩ := q
  rcases Nat.lt_or_ge j p with z | z
  · exact z
  · have := (h.1 i).mpr ⟨h1, by omega⟩
    rw [hr, BitVec.getLsbD_zero] at this
    cases this
theorem GI.f {w m r v : BitVec 64} {p : Nat} (h : GI w m p r v) (hp : 64 ≤ p) : GA w m v := fun j => by
  refine (h.2 j).trans ⟨fun q => q.2, fun q => ⟨?_, q⟩⟩
  obtain ⟨i, h1, h2, h3⟩ := q
  have a := BitVec.lt_of_getLsbD h1
  have b := rk_b m i
  omega
theorem low_tw (p : Int64) (h : ¬ p = 0) : ∃ b : Nat, b < 64 ∧ p.toBitVec.getLsbD b = true ∧ (∀ j, j < b → ¬ p.toBitVec.getLsbD j = true) ∧ (p &&& -p).toBitVec = BitVec.twoPow 64 b := by
  have hne : p.toBitVec ≠ 0#64 := fun e => h (Int64.toBitVec_inj.mp e)
  obtain ⟨i, hi⟩ := bv_some hne
  obtain ⟨b, -, hb, hl⟩ := least_of (P := fun j => p.toBitVec.getLsbD j = true) i hi
  have h64 : b < 64 := BitVec.lt_of_getLsbD hb
  refine ⟨b, h64, hb, hl, ?_⟩
  rw [Int64.toBitVec_and, Int64.toBitVec_neg]
  apply BitVec.eq_of_getLsbD_eq
  intro j hj
  rw [BitVec.getLsbD_and, BitVec.getLsbD_neg, BitVec.getLsbD_twoPow]
  by_cases e1 : b = j
  · subst e1
    have e2 : ¬ ∃ k, k < b ∧ p.toBitVec.getLsbD k = true := fun ⟨k, h1, h2⟩ => hl k h1 h2
    simp [hb, hj, e2]
  · simp only [e1, decide_false, Bool.and_false]
    by_cases e2 : p.toBitVec.getLsbD j = true
    · have e3 : ∃ k, k < j ∧ p.toBitVec.getLsbD k = true := ⟨b, by
        rcases Nat.lt_or_ge b j with q | q
        · exact q
        · exact absurd e2 (hl j (by omega)), hb⟩
      simp [e2, hj, e3]
    · simp [Bool.eq_false_iff.mpr e2]
/-- the next place: its bit's value -/
theorem GI.nx {w m v : BitVec 64} {r : Int64} {p : Nat} (h : GI w m p r.toBitVec v) (hr : ¬ r = 0) (hp : p < 64) : ∃ b, b < 64 ∧ (r &&& -r).toBitVec = BitVec.twoPow 64 b ∧ (w.getLsbD b = true → GI w m (p + 1) (r ^^^ (r &&& -r)).toBitVec (v ||| BitVec.twoPow 64 p)) ∧ (¬ w.getLsbD b = true → GI w m (p + 1) (r ^^^ (r &&& -r)).toBitVec v) := by
  obtain ⟨b, h64, hb, hl, e⟩ := low_tw r hr
  obtain ⟨mb, pb⟩ := (h.1 b).mp hb
  have hk : rk m b = p := by
    rcases Nat.lt_or_ge p (rk m b) with z | z
    · obtain ⟨i, i1, i2, i3⟩ := rk_ex b z
      exact absurd ((h.1 i).mpr ⟨i2, by omega⟩) (hl i i1)
    · omega
  have hR : ∀ i, (r ^^^ (r &&& -r)).toBitVec.getLsbD i = true ↔ (m.getLsbD i = true ∧ p + 1 ≤ rk m i) := fun i => by
    rw [Int64.toBitVec_xor, e, BitVec.getLsbD_xor, BitVec.getLsbD_twoPow]
    by_cases z : b = i
    · subst z
      constructor
      · intro q
        rw [hb] at q
        simp [h64] at q
      · intro q
        have := q.2
        omega
    · have e0 : (decide (b < 64) && decide (b = i)) = false := by simp [z]
      rw [e0, Bool.xor_false]
      refine (h.1 i).trans ⟨fun q => ⟨q.1, ?_⟩, fun q => ⟨q.1, by omega⟩⟩
      rcases Nat.lt_or_ge p (rk m i) with y | y
      · exact y
      · exact absurd (rk_inj mb q.1 (by omega)) z
  refine ⟨b, h64, e, fun wb => ⟨hR, fun j => ?_⟩, fun wb => ⟨hR, fun j => ?_⟩⟩
  · rw [BitVec.getLsbD_or, BitVec.getLsbD_twoPow, Bool.or_eq_true, h.2 j]
    constructor
    · rintro (q | q)
      · exact ⟨by omega, q.2⟩
      · have q : p = j := by simp at q; omega
        subst q
        exact ⟨by omega, b, mb, hk, wb⟩
    · intro q
      obtain ⟨q1, i, i1, i2, i3⟩ := q
      rcases Nat.lt_or_ge j p with y | y
      · exact Or.inl ⟨y, i, i1, i2, i3⟩
      · refine Or.inr ?_
        have : j = p := by omega
        subst this
        simp [hp]
  · rw [h.2 j]
    constructor
    · intro q
      exact ⟨by omega, q.2⟩
    · intro q
      obtain ⟨q1, i, i1, i2, i3⟩ := q
      refine ⟨?_, i, i1, i2, i3⟩
      rcases Nat.lt_or_ge j p with y | y
      · exact y
      · have : i = b := rk_inj i1 mb (by omega)
        subst this
        exact absurd i3 wb
theorem tw_and {w l : Int64} {b : Nat} (h : l.toBitVec = BitVec.twoPow 64 b) (hb : b < 64) : lg_cmp (w &&& l) 0 = 0 ↔ ¬ w.toBitVec.getLsbD b = true := by
  have e : (w &&& l).toBitVec = if w.toBitVec.getLsbD b = true then BitVec.twoPow 64 b else 0#64 := by
    rw [Int64.toBitVec_and, h, BitVec.and_twoPow]
  constructor
  · intro q z
    have q := lc_z q
    rw [q, if_pos z] at e
    have e2 := congrArg (fun x => BitVec.getLsbD x b) e
    simp [hb] at e2
  · intro q
    rw [if_neg q] at e
    have e3 : w &&& l = 0 := Int64.toBitVec_inj.mp e
    rw [e3]
    decide
theorem tw_sh : ∀ k : Fin 64, ((1 : Int64) <<< ((Int32.ofNat k.val).toInt64 &&& 63)).toBitVec = BitVec.twoPow 64 k.val := by decide +kernel
theorem tw_p {p : Int32} (h0 : 0 ≤ p.toInt) (h1 : p.toInt < 64) : ((1 : Int64) <<< (p.toInt64 &&& 63)).toBitVec = BitVec.twoPow 64 p.toNatClampNeg := by
  have a := i32_cl h0
  have e : p = Int32.ofNat p.toNatClampNeg := nI_o2 a.symm
  have t := tw_sh ⟨p.toNatClampNeg, by omega⟩
  rw [← e] at t
  exact t

set_option maxHeartbeats 4000000 in
set_option maxRecDepth 100000 in
theorem c_kf_Bits_gather (l : Launch) {dA : FieldType → ClassId} {D : va_G} {al : Nat → Nat} {ext : mv_Sh} {sk sv : Nat → Nat} (hi : mv_inj (mg dA D al ext)) (σ : mv_H) (x y : Int64) : mv_C l y_Bits_gather (Cond.code y_Bits_gather b_Bits_gather 11 (Option.some Jvm.ClassFile.FieldType.long) :: ma) ({ frames := 0, cells := 0, slots := 0, locals := 0 }) (mg dA D al ext) (mK sk sv) [.long x, .long y] σ (mv_Rl (fun v σ1 => σ1 = σ ∧ GA x.toBitVec y.toBitVec v.toBitVec)) := by
  refine mv_C.ofV (cc := b_Bits_gather) (nL := 11) (ret := (Option.some Jvm.ClassFile.FieldType.long)) (by decide +kernel) rfl hi (Nat.le_of_ble_eq_true rfl) ?_
  intro p e s m below meth c B hNs hr hnm hno
  have lp : ∀ (nn : Nat) (p9 : Int32) (r9 : Int64) (v9 : Int64) (q0 : 0 ≤ p9.toInt) (q1 : p9.toInt ≤ 64) (hG : GI x.toBitVec y.toBitVec p9.toNatClampNeg r9.toBitVec v9.toBitVec), (64 - p9.toInt).toNat < nn → mv_V p l e ({ frames := 0, cells := 0, slots := 0, locals := 0 }) s m ([.long x, .long y] : List Value).toArray below meth c (mg dA D al ext) 11 0 0 (mv_Q (mg dA D al ext) below s 0 0 (mv_Rl (fun v σ1 => σ1 = σ ∧ GA x.toBitVec y.toBitVec v.toBitVec))) σ 9 [(8, .int p9), (6, .long r9), (4, .long v9), (0, .long x), (2, .long y)] [] := by
    intro nn
    induction nn with
    | zero => intro p9 r9 v9 q0 q1 hG hm; exact absurd hm (Nat.not_lt_zero _)
    | succ nn ih =>
      intro p9 r9 v9 q0 q1 hG hm
      refine mv_iload (pc := 9) B d_Bits_gather_9 0 rfl ?_
      refine mv_bipush (pc := 11) (v := 64) B d_Bits_gather_11 (by decide) ?_
      refine mv_icmp_ge (pc := 13) (tgt := 62) B d_Bits_gather_13 rfl (fun h13 => ?_) (fun h13 => ?_)
      · skip
        have h13 : 64 ≤ p9.toInt := Int32.le_iff_toInt_le.mp h13
        refine mv_lload (pc := 62) B d_Bits_gather_62 2 rfl ?_
        exact mv_lret (pc := 64) B hr d_Bits_gather_64 (Nat.le_refl _) (Nat.le_refl _) ⟨_, rfl, rfl, by first | exact hG.f (by have := i32_cl q0; omega) | exact hG.z (by rw [lc_z h20]; rfl)⟩
      · skip
        have h13 : ¬ 64 ≤ p9.toInt := fun z => h13 (Int32.le_iff_toInt_le.mpr z)
        have hcl := i32_cl q0
        have w2 : (p9 + 1).toInt = p9.toInt + 1 := i32_inc (by omega)
        have hci := cl_inc q0 (show p9.toInt < 2147483647 by omega)
        refine mv_lload (pc := 16) B d_Bits_gather_16 1 rfl ?_
        refine mv_lconst (pc := 18) (v := 0) B d_Bits_gather_18 (by decide) ?_
        refine mv_lcmp (pc := 19) B d_Bits_gather_19 ?_
        refine mv_if_eq (pc := 20) (tgt := 62) B d_Bits_gather_20 rfl (fun h20 => ?_) (fun h20 => ?_)
        · skip
          refine mv_lload (pc := 62) B d_Bits_gather_62 2 rfl ?_
          exact mv_lret (pc := 64) B hr d_Bits_gather_64 (Nat.le_refl _) (Nat.le_refl _) ⟨_, rfl, rfl, by first | exact hG.f (by have := i32_cl q0; omega) | exact hG.z (by rw [lc_z h20]; rfl)⟩
        · skip
          have hrz : ¬ r9 = 0 := lc_ne h20
          obtain ⟨b9, hb64, hb9, hb1, hb0⟩ := hG.nx hrz (by omega)
          refine mv_lload (pc := 23) B d_Bits_gather_23 1 rfl ?_
          refine mv_lload (pc := 25) B d_Bits_gather_25 1 rfl ?_
          refine mv_lneg (pc := 27) B d_Bits_gather_27 ?_
          refine mv_land (pc := 28) B d_Bits_gather_28 ?_
          refine mv_lstore (pc := 29) B d_Bits_gather_29 (by decide) rfl ?_
          refine mv_lload_n (pc := 31) B d_Bits_gather_31 rfl 4 rfl ?_
          refine mv_lload (pc := 32) B d_Bits_gather_32 0 rfl ?_
          refine mv_land (pc := 34) B d_Bits_gather_34 ?_
          refine mv_lconst (pc := 35) (v := 0) B d_Bits_gather_35 (by decide) ?_
          refine mv_lcmp (pc := 36) B d_Bits_gather_36 ?_
          refine mv_if_eq (pc := 37) (tgt := 49) B d_Bits_gather_37 rfl (fun h37 => ?_) (fun h37 => ?_)
          · skip
            have hG2 := hb0 ((tw_and hb9 hb64).mp h37)
            refine mv_lload (pc := 49) B d_Bits_gather_49 2 rfl ?_
            refine mv_lload (pc := 51) B d_Bits_gather_51 0 rfl ?_
            refine mv_lxor (pc := 53) B d_Bits_gather_53 ?_
            refine mv_lstore (pc := 54) B d_Bits_gather_54 (by decide) rfl ?_
            refine mv_iinc (pc := 56) (j := 2) (v := 1) B d_Bits_gather_56 rfl (by decide) (by decide) rfl ?_
            refine mv_goto (pc := 59) (tgt := 9) B d_Bits_gather_59 rfl ?_
            refine mv_lpick [0, 1, 3, 4, 5] rfl ?_
            exact ih _ _ _ (by omega) (by omega) (by rw [hci]; first | exact hG2 | (rw [Int64.toBitVec_or, tw_p q0 (by omega)]; exact hG2)) (by omega)
          · skip
            have hG2 := hb1 (Classical.byContradiction (fun z => h37 ((tw_and hb9 hb64).mpr z)))
            refine mv_lload (pc := 40) B d_Bits_gather_40 3 rfl ?_
            refine mv_lconst (pc := 42) (v := 1) B d_Bits_gather_42 (by decide) ?_
            refine mv_iload (pc := 43) B d_Bits_gather_43 1 rfl ?_
            refine mv_lshl (pc := 45) B d_Bits_gather_45 ?_
            refine mv_lor (pc := 46) B d_Bits_gather_46 ?_
            refine mv_lstore (pc := 47) B d_Bits_gather_47 (by decide) rfl ?_
            refine mv_lload (pc := 49) B d_Bits_gather_49 3 rfl ?_
            refine mv_lload (pc := 51) B d_Bits_gather_51 1 rfl ?_
            refine mv_lxor (pc := 53) B d_Bits_gather_53 ?_
            refine mv_lstore (pc := 54) B d_Bits_gather_54 (by decide) rfl ?_
            refine mv_iinc (pc := 56) (j := 3) (v := 1) B d_Bits_gather_56 rfl (by decide) (by decide) rfl ?_
            refine mv_goto (pc := 59) (tgt := 9) B d_Bits_gather_59 rfl ?_
            refine mv_lpick [0, 1, 2, 4, 5] rfl ?_
            exact ih _ _ _ (by omega) (by omega) (by rw [hci]; first | exact hG2 | (rw [Int64.toBitVec_or, tw_p q0 (by omega)]; exact hG2)) (by omega)
  refine mv_lconst (pc := 0) (v := 0) B d_Bits_gather_0 (by decide) ?_
  refine mv_lstore (pc := 1) B d_Bits_gather_1 (by decide) rfl ?_
  refine mv_lload_n (pc := 3) B d_Bits_gather_3 rfl 2 rfl ?_
  refine mv_lstore (pc := 4) B d_Bits_gather_4 (by decide) rfl ?_
  refine mv_iconst (pc := 6) (v := 0) B d_Bits_gather_6 (by decide) ?_
  refine mv_istore (pc := 7) B d_Bits_gather_7 (by decide) rfl ?_
  refine mv_lpick [0, 1, 2, 3, 4] rfl ?_
  exact lp _ _ _ _ (by decide) (by decide) (GI.st _ _) (Nat.lt_succ_self _)
/-- a letter -/
def LTq (c : Int32) : Prop := (97 ≤ c.toInt ∧ c.toInt ≤ 122) ∨ (65 ≤ c.toInt ∧ c.toInt ≤ 90)
/-- where op o has the sign c -/
def sgF2 (r : Nat → Int32) (o c : Int32) (i : Nat) : Bool := decide (r (o.toNatClampNeg * 64 + i) = c)
theorem sgn_at {r : Nat → Int32} {o c j y x : Int32} (h0 : 0 ≤ j.toInt) (ho : 0 ≤ o.toInt) (fx : x.toInt = o.toInt * 64) (fy : y.toInt = x.toInt + j.toInt) : r y.toNatClampNeg = r (o.toNatClampNeg * 64 + j.toNatClampNeg) := by
  have a := i32_cl h0
  have b := i32_cl ho
  have d := i32_cl (x := y) (by omega)
  rw [show y.toNatClampNeg = o.toNatClampNeg * 64 + j.toNatClampNeg by omega]
theorem sgn_1 {r : Nat → Int32} {o c j y x : Int32} {m : Int64} (h0 : 0 ≤ j.toInt) (h1 : j.toInt < 64) (ho : 0 ≤ o.toInt) (fx : x.toInt = o.toInt * 64) (fy : y.toInt = x.toInt + j.toInt) (h : r y.toNatClampNeg = c) (hm : m = nJ (mkN (sgF2 r o c) j.toNatClampNeg)) : (m <<< (((1 : Int32)).toInt64 &&& 63)) ||| (1 : Int32).toInt64 = nJ (mkN (sgF2 r o c) (j + 1).toNatClampNeg) := by
  have a := i32_cl h0
  have hb := mkN_b (sgF2 r o c) j.toNatClampNeg
  have hp : 2 ^ j.toNatClampNeg ≤ 2 ^ 63 := Nat.pow_le_pow_right (by decide) (by omega)
  have e63 : (2 : Nat) ^ 63 = 9223372036854775808 := by decide
  rw [sgn_at (r := r) (c := c) h0 ho fx fy] at h
  rw [cl_inc h0 (by omega), hm]
  have e := bitJ (m := mkN (sgF2 r o c) j.toNatClampNeg) (b := 1) (by omega) (by decide)
  refine Eq.trans e ?_
  show _ = nJ (2 * mkN (sgF2 r o c) j.toNatClampNeg + (if sgF2 r o c j.toNatClampNeg = true then 1 else 0))
  rw [if_pos (by unfold sgF2; rw [decide_eq_true_eq]; exact h)]
theorem sgn_0 {r : Nat → Int32} {o c j y x : Int32} {m : Int64} (h0 : 0 ≤ j.toInt) (h1 : j.toInt < 64) (ho : 0 ≤ o.toInt) (fx : x.toInt = o.toInt * 64) (fy : y.toInt = x.toInt + j.toInt) (h : ¬ r y.toNatClampNeg = c) (hm : m = nJ (mkN (sgF2 r o c) j.toNatClampNeg)) : (m <<< (((1 : Int32)).toInt64 &&& 63)) ||| (0 : Int32).toInt64 = nJ (mkN (sgF2 r o c) (j + 1).toNatClampNeg) := by
  have a := i32_cl h0
  have hb := mkN_b (sgF2 r o c) j.toNatClampNeg
  have hp : 2 ^ j.toNatClampNeg ≤ 2 ^ 63 := Nat.pow_le_pow_right (by decide) (by omega)
  have e63 : (2 : Nat) ^ 63 = 9223372036854775808 := by decide
  rw [sgn_at (r := r) (c := c) h0 ho fx fy] at h
  rw [cl_inc h0 (by omega), hm]
  have e := bitJ (m := mkN (sgF2 r o c) j.toNatClampNeg) (b := 0) (by omega) (by decide)
  refine Eq.trans e ?_
  show _ = nJ (2 * mkN (sgF2 r o c) j.toNatClampNeg + (if sgF2 r o c j.toNatClampNeg = true then 1 else 0))
  rw [if_neg (by unfold sgF2; rw [decide_eq_true_eq]; exact h)]

set_option maxHeartbeats 4000000 in
set_option maxRecDepth 100000 in
theorem c_kf_Program_maskOf_a (l : Launch) {dA : FieldType → ClassId} {D : va_G} {al : Nat → Nat} {ext : mv_Sh} {sk sv : Nat → Nat} (hi : mv_inj (mg dA D al ext)) (σ : mv_H) (o9 c9 : Int32) (hq : Ph 32 (mv_r σ)) (g0 : 0 ≤ (mv_i σ 32 0).toInt) (g1 : (mv_i σ 32 0).toInt ≤ 64) (g3 : (mv_i σ 32 10).toInt ≤ 512) : mv_C l y_Program_maskOf (Cond.code y_Program_maskOf b_Program_maskOf 7 (Option.some Jvm.ClassFile.FieldType.long) :: ma) ({ frames := 0, cells := 0, slots := 0, locals := 0 }) (mg dA D al ext) (mK sk sv) [.ref (al 32), .int o9, .int c9] σ (mv_Rl (fun v σ1 => σ1 = σ ∧ ((((0 ≤ o9.toInt ∧ o9.toInt < (mv_i σ 32 10).toInt) ∧ LTq c9) ∧ v = nJ (mkN (sgF2 (mv_a σ 40) o9 c9) (mv_i σ 32 0).toNatClampNeg)) ∨ (¬ ((0 ≤ o9.toInt ∧ o9.toInt < (mv_i σ 32 10).toInt) ∧ LTq c9) ∧ v = 0)))) := by
  refine mv_C.ofV (cc := b_Program_maskOf) (nL := 7) (ret := (Option.some Jvm.ClassFile.FieldType.long)) (by decide +kernel) rfl hi (Nat.le_of_ble_eq_true rfl) ?_
  intro p e s m below meth c B hNs hr hnm hno
  have lp : ∀ (nn : Nat) (j : Int32) (m9 : Int64) (q0 : 0 ≤ j.toInt) (q1 : j.toInt ≤ (mv_i σ 32 0).toInt) (k0 : 0 ≤ o9.toInt) (k1 : o9.toInt < (mv_i σ 32 10).toInt) (kL : LTq c9) (hw : m9 = nJ (mkN (sgF2 (mv_a σ 40) o9 c9) j.toNatClampNeg)), (64 - j.toInt).toNat < nn → mv_V p l e ({ frames := 0, cells := 0, slots := 0, locals := 0 }) s m ([.ref (al 32), .int o9, .int c9] : List Value).toArray below meth c (mg dA D al ext) 7 0 0 (mv_Q (mg dA D al ext) below s 0 0 (mv_Rl (fun v σ1 => σ1 = σ ∧ ((((0 ≤ o9.toInt ∧ o9.toInt < (mv_i σ 32 10).toInt) ∧ LTq c9) ∧ v = nJ (mkN (sgF2 (mv_a σ 40) o9 c9) (mv_i σ 32 0).toNatClampNeg)) ∨ (¬ ((0 ≤ o9.toInt ∧ o9.toInt < (mv_i σ 32 10).toInt) ∧ LTq c9) ∧ v = 0))))) σ 54 [(6, .int j), (4, .long m9), (0, .ref (al 32)), (1, .int o9), (2, .int c9)] [] := by
    intro nn
    induction nn with
    | zero => intro j m9 q0 q1 k0 k1 kL hw hm; exact absurd hm (Nat.not_lt_zero _)
    | succ nn ih =>
      intro j m9 q0 q1 k0 k1 kL hw hm
      refine mv_iload (pc := 54) B d_Program_maskOf_54 0 rfl ?_
      refine mv_aload_n (pc := 56) B d_Program_maskOf_56 rfl 2 rfl ?_
      refine mv_getI (pc := 57) (ci := 7) (C := R_Program) (T := F_Program) (N := 19) B 0 rfl rfl (by decide) i_Program (B.2.2.2.1 _ k_311) rfl d_Program_maskOf_57 ?_
      refine mv_icmp_ge (pc := 60) (tgt := 98) B d_Program_maskOf_60 rfl (fun h60 => ?_) (fun h60 => ?_)
      · skip
        rw [Int32.le_iff_toInt_le] at h60
        refine mv_lload (pc := 98) B d_Program_maskOf_98 1 rfl ?_
        exact mv_lret (pc := 100) B hr d_Program_maskOf_100 (Nat.le_refl _) (Nat.le_refl _) ⟨_, rfl, rfl, Or.inl ⟨⟨⟨k0, k1⟩, kL⟩, by rw [← cl_eq q1 h60]; exact hw⟩⟩
      · skip
        rw [Int32.le_iff_toInt_le] at h60
        have w2 : (j + 1).toInt = j.toInt + 1 := i32_inc (by omega)
        refine mv_lload (pc := 63) B d_Program_maskOf_63 1 rfl ?_
        refine mv_iconst (pc := 65) (v := 1) B d_Program_maskOf_65 (by decide) ?_
        refine mv_lshl (pc := 66) B d_Program_maskOf_66 ?_
        refine mv_aload_n (pc := 67) B d_Program_maskOf_67 rfl 2 rfl ?_
        refine mv_getR (pc := 68) (ci := 7) (C := R_Program) (T := F_Program) (N := 19) B 14 rfl rfl (by decide) i_Program (B.2.2.2.1 _ k_356) rfl (hq _ 14 40 rfl) d_Program_maskOf_68 ?_
        refine mv_iload_n (pc := 71) B d_Program_maskOf_71 rfl 3 rfl ?_
        refine mv_bipush (pc := 72) (v := 64) B d_Program_maskOf_72 (by decide) ?_
        refine mv_imul (pc := 74) B d_Program_maskOf_74 ?_
        refine mv_topi (fun y74 ey74 => ?_)
        have fy74 := i32_mulE ey74 (by (try simp only [Int32.reduceToInt]); omega) (by (try simp only [Int32.reduceToInt]); omega)
        try simp only [Int32.reduceToInt] at fy74
        refine mv_iload (pc := 75) B d_Program_maskOf_75 0 rfl ?_
        refine mv_iadd (pc := 77) B d_Program_maskOf_77 ?_
        refine mv_topi (fun y77 ey77 => ?_)
        have fy77 := i32_addE ey77 (by (try simp only [Int32.reduceToInt]); omega) (by (try simp only [Int32.reduceToInt]); omega)
        try simp only [Int32.reduceToInt] at fy77
        refine mv_bald (pc := 78) B rfl (i32_in (by omega) (by omega)) d_Program_maskOf_78 ?_
        refine mv_iload_n (pc := 79) B d_Program_maskOf_79 rfl 4 rfl ?_
        refine mv_icmp_ne (pc := 80) (tgt := 87) B d_Program_maskOf_80 rfl (fun h80 => ?_) (fun h80 => ?_)
        · skip
          refine mv_iconst (pc := 87) (v := 0) B d_Program_maskOf_87 (by decide) ?_
          refine mv_i2l (pc := 88) B d_Program_maskOf_88 ?_
          refine mv_lor (pc := 89) B d_Program_maskOf_89 ?_
          refine mv_lstore (pc := 90) B d_Program_maskOf_90 (by decide) rfl ?_
          refine mv_iinc (pc := 92) (j := 1) (v := 1) B d_Program_maskOf_92 rfl (by decide) (by decide) rfl ?_
          refine mv_goto (pc := 95) (tgt := 54) B d_Program_maskOf_95 rfl ?_
          refine mv_lpick [0, 1, 2, 3, 4] rfl ?_
          exact ih _ _ (by omega) (by omega) k0 k1 kL (by first | exact sgn_1 q0 (by omega) k0 fy74 fy77 h80 hw | exact sgn_0 q0 (by omega) k0 fy74 fy77 h80 hw) (by omega)
        · skip
          refine mv_iconst (pc := 83) (v := 1) B d_Program_maskOf_83 (by decide) ?_
          refine mv_goto (pc := 84) (tgt := 88) B d_Program_maskOf_84 rfl ?_
          refine mv_i2l (pc := 88) B d_Program_maskOf_88 ?_
          refine mv_lor (pc := 89) B d_Program_maskOf_89 ?_
          refine mv_lstore (pc := 90) B d_Program_maskOf_90 (by decide) rfl ?_
          refine mv_iinc (pc := 92) (j := 1) (v := 1) B d_Program_maskOf_92 rfl (by decide) (by decide) rfl ?_
          refine mv_goto (pc := 95) (tgt := 54) B d_Program_maskOf_95 rfl ?_
          refine mv_lpick [0, 1, 2, 3, 4] rfl ?_
          exact ih _ _ (by omega) (by omega) k0 k1 kL (by first | exact sgn_1 q0 (by omega) k0 fy74 fy77 h80 hw | exact sgn_0 q0 (by omega) k0 fy74 fy77 h80 hw) (by omega)
  have j29 : ∀ (z9 : Int32) (hz : (z9 = 1 ∧ LTq c9) ∨ (z9 = 0 ∧ ¬ LTq c9)), mv_V p l e ({ frames := 0, cells := 0, slots := 0, locals := 0 }) s m ([.ref (al 32), .int o9, .int c9] : List Value).toArray below meth c (mg dA D al ext) 7 0 0 (mv_Q (mg dA D al ext) below s 0 0 (mv_Rl (fun v σ1 => σ1 = σ ∧ ((((0 ≤ o9.toInt ∧ o9.toInt < (mv_i σ 32 10).toInt) ∧ LTq c9) ∧ v = nJ (mkN (sgF2 (mv_a σ 40) o9 c9) (mv_i σ 32 0).toNatClampNeg)) ∨ (¬ ((0 ≤ o9.toInt ∧ o9.toInt < (mv_i σ 32 10).toInt) ∧ LTq c9) ∧ v = 0))))) σ 29 [(0, .ref (al 32)), (1, .int o9), (2, .int c9)] [.int z9] := by
    intro z9 hz
    refine mv_istore_n (pc := 29) B d_Program_maskOf_29 rfl (by decide) rfl ?_
    refine mv_iload_n (pc := 30) B d_Program_maskOf_30 rfl 2 rfl ?_
    refine mv_if_lt (pc := 31) (tgt := 46) B d_Program_maskOf_31 rfl (fun h31 => ?_) (fun h31 => ?_)
    · skip
      have h31 : o9.toInt < 0 := Int32.lt_iff_toInt_lt.mp h31
      refine mv_lconst (pc := 46) (v := 0) B d_Program_maskOf_46 (by decide) ?_
      exact mv_lret (pc := 47) B hr d_Program_maskOf_47 (Nat.le_refl _) (Nat.le_refl _) ⟨_, rfl, rfl, Or.inr ⟨fun q => by first | exact absurd q.1.1 (by omega) | exact absurd q.1.2 (by omega) | exact (hz.resolve_left (fun z => by rw [h43] at z; exact absurd z.1 (by decide))).2 q.2, rfl⟩⟩
    · skip
      have h31 : ¬ o9.toInt < 0 := fun z => h31 (Int32.lt_iff_toInt_lt.mpr z)
      refine mv_iload_n (pc := 34) B d_Program_maskOf_34 rfl 2 rfl ?_
      refine mv_aload_n (pc := 35) B d_Program_maskOf_35 rfl 1 rfl ?_
      refine mv_getI (pc := 36) (ci := 7) (C := R_Program) (T := F_Program) (N := 19) B 10 rfl rfl (by decide) i_Program (B.2.2.2.1 _ k_345) rfl d_Program_maskOf_36 ?_
      refine mv_icmp_ge (pc := 39) (tgt := 46) B d_Program_maskOf_39 rfl (fun h39 => ?_) (fun h39 => ?_)
      · skip
        rw [Int32.le_iff_toInt_le] at h39
        refine mv_lconst (pc := 46) (v := 0) B d_Program_maskOf_46 (by decide) ?_
        exact mv_lret (pc := 47) B hr d_Program_maskOf_47 (Nat.le_refl _) (Nat.le_refl _) ⟨_, rfl, rfl, Or.inr ⟨fun q => by first | exact absurd q.1.1 (by omega) | exact absurd q.1.2 (by omega) | exact (hz.resolve_left (fun z => by rw [h43] at z; exact absurd z.1 (by decide))).2 q.2, rfl⟩⟩
      · skip
        rw [Int32.le_iff_toInt_le] at h39
        refine mv_iload_n (pc := 42) B d_Program_maskOf_42 rfl 0 rfl ?_
        refine mv_if_ne (pc := 43) (tgt := 48) B d_Program_maskOf_43 rfl (fun h43 => ?_) (fun h43 => ?_)
        · skip
          refine mv_lconst (pc := 48) (v := 0) B d_Program_maskOf_48 (by decide) ?_
          refine mv_lstore (pc := 49) B d_Program_maskOf_49 (by decide) rfl ?_
          refine mv_iconst (pc := 51) (v := 0) B d_Program_maskOf_51 (by decide) ?_
          refine mv_istore (pc := 52) B d_Program_maskOf_52 (by decide) rfl ?_
          refine mv_lpick [0, 1, 3, 4, 5] rfl ?_
          exact lp _ _ _ (by decide) g0 (by omega) (by omega) (hz.resolve_right (fun z => h43 z.1)).2 rfl (Nat.lt_succ_self _)
        · skip
          refine mv_lconst (pc := 46) (v := 0) B d_Program_maskOf_46 (by decide) ?_
          exact mv_lret (pc := 47) B hr d_Program_maskOf_47 (Nat.le_refl _) (Nat.le_refl _) ⟨_, rfl, rfl, Or.inr ⟨fun q => by first | exact absurd q.1.1 (by omega) | exact absurd q.1.2 (by omega) | exact (hz.resolve_left (fun z => by rw [h43] at z; exact absurd z.1 (by decide))).2 q.2, rfl⟩⟩
  refine mv_iload_n (pc := 0) B d_Program_maskOf_0 rfl 2 rfl ?_
  refine mv_bipush (pc := 1) (v := 97) B d_Program_maskOf_1 (by decide) ?_
  refine mv_icmp_lt (pc := 3) (tgt := 12) B d_Program_maskOf_3 rfl (fun h3 => ?_) (fun h3 => ?_)
  · skip
    have h3 : c9.toInt < 97 := Int32.lt_iff_toInt_lt.mp h3
    refine mv_iload_n (pc := 12) B d_Program_maskOf_12 rfl 2 rfl ?_
    refine mv_bipush (pc := 13) (v := 65) B d_Program_maskOf_13 (by decide) ?_
    refine mv_icmp_lt (pc := 15) (tgt := 28) B d_Program_maskOf_15 rfl (fun h15 => ?_) (fun h15 => ?_)
    · skip
      have h15 : c9.toInt < 65 := Int32.lt_iff_toInt_lt.mp h15
      refine mv_iconst (pc := 28) (v := 0) B d_Program_maskOf_28 (by decide) ?_
      refine mv_lpick [0, 1, 2] rfl ?_
      exact j29 _ (by first | exact Or.inl ⟨rfl, by unfold LTq; omega⟩ | exact Or.inr ⟨rfl, by unfold LTq; omega⟩)
    · skip
      have h15 : ¬ c9.toInt < 65 := fun z => h15 (Int32.lt_iff_toInt_lt.mpr z)
      refine mv_iload_n (pc := 18) B d_Program_maskOf_18 rfl 2 rfl ?_
      refine mv_bipush (pc := 19) (v := 90) B d_Program_maskOf_19 (by decide) ?_
      refine mv_icmp_gt (pc := 21) (tgt := 28) B d_Program_maskOf_21 rfl (fun h21 => ?_) (fun h21 => ?_)
      · skip
        have h21 : 90 < c9.toInt := Int32.lt_iff_toInt_lt.mp h21
        refine mv_iconst (pc := 28) (v := 0) B d_Program_maskOf_28 (by decide) ?_
        refine mv_lpick [0, 1, 2] rfl ?_
        exact j29 _ (by first | exact Or.inl ⟨rfl, by unfold LTq; omega⟩ | exact Or.inr ⟨rfl, by unfold LTq; omega⟩)
      · skip
        have h21 : ¬ 90 < c9.toInt := fun z => h21 (Int32.lt_iff_toInt_lt.mpr z)
        refine mv_iconst (pc := 24) (v := 1) B d_Program_maskOf_24 (by decide) ?_
        refine mv_goto (pc := 25) (tgt := 29) B d_Program_maskOf_25 rfl ?_
        refine mv_lpick [0, 1, 2] rfl ?_
        exact j29 _ (by first | exact Or.inl ⟨rfl, by unfold LTq; omega⟩ | exact Or.inr ⟨rfl, by unfold LTq; omega⟩)
  · skip
    have h3 : ¬ c9.toInt < 97 := fun z => h3 (Int32.lt_iff_toInt_lt.mpr z)
    refine mv_iload_n (pc := 6) B d_Program_maskOf_6 rfl 2 rfl ?_
    refine mv_bipush (pc := 7) (v := 122) B d_Program_maskOf_7 (by decide) ?_
    refine mv_icmp_le (pc := 9) (tgt := 24) B d_Program_maskOf_9 rfl (fun h9 => ?_) (fun h9 => ?_)
    · skip
      have h9 : c9.toInt ≤ 122 := Int32.le_iff_toInt_le.mp h9
      refine mv_iconst (pc := 24) (v := 1) B d_Program_maskOf_24 (by decide) ?_
      refine mv_goto (pc := 25) (tgt := 29) B d_Program_maskOf_25 rfl ?_
      refine mv_lpick [0, 1, 2] rfl ?_
      exact j29 _ (by first | exact Or.inl ⟨rfl, by unfold LTq; omega⟩ | exact Or.inr ⟨rfl, by unfold LTq; omega⟩)
    · skip
      have h9 : ¬ c9.toInt ≤ 122 := fun z => h9 (Int32.le_iff_toInt_le.mpr z)
      refine mv_iload_n (pc := 12) B d_Program_maskOf_12 rfl 2 rfl ?_
      refine mv_bipush (pc := 13) (v := 65) B d_Program_maskOf_13 (by decide) ?_
      refine mv_icmp_lt (pc := 15) (tgt := 28) B d_Program_maskOf_15 rfl (fun h15 => ?_) (fun h15 => ?_)
      · skip
        have h15 : c9.toInt < 65 := Int32.lt_iff_toInt_lt.mp h15
        refine mv_iconst (pc := 28) (v := 0) B d_Program_maskOf_28 (by decide) ?_
        refine mv_lpick [0, 1, 2] rfl ?_
        exact j29 _ (by first | exact Or.inl ⟨rfl, by unfold LTq; omega⟩ | exact Or.inr ⟨rfl, by unfold LTq; omega⟩)
      · skip
        have h15 : ¬ c9.toInt < 65 := fun z => h15 (Int32.lt_iff_toInt_lt.mpr z)
        refine mv_iload_n (pc := 18) B d_Program_maskOf_18 rfl 2 rfl ?_
        refine mv_bipush (pc := 19) (v := 90) B d_Program_maskOf_19 (by decide) ?_
        refine mv_icmp_gt (pc := 21) (tgt := 28) B d_Program_maskOf_21 rfl (fun h21 => ?_) (fun h21 => ?_)
        · skip
          have h21 : 90 < c9.toInt := Int32.lt_iff_toInt_lt.mp h21
          refine mv_iconst (pc := 28) (v := 0) B d_Program_maskOf_28 (by decide) ?_
          refine mv_lpick [0, 1, 2] rfl ?_
          exact j29 _ (by first | exact Or.inl ⟨rfl, by unfold LTq; omega⟩ | exact Or.inr ⟨rfl, by unfold LTq; omega⟩)
        · skip
          have h21 : ¬ 90 < c9.toInt := fun z => h21 (Int32.lt_iff_toInt_lt.mpr z)
          refine mv_iconst (pc := 24) (v := 1) B d_Program_maskOf_24 (by decide) ?_
          refine mv_goto (pc := 25) (tgt := 29) B d_Program_maskOf_25 rfl ?_
          refine mv_lpick [0, 1, 2] rfl ?_
          exact j29 _ (by first | exact Or.inl ⟨rfl, by unfold LTq; omega⟩ | exact Or.inr ⟨rfl, by unfold LTq; omega⟩)
set_option maxHeartbeats 4000000 in
set_option maxRecDepth 100000 in
theorem c_kf_Program_maskOf_b (l : Launch) {dA : FieldType → ClassId} {D : va_G} {al : Nat → Nat} {ext : mv_Sh} {sk sv : Nat → Nat} (hi : mv_inj (mg dA D al ext)) (σ : mv_H) (o9 c9 : Int32) (hq : Ph 48 (mv_r σ)) (g0 : 0 ≤ (mv_i σ 48 0).toInt) (g1 : (mv_i σ 48 0).toInt ≤ 64) (g3 : (mv_i σ 48 10).toInt ≤ 512) : mv_C l y_Program_maskOf (Cond.code y_Program_maskOf b_Program_maskOf 7 (Option.some Jvm.ClassFile.FieldType.long) :: ma) ({ frames := 0, cells := 0, slots := 0, locals := 0 }) (mg dA D al ext) (mK sk sv) [.ref (al 48), .int o9, .int c9] σ (mv_Rl (fun v σ1 => σ1 = σ ∧ ((((0 ≤ o9.toInt ∧ o9.toInt < (mv_i σ 48 10).toInt) ∧ LTq c9) ∧ v = nJ (mkN (sgF2 (mv_a σ 56) o9 c9) (mv_i σ 48 0).toNatClampNeg)) ∨ (¬ ((0 ≤ o9.toInt ∧ o9.toInt < (mv_i σ 48 10).toInt) ∧ LTq c9) ∧ v = 0)))) := by
  refine mv_C.ofV (cc := b_Program_maskOf) (nL := 7) (ret := (Option.some Jvm.ClassFile.FieldType.long)) (by decide +kernel) rfl hi (Nat.le_of_ble_eq_true rfl) ?_
  intro p e s m below meth c B hNs hr hnm hno
  have lp : ∀ (nn : Nat) (j : Int32) (m9 : Int64) (q0 : 0 ≤ j.toInt) (q1 : j.toInt ≤ (mv_i σ 48 0).toInt) (k0 : 0 ≤ o9.toInt) (k1 : o9.toInt < (mv_i σ 48 10).toInt) (kL : LTq c9) (hw : m9 = nJ (mkN (sgF2 (mv_a σ 56) o9 c9) j.toNatClampNeg)), (64 - j.toInt).toNat < nn → mv_V p l e ({ frames := 0, cells := 0, slots := 0, locals := 0 }) s m ([.ref (al 48), .int o9, .int c9] : List Value).toArray below meth c (mg dA D al ext) 7 0 0 (mv_Q (mg dA D al ext) below s 0 0 (mv_Rl (fun v σ1 => σ1 = σ ∧ ((((0 ≤ o9.toInt ∧ o9.toInt < (mv_i σ 48 10).toInt) ∧ LTq c9) ∧ v = nJ (mkN (sgF2 (mv_a σ 56) o9 c9) (mv_i σ 48 0).toNatClampNeg)) ∨ (¬ ((0 ≤ o9.toInt ∧ o9.toInt < (mv_i σ 48 10).toInt) ∧ LTq c9) ∧ v = 0))))) σ 54 [(6, .int j), (4, .long m9), (0, .ref (al 48)), (1, .int o9), (2, .int c9)] [] := by
    intro nn
    induction nn with
    | zero => intro j m9 q0 q1 k0 k1 kL hw hm; exact absurd hm (Nat.not_lt_zero _)
    | succ nn ih =>
      intro j m9 q0 q1 k0 k1 kL hw hm
      refine mv_iload (pc := 54) B d_Program_maskOf_54 0 rfl ?_
      refine mv_aload_n (pc := 56) B d_Program_maskOf_56 rfl 2 rfl ?_
      refine mv_getI (pc := 57) (ci := 7) (C := R_Program) (T := F_Program) (N := 19) B 0 rfl rfl (by decide) i_Program (B.2.2.2.1 _ k_311) rfl d_Program_maskOf_57 ?_
      refine mv_icmp_ge (pc := 60) (tgt := 98) B d_Program_maskOf_60 rfl (fun h60 => ?_) (fun h60 => ?_)
      · skip
        rw [Int32.le_iff_toInt_le] at h60
        refine mv_lload (pc := 98) B d_Program_maskOf_98 1 rfl ?_
        exact mv_lret (pc := 100) B hr d_Program_maskOf_100 (Nat.le_refl _) (Nat.le_refl _) ⟨_, rfl, rfl, Or.inl ⟨⟨⟨k0, k1⟩, kL⟩, by rw [← cl_eq q1 h60]; exact hw⟩⟩
      · skip
        rw [Int32.le_iff_toInt_le] at h60
        have w2 : (j + 1).toInt = j.toInt + 1 := i32_inc (by omega)
        refine mv_lload (pc := 63) B d_Program_maskOf_63 1 rfl ?_
        refine mv_iconst (pc := 65) (v := 1) B d_Program_maskOf_65 (by decide) ?_
        refine mv_lshl (pc := 66) B d_Program_maskOf_66 ?_
        refine mv_aload_n (pc := 67) B d_Program_maskOf_67 rfl 2 rfl ?_
        refine mv_getR (pc := 68) (ci := 7) (C := R_Program) (T := F_Program) (N := 19) B 14 rfl rfl (by decide) i_Program (B.2.2.2.1 _ k_356) rfl (hq _ 14 56 rfl) d_Program_maskOf_68 ?_
        refine mv_iload_n (pc := 71) B d_Program_maskOf_71 rfl 3 rfl ?_
        refine mv_bipush (pc := 72) (v := 64) B d_Program_maskOf_72 (by decide) ?_
        refine mv_imul (pc := 74) B d_Program_maskOf_74 ?_
        refine mv_topi (fun y74 ey74 => ?_)
        have fy74 := i32_mulE ey74 (by (try simp only [Int32.reduceToInt]); omega) (by (try simp only [Int32.reduceToInt]); omega)
        try simp only [Int32.reduceToInt] at fy74
        refine mv_iload (pc := 75) B d_Program_maskOf_75 0 rfl ?_
        refine mv_iadd (pc := 77) B d_Program_maskOf_77 ?_
        refine mv_topi (fun y77 ey77 => ?_)
        have fy77 := i32_addE ey77 (by (try simp only [Int32.reduceToInt]); omega) (by (try simp only [Int32.reduceToInt]); omega)
        try simp only [Int32.reduceToInt] at fy77
        refine mv_bald (pc := 78) B rfl (i32_in (by omega) (by omega)) d_Program_maskOf_78 ?_
        refine mv_iload_n (pc := 79) B d_Program_maskOf_79 rfl 4 rfl ?_
        refine mv_icmp_ne (pc := 80) (tgt := 87) B d_Program_maskOf_80 rfl (fun h80 => ?_) (fun h80 => ?_)
        · skip
          refine mv_iconst (pc := 87) (v := 0) B d_Program_maskOf_87 (by decide) ?_
          refine mv_i2l (pc := 88) B d_Program_maskOf_88 ?_
          refine mv_lor (pc := 89) B d_Program_maskOf_89 ?_
          refine mv_lstore (pc := 90) B d_Program_maskOf_90 (by decide) rfl ?_
          refine mv_iinc (pc := 92) (j := 1) (v := 1) B d_Program_maskOf_92 rfl (by decide) (by decide) rfl ?_
          refine mv_goto (pc := 95) (tgt := 54) B d_Program_maskOf_95 rfl ?_
          refine mv_lpick [0, 1, 2, 3, 4] rfl ?_
          exact ih _ _ (by omega) (by omega) k0 k1 kL (by first | exact sgn_1 q0 (by omega) k0 fy74 fy77 h80 hw | exact sgn_0 q0 (by omega) k0 fy74 fy77 h80 hw) (by omega)
        · skip
          refine mv_iconst (pc := 83) (v := 1) B d_Program_maskOf_83 (by decide) ?_
          refine mv_goto (pc := 84) (tgt := 88) B d_Program_maskOf_84 rfl ?_
          refine mv_i2l (pc := 88) B d_Program_maskOf_88 ?_
          refine mv_lor (pc := 89) B d_Program_maskOf_89 ?_
          refine mv_lstore (pc := 90) B d_Program_maskOf_90 (by decide) rfl ?_
          refine mv_iinc (pc := 92) (j := 1) (v := 1) B d_Program_maskOf_92 rfl (by decide) (by decide) rfl ?_
          refine mv_goto (pc := 95) (tgt := 54) B d_Program_maskOf_95 rfl ?_
          refine mv_lpick [0, 1, 2, 3, 4] rfl ?_
          exact ih _ _ (by omega) (by omega) k0 k1 kL (by first | exact sgn_1 q0 (by omega) k0 fy74 fy77 h80 hw | exact sgn_0 q0 (by omega) k0 fy74 fy77 h80 hw) (by omega)
  have j29 : ∀ (z9 : Int32) (hz : (z9 = 1 ∧ LTq c9) ∨ (z9 = 0 ∧ ¬ LTq c9)), mv_V p l e ({ frames := 0, cells := 0, slots := 0, locals := 0 }) s m ([.ref (al 48), .int o9, .int c9] : List Value).toArray below meth c (mg dA D al ext) 7 0 0 (mv_Q (mg dA D al ext) below s 0 0 (mv_Rl (fun v σ1 => σ1 = σ ∧ ((((0 ≤ o9.toInt ∧ o9.toInt < (mv_i σ 48 10).toInt) ∧ LTq c9) ∧ v = nJ (mkN (sgF2 (mv_a σ 56) o9 c9) (mv_i σ 48 0).toNatClampNeg)) ∨ (¬ ((0 ≤ o9.toInt ∧ o9.toInt < (mv_i σ 48 10).toInt) ∧ LTq c9) ∧ v = 0))))) σ 29 [(0, .ref (al 48)), (1, .int o9), (2, .int c9)] [.int z9] := by
    intro z9 hz
    refine mv_istore_n (pc := 29) B d_Program_maskOf_29 rfl (by decide) rfl ?_
    refine mv_iload_n (pc := 30) B d_Program_maskOf_30 rfl 2 rfl ?_
    refine mv_if_lt (pc := 31) (tgt := 46) B d_Program_maskOf_31 rfl (fun h31 => ?_) (fun h31 => ?_)
    · skip
      have h31 : o9.toInt < 0 := Int32.lt_iff_toInt_lt.mp h31
      refine mv_lconst (pc := 46) (v := 0) B d_Program_maskOf_46 (by decide) ?_
      exact mv_lret (pc := 47) B hr d_Program_maskOf_47 (Nat.le_refl _) (Nat.le_refl _) ⟨_, rfl, rfl, Or.inr ⟨fun q => by first | exact absurd q.1.1 (by omega) | exact absurd q.1.2 (by omega) | exact (hz.resolve_left (fun z => by rw [h43] at z; exact absurd z.1 (by decide))).2 q.2, rfl⟩⟩
    · skip
      have h31 : ¬ o9.toInt < 0 := fun z => h31 (Int32.lt_iff_toInt_lt.mpr z)
      refine mv_iload_n (pc := 34) B d_Program_maskOf_34 rfl 2 rfl ?_
      refine mv_aload_n (pc := 35) B d_Program_maskOf_35 rfl 1 rfl ?_
      refine mv_getI (pc := 36) (ci := 7) (C := R_Program) (T := F_Program) (N := 19) B 10 rfl rfl (by decide) i_Program (B.2.2.2.1 _ k_345) rfl d_Program_maskOf_36 ?_
      refine mv_icmp_ge (pc := 39) (tgt := 46) B d_Program_maskOf_39 rfl (fun h39 => ?_) (fun h39 => ?_)
      · skip
        rw [Int32.le_iff_toInt_le] at h39
        refine mv_lconst (pc := 46) (v := 0) B d_Program_maskOf_46 (by decide) ?_
        exact mv_lret (pc := 47) B hr d_Program_maskOf_47 (Nat.le_refl _) (Nat.le_refl _) ⟨_, rfl, rfl, Or.inr ⟨fun q => by first | exact absurd q.1.1 (by omega) | exact absurd q.1.2 (by omega) | exact (hz.resolve_left (fun z => by rw [h43] at z; exact absurd z.1 (by decide))).2 q.2, rfl⟩⟩
      · skip
        rw [Int32.le_iff_toInt_le] at h39
        refine mv_iload_n (pc := 42) B d_Program_maskOf_42 rfl 0 rfl ?_
        refine mv_if_ne (pc := 43) (tgt := 48) B d_Program_maskOf_43 rfl (fun h43 => ?_) (fun h43 => ?_)
        · skip
          refine mv_lconst (pc := 48) (v := 0) B d_Program_maskOf_48 (by decide) ?_
          refine mv_lstore (pc := 49) B d_Program_maskOf_49 (by decide) rfl ?_
          refine mv_iconst (pc := 51) (v := 0) B d_Program_maskOf_51 (by decide) ?_
          refine mv_istore (pc := 52) B d_Program_maskOf_52 (by decide) rfl ?_
          refine mv_lpick [0, 1, 3, 4, 5] rfl ?_
          exact lp _ _ _ (by decide) g0 (by omega) (by omega) (hz.resolve_right (fun z => h43 z.1)).2 rfl (Nat.lt_succ_self _)
        · skip
          refine mv_lconst (pc := 46) (v := 0) B d_Program_maskOf_46 (by decide) ?_
          exact mv_lret (pc := 47) B hr d_Program_maskOf_47 (Nat.le_refl _) (Nat.le_refl _) ⟨_, rfl, rfl, Or.inr ⟨fun q => by first | exact absurd q.1.1 (by omega) | exact absurd q.1.2 (by omega) | exact (hz.resolve_left (fun z => by rw [h43] at z; exact absurd z.1 (by decide))).2 q.2, rfl⟩⟩
  refine mv_iload_n (pc := 0) B d_Program_maskOf_0 rfl 2 rfl ?_
  refine mv_bipush (pc := 1) (v := 97) B d_Program_maskOf_1 (by decide) ?_
  refine mv_icmp_lt (pc := 3) (tgt := 12) B d_Program_maskOf_3 rfl (fun h3 => ?_) (fun h3 => ?_)
  · skip
    have h3 : c9.toInt < 97 := Int32.lt_iff_toInt_lt.mp h3
    refine mv_iload_n (pc := 12) B d_Program_maskOf_12 rfl 2 rfl ?_
    refine mv_bipush (pc := 13) (v := 65) B d_Program_maskOf_13 (by decide) ?_
    refine mv_icmp_lt (pc := 15) (tgt := 28) B d_Program_maskOf_15 rfl (fun h15 => ?_) (fun h15 => ?_)
    · skip
      have h15 : c9.toInt < 65 := Int32.lt_iff_toInt_lt.mp h15
      refine mv_iconst (pc := 28) (v := 0) B d_Program_maskOf_28 (by decide) ?_
      refine mv_lpick [0, 1, 2] rfl ?_
      exact j29 _ (by first | exact Or.inl ⟨rfl, by unfold LTq; omega⟩ | exact Or.inr ⟨rfl, by unfold LTq; omega⟩)
    · skip
      have h15 : ¬ c9.toInt < 65 := fun z => h15 (Int32.lt_iff_toInt_lt.mpr z)
      refine mv_iload_n (pc := 18) B d_Program_maskOf_18 rfl 2 rfl ?_
      refine mv_bipush (pc := 19) (v := 90) B d_Program_maskOf_19 (by decide) ?_
      refine mv_icmp_gt (pc := 21) (tgt := 28) B d_Program_maskOf_21 rfl (fun h21 => ?_) (fun h21 => ?_)
      · skip
        have h21 : 90 < c9.toInt := Int32.lt_iff_toInt_lt.mp h21
        refine mv_iconst (pc := 28) (v := 0) B d_Program_maskOf_28 (by decide) ?_
        refine mv_lpick [0, 1, 2] rfl ?_
        exact j29 _ (by first | exact Or.inl ⟨rfl, by unfold LTq; omega⟩ | exact Or.inr ⟨rfl, by unfold LTq; omega⟩)
      · skip
        have h21 : ¬ 90 < c9.toInt := fun z => h21 (Int32.lt_iff_toInt_lt.mpr z)
        refine mv_iconst (pc := 24) (v := 1) B d_Program_maskOf_24 (by decide) ?_
        refine mv_goto (pc := 25) (tgt := 29) B d_Program_maskOf_25 rfl ?_
        refine mv_lpick [0, 1, 2] rfl ?_
        exact j29 _ (by first | exact Or.inl ⟨rfl, by unfold LTq; omega⟩ | exact Or.inr ⟨rfl, by unfold LTq; omega⟩)
  · skip
    have h3 : ¬ c9.toInt < 97 := fun z => h3 (Int32.lt_iff_toInt_lt.mpr z)
    refine mv_iload_n (pc := 6) B d_Program_maskOf_6 rfl 2 rfl ?_
    refine mv_bipush (pc := 7) (v := 122) B d_Program_maskOf_7 (by decide) ?_
    refine mv_icmp_le (pc := 9) (tgt := 24) B d_Program_maskOf_9 rfl (fun h9 => ?_) (fun h9 => ?_)
    · skip
      have h9 : c9.toInt ≤ 122 := Int32.le_iff_toInt_le.mp h9
      refine mv_iconst (pc := 24) (v := 1) B d_Program_maskOf_24 (by decide) ?_
      refine mv_goto (pc := 25) (tgt := 29) B d_Program_maskOf_25 rfl ?_
      refine mv_lpick [0, 1, 2] rfl ?_
      exact j29 _ (by first | exact Or.inl ⟨rfl, by unfold LTq; omega⟩ | exact Or.inr ⟨rfl, by unfold LTq; omega⟩)
    · skip
      have h9 : ¬ c9.toInt ≤ 122 := fun z => h9 (Int32.le_iff_toInt_le.mpr z)
      refine mv_iload_n (pc := 12) B d_Program_maskOf_12 rfl 2 rfl ?_
      refine mv_bipush (pc := 13) (v := 65) B d_Program_maskOf_13 (by decide) ?_
      refine mv_icmp_lt (pc := 15) (tgt := 28) B d_Program_maskOf_15 rfl (fun h15 => ?_) (fun h15 => ?_)
      · skip
        have h15 : c9.toInt < 65 := Int32.lt_iff_toInt_lt.mp h15
        refine mv_iconst (pc := 28) (v := 0) B d_Program_maskOf_28 (by decide) ?_
        refine mv_lpick [0, 1, 2] rfl ?_
        exact j29 _ (by first | exact Or.inl ⟨rfl, by unfold LTq; omega⟩ | exact Or.inr ⟨rfl, by unfold LTq; omega⟩)
      · skip
        have h15 : ¬ c9.toInt < 65 := fun z => h15 (Int32.lt_iff_toInt_lt.mpr z)
        refine mv_iload_n (pc := 18) B d_Program_maskOf_18 rfl 2 rfl ?_
        refine mv_bipush (pc := 19) (v := 90) B d_Program_maskOf_19 (by decide) ?_
        refine mv_icmp_gt (pc := 21) (tgt := 28) B d_Program_maskOf_21 rfl (fun h21 => ?_) (fun h21 => ?_)
        · skip
          have h21 : 90 < c9.toInt := Int32.lt_iff_toInt_lt.mp h21
          refine mv_iconst (pc := 28) (v := 0) B d_Program_maskOf_28 (by decide) ?_
          refine mv_lpick [0, 1, 2] rfl ?_
          exact j29 _ (by first | exact Or.inl ⟨rfl, by unfold LTq; omega⟩ | exact Or.inr ⟨rfl, by unfold LTq; omega⟩)
        · skip
          have h21 : ¬ 90 < c9.toInt := fun z => h21 (Int32.lt_iff_toInt_lt.mpr z)
          refine mv_iconst (pc := 24) (v := 1) B d_Program_maskOf_24 (by decide) ?_
          refine mv_goto (pc := 25) (tgt := 29) B d_Program_maskOf_25 rfl ?_
          refine mv_lpick [0, 1, 2] rfl ?_
          exact j29 _ (by first | exact Or.inl ⟨rfl, by unfold LTq; omega⟩ | exact Or.inr ⟨rfl, by unfold LTq; omega⟩)
set_option maxHeartbeats 4000000 in
set_option maxRecDepth 100000 in
theorem c_kf_Program_maskOf_c (l : Launch) {dA : FieldType → ClassId} {D : va_G} {al : Nat → Nat} {sk sv : Nat → Nat} (hi : mv_inj (mg dA D al me)) (σ : mv_H) (o9 c9 : Int32) (hq : Ph 145 (mv_r σ)) (g0 : 0 ≤ (mv_i σ 145 0).toInt) (g1 : (mv_i σ 145 0).toInt ≤ 64) (g3 : (mv_i σ 145 10).toInt ≤ 48) : mv_C l y_Program_maskOf (Cond.code y_Program_maskOf b_Program_maskOf 7 (Option.some Jvm.ClassFile.FieldType.long) :: ma) ({ frames := 0, cells := 0, slots := 0, locals := 0 }) (mg dA D al me) (mK sk sv) [.ref (al 145), .int o9, .int c9] σ (mv_Rl (fun v σ1 => σ1 = σ ∧ ((((0 ≤ o9.toInt ∧ o9.toInt < (mv_i σ 145 10).toInt) ∧ LTq c9) ∧ v = nJ (mkN (sgF2 (mv_a σ 153) o9 c9) (mv_i σ 145 0).toNatClampNeg)) ∨ (¬ ((0 ≤ o9.toInt ∧ o9.toInt < (mv_i σ 145 10).toInt) ∧ LTq c9) ∧ v = 0)))) := by
  refine mv_C.ofV (cc := b_Program_maskOf) (nL := 7) (ret := (Option.some Jvm.ClassFile.FieldType.long)) (by decide +kernel) rfl hi (Nat.le_of_ble_eq_true rfl) ?_
  intro p e s m below meth c B hNs hr hnm hno
  have lp : ∀ (nn : Nat) (j : Int32) (m9 : Int64) (q0 : 0 ≤ j.toInt) (q1 : j.toInt ≤ (mv_i σ 145 0).toInt) (k0 : 0 ≤ o9.toInt) (k1 : o9.toInt < (mv_i σ 145 10).toInt) (kL : LTq c9) (hw : m9 = nJ (mkN (sgF2 (mv_a σ 153) o9 c9) j.toNatClampNeg)), (64 - j.toInt).toNat < nn → mv_V p l e ({ frames := 0, cells := 0, slots := 0, locals := 0 }) s m ([.ref (al 145), .int o9, .int c9] : List Value).toArray below meth c (mg dA D al me) 7 0 0 (mv_Q (mg dA D al me) below s 0 0 (mv_Rl (fun v σ1 => σ1 = σ ∧ ((((0 ≤ o9.toInt ∧ o9.toInt < (mv_i σ 145 10).toInt) ∧ LTq c9) ∧ v = nJ (mkN (sgF2 (mv_a σ 153) o9 c9) (mv_i σ 145 0).toNatClampNeg)) ∨ (¬ ((0 ≤ o9.toInt ∧ o9.toInt < (mv_i σ 145 10).toInt) ∧ LTq c9) ∧ v = 0))))) σ 54 [(6, .int j), (4, .long m9), (0, .ref (al 145)), (1, .int o9), (2, .int c9)] [] := by
    intro nn
    induction nn with
    | zero => intro j m9 q0 q1 k0 k1 kL hw hm; exact absurd hm (Nat.not_lt_zero _)
    | succ nn ih =>
      intro j m9 q0 q1 k0 k1 kL hw hm
      refine mv_iload (pc := 54) B d_Program_maskOf_54 0 rfl ?_
      refine mv_aload_n (pc := 56) B d_Program_maskOf_56 rfl 2 rfl ?_
      refine mv_getI (pc := 57) (ci := 7) (C := R_Program) (T := F_Program) (N := 19) B 0 rfl rfl (by decide) i_Program (B.2.2.2.1 _ k_311) rfl d_Program_maskOf_57 ?_
      refine mv_icmp_ge (pc := 60) (tgt := 98) B d_Program_maskOf_60 rfl (fun h60 => ?_) (fun h60 => ?_)
      · skip
        rw [Int32.le_iff_toInt_le] at h60
        refine mv_lload (pc := 98) B d_Program_maskOf_98 1 rfl ?_
        exact mv_lret (pc := 100) B hr d_Program_maskOf_100 (Nat.le_refl _) (Nat.le_refl _) ⟨_, rfl, rfl, Or.inl ⟨⟨⟨k0, k1⟩, kL⟩, by rw [← cl_eq q1 h60]; exact hw⟩⟩
      · skip
        rw [Int32.le_iff_toInt_le] at h60
        have w2 : (j + 1).toInt = j.toInt + 1 := i32_inc (by omega)
        refine mv_lload (pc := 63) B d_Program_maskOf_63 1 rfl ?_
        refine mv_iconst (pc := 65) (v := 1) B d_Program_maskOf_65 (by decide) ?_
        refine mv_lshl (pc := 66) B d_Program_maskOf_66 ?_
        refine mv_aload_n (pc := 67) B d_Program_maskOf_67 rfl 2 rfl ?_
        refine mv_getR (pc := 68) (ci := 7) (C := R_Program) (T := F_Program) (N := 19) B 14 rfl rfl (by decide) i_Program (B.2.2.2.1 _ k_356) rfl (hq _ 14 153 rfl) d_Program_maskOf_68 ?_
        refine mv_iload_n (pc := 71) B d_Program_maskOf_71 rfl 3 rfl ?_
        refine mv_bipush (pc := 72) (v := 64) B d_Program_maskOf_72 (by decide) ?_
        refine mv_imul (pc := 74) B d_Program_maskOf_74 ?_
        refine mv_topi (fun y74 ey74 => ?_)
        have fy74 := i32_mulE ey74 (by (try simp only [Int32.reduceToInt]); omega) (by (try simp only [Int32.reduceToInt]); omega)
        try simp only [Int32.reduceToInt] at fy74
        refine mv_iload (pc := 75) B d_Program_maskOf_75 0 rfl ?_
        refine mv_iadd (pc := 77) B d_Program_maskOf_77 ?_
        refine mv_topi (fun y77 ey77 => ?_)
        have fy77 := i32_addE ey77 (by (try simp only [Int32.reduceToInt]); omega) (by (try simp only [Int32.reduceToInt]); omega)
        try simp only [Int32.reduceToInt] at fy77
        refine mv_bald (pc := 78) B rfl (i32_in (by omega) (by omega)) d_Program_maskOf_78 ?_
        refine mv_iload_n (pc := 79) B d_Program_maskOf_79 rfl 4 rfl ?_
        refine mv_icmp_ne (pc := 80) (tgt := 87) B d_Program_maskOf_80 rfl (fun h80 => ?_) (fun h80 => ?_)
        · skip
          refine mv_iconst (pc := 87) (v := 0) B d_Program_maskOf_87 (by decide) ?_
          refine mv_i2l (pc := 88) B d_Program_maskOf_88 ?_
          refine mv_lor (pc := 89) B d_Program_maskOf_89 ?_
          refine mv_lstore (pc := 90) B d_Program_maskOf_90 (by decide) rfl ?_
          refine mv_iinc (pc := 92) (j := 1) (v := 1) B d_Program_maskOf_92 rfl (by decide) (by decide) rfl ?_
          refine mv_goto (pc := 95) (tgt := 54) B d_Program_maskOf_95 rfl ?_
          refine mv_lpick [0, 1, 2, 3, 4] rfl ?_
          exact ih _ _ (by omega) (by omega) k0 k1 kL (by first | exact sgn_1 q0 (by omega) k0 fy74 fy77 h80 hw | exact sgn_0 q0 (by omega) k0 fy74 fy77 h80 hw) (by omega)
        · skip
          refine mv_iconst (pc := 83) (v := 1) B d_Program_maskOf_83 (by decide) ?_
          refine mv_goto (pc := 84) (tgt := 88) B d_Program_maskOf_84 rfl ?_
          refine mv_i2l (pc := 88) B d_Program_maskOf_88 ?_
          refine mv_lor (pc := 89) B d_Program_maskOf_89 ?_
          refine mv_lstore (pc := 90) B d_Program_maskOf_90 (by decide) rfl ?_
          refine mv_iinc (pc := 92) (j := 1) (v := 1) B d_Program_maskOf_92 rfl (by decide) (by decide) rfl ?_
          refine mv_goto (pc := 95) (tgt := 54) B d_Program_maskOf_95 rfl ?_
          refine mv_lpick [0, 1, 2, 3, 4] rfl ?_
          exact ih _ _ (by omega) (by omega) k0 k1 kL (by first | exact sgn_1 q0 (by omega) k0 fy74 fy77 h80 hw | exact sgn_0 q0 (by omega) k0 fy74 fy77 h80 hw) (by omega)
  have j29 : ∀ (z9 : Int32) (hz : (z9 = 1 ∧ LTq c9) ∨ (z9 = 0 ∧ ¬ LTq c9)), mv_V p l e ({ frames := 0, cells := 0, slots := 0, locals := 0 }) s m ([.ref (al 145), .int o9, .int c9] : List Value).toArray below meth c (mg dA D al me) 7 0 0 (mv_Q (mg dA D al me) below s 0 0 (mv_Rl (fun v σ1 => σ1 = σ ∧ ((((0 ≤ o9.toInt ∧ o9.toInt < (mv_i σ 145 10).toInt) ∧ LTq c9) ∧ v = nJ (mkN (sgF2 (mv_a σ 153) o9 c9) (mv_i σ 145 0).toNatClampNeg)) ∨ (¬ ((0 ≤ o9.toInt ∧ o9.toInt < (mv_i σ 145 10).toInt) ∧ LTq c9) ∧ v = 0))))) σ 29 [(0, .ref (al 145)), (1, .int o9), (2, .int c9)] [.int z9] := by
    intro z9 hz
    refine mv_istore_n (pc := 29) B d_Program_maskOf_29 rfl (by decide) rfl ?_
    refine mv_iload_n (pc := 30) B d_Program_maskOf_30 rfl 2 rfl ?_
    refine mv_if_lt (pc := 31) (tgt := 46) B d_Program_maskOf_31 rfl (fun h31 => ?_) (fun h31 => ?_)
    · skip
      have h31 : o9.toInt < 0 := Int32.lt_iff_toInt_lt.mp h31
      refine mv_lconst (pc := 46) (v := 0) B d_Program_maskOf_46 (by decide) ?_
      exact mv_lret (pc := 47) B hr d_Program_maskOf_47 (Nat.le_refl _) (Nat.le_refl _) ⟨_, rfl, rfl, Or.inr ⟨fun q => by first | exact absurd q.1.1 (by omega) | exact absurd q.1.2 (by omega) | exact (hz.resolve_left (fun z => by rw [h43] at z; exact absurd z.1 (by decide))).2 q.2, rfl⟩⟩
    · skip
      have h31 : ¬ o9.toInt < 0 := fun z => h31 (Int32.lt_iff_toInt_lt.mpr z)
      refine mv_iload_n (pc := 34) B d_Program_maskOf_34 rfl 2 rfl ?_
      refine mv_aload_n (pc := 35) B d_Program_maskOf_35 rfl 1 rfl ?_
      refine mv_getI (pc := 36) (ci := 7) (C := R_Program) (T := F_Program) (N := 19) B 10 rfl rfl (by decide) i_Program (B.2.2.2.1 _ k_345) rfl d_Program_maskOf_36 ?_
      refine mv_icmp_ge (pc := 39) (tgt := 46) B d_Program_maskOf_39 rfl (fun h39 => ?_) (fun h39 => ?_)
      · skip
        rw [Int32.le_iff_toInt_le] at h39
        refine mv_lconst (pc := 46) (v := 0) B d_Program_maskOf_46 (by decide) ?_
        exact mv_lret (pc := 47) B hr d_Program_maskOf_47 (Nat.le_refl _) (Nat.le_refl _) ⟨_, rfl, rfl, Or.inr ⟨fun q => by first | exact absurd q.1.1 (by omega) | exact absurd q.1.2 (by omega) | exact (hz.resolve_left (fun z => by rw [h43] at z; exact absurd z.1 (by decide))).2 q.2, rfl⟩⟩
      · skip
        rw [Int32.le_iff_toInt_le] at h39
        refine mv_iload_n (pc := 42) B d_Program_maskOf_42 rfl 0 rfl ?_
        refine mv_if_ne (pc := 43) (tgt := 48) B d_Program_maskOf_43 rfl (fun h43 => ?_) (fun h43 => ?_)
        · skip
          refine mv_lconst (pc := 48) (v := 0) B d_Program_maskOf_48 (by decide) ?_
          refine mv_lstore (pc := 49) B d_Program_maskOf_49 (by decide) rfl ?_
          refine mv_iconst (pc := 51) (v := 0) B d_Program_maskOf_51 (by decide) ?_
          refine mv_istore (pc := 52) B d_Program_maskOf_52 (by decide) rfl ?_
          refine mv_lpick [0, 1, 3, 4, 5] rfl ?_
          exact lp _ _ _ (by decide) g0 (by omega) (by omega) (hz.resolve_right (fun z => h43 z.1)).2 rfl (Nat.lt_succ_self _)
        · skip
          refine mv_lconst (pc := 46) (v := 0) B d_Program_maskOf_46 (by decide) ?_
          exact mv_lret (pc := 47) B hr d_Program_maskOf_47 (Nat.le_refl _) (Nat.le_refl _) ⟨_, rfl, rfl, Or.inr ⟨fun q => by first | exact absurd q.1.1 (by omega) | exact absurd q.1.2 (by omega) | exact (hz.resolve_left (fun z => by rw [h43] at z; exact absurd z.1 (by decide))).2 q.2, rfl⟩⟩
  refine mv_iload_n (pc := 0) B d_Program_maskOf_0 rfl 2 rfl ?_
  refine mv_bipush (pc := 1) (v := 97) B d_Program_maskOf_1 (by decide) ?_
  refine mv_icmp_lt (pc := 3) (tgt := 12) B d_Program_maskOf_3 rfl (fun h3 => ?_) (fun h3 => ?_)
  · skip
    have h3 : c9.toInt < 97 := Int32.lt_iff_toInt_lt.mp h3
    refine mv_iload_n (pc := 12) B d_Program_maskOf_12 rfl 2 rfl ?_
    refine mv_bipush (pc := 13) (v := 65) B d_Program_maskOf_13 (by decide) ?_
    refine mv_icmp_lt (pc := 15) (tgt := 28) B d_Program_maskOf_15 rfl (fun h15 => ?_) (fun h15 => ?_)
    · skip
      have h15 : c9.toInt < 65 := Int32.lt_iff_toInt_lt.mp h15
      refine mv_iconst (pc := 28) (v := 0) B d_Program_maskOf_28 (by decide) ?_
      refine mv_lpick [0, 1, 2] rfl ?_
      exact j29 _ (by first | exact Or.inl ⟨rfl, by unfold LTq; omega⟩ | exact Or.inr ⟨rfl, by unfold LTq; omega⟩)
    · skip
      have h15 : ¬ c9.toInt < 65 := fun z => h15 (Int32.lt_iff_toInt_lt.mpr z)
      refine mv_iload_n (pc := 18) B d_Program_maskOf_18 rfl 2 rfl ?_
      refine mv_bipush (pc := 19) (v := 90) B d_Program_maskOf_19 (by decide) ?_
      refine mv_icmp_gt (pc := 21) (tgt := 28) B d_Program_maskOf_21 rfl (fun h21 => ?_) (fun h21 => ?_)
      · skip
        have h21 : 90 < c9.toInt := Int32.lt_iff_toInt_lt.mp h21
        refine mv_iconst (pc := 28) (v := 0) B d_Program_maskOf_28 (by decide) ?_
        refine mv_lpick [0, 1, 2] rfl ?_
        exact j29 _ (by first | exact Or.inl ⟨rfl, by unfold LTq; omega⟩ | exact Or.inr ⟨rfl, by unfold LTq; omega⟩)
      · skip
        have h21 : ¬ 90 < c9.toInt := fun z => h21 (Int32.lt_iff_toInt_lt.mpr z)
        refine mv_iconst (pc := 24) (v := 1) B d_Program_maskOf_24 (by decide) ?_
        refine mv_goto (pc := 25) (tgt := 29) B d_Program_maskOf_25 rfl ?_
        refine mv_lpick [0, 1, 2] rfl ?_
        exact j29 _ (by first | exact Or.inl ⟨rfl, by unfold LTq; omega⟩ | exact Or.inr ⟨rfl, by unfold LTq; omega⟩)
  · skip
    have h3 : ¬ c9.toInt < 97 := fun z => h3 (Int32.lt_iff_toInt_lt.mpr z)
    refine mv_iload_n (pc := 6) B d_Program_maskOf_6 rfl 2 rfl ?_
    refine mv_bipush (pc := 7) (v := 122) B d_Program_maskOf_7 (by decide) ?_
    refine mv_icmp_le (pc := 9) (tgt := 24) B d_Program_maskOf_9 rfl (fun h9 => ?_) (fun h9 => ?_)
    · skip
      have h9 : c9.toInt ≤ 122 := Int32.le_iff_toInt_le.mp h9
      refine mv_iconst (pc := 24) (v := 1) B d_Program_maskOf_24 (by decide) ?_
      refine mv_goto (pc := 25) (tgt := 29) B d_Program_maskOf_25 rfl ?_
      refine mv_lpick [0, 1, 2] rfl ?_
      exact j29 _ (by first | exact Or.inl ⟨rfl, by unfold LTq; omega⟩ | exact Or.inr ⟨rfl, by unfold LTq; omega⟩)
    · skip
      have h9 : ¬ c9.toInt ≤ 122 := fun z => h9 (Int32.le_iff_toInt_le.mpr z)
      refine mv_iload_n (pc := 12) B d_Program_maskOf_12 rfl 2 rfl ?_
      refine mv_bipush (pc := 13) (v := 65) B d_Program_maskOf_13 (by decide) ?_
      refine mv_icmp_lt (pc := 15) (tgt := 28) B d_Program_maskOf_15 rfl (fun h15 => ?_) (fun h15 => ?_)
      · skip
        have h15 : c9.toInt < 65 := Int32.lt_iff_toInt_lt.mp h15
        refine mv_iconst (pc := 28) (v := 0) B d_Program_maskOf_28 (by decide) ?_
        refine mv_lpick [0, 1, 2] rfl ?_
        exact j29 _ (by first | exact Or.inl ⟨rfl, by unfold LTq; omega⟩ | exact Or.inr ⟨rfl, by unfold LTq; omega⟩)
      · skip
        have h15 : ¬ c9.toInt < 65 := fun z => h15 (Int32.lt_iff_toInt_lt.mpr z)
        refine mv_iload_n (pc := 18) B d_Program_maskOf_18 rfl 2 rfl ?_
        refine mv_bipush (pc := 19) (v := 90) B d_Program_maskOf_19 (by decide) ?_
        refine mv_icmp_gt (pc := 21) (tgt := 28) B d_Program_maskOf_21 rfl (fun h21 => ?_) (fun h21 => ?_)
        · skip
          have h21 : 90 < c9.toInt := Int32.lt_iff_toInt_lt.mp h21
          refine mv_iconst (pc := 28) (v := 0) B d_Program_maskOf_28 (by decide) ?_
          refine mv_lpick [0, 1, 2] rfl ?_
          exact j29 _ (by first | exact Or.inl ⟨rfl, by unfold LTq; omega⟩ | exact Or.inr ⟨rfl, by unfold LTq; omega⟩)
        · skip
          have h21 : ¬ 90 < c9.toInt := fun z => h21 (Int32.lt_iff_toInt_lt.mpr z)
          refine mv_iconst (pc := 24) (v := 1) B d_Program_maskOf_24 (by decide) ?_
          refine mv_goto (pc := 25) (tgt := 29) B d_Program_maskOf_25 rfl ?_
          refine mv_lpick [0, 1, 2] rfl ?_
          exact j29 _ (by first | exact Or.inl ⟨rfl, by unfold LTq; omega⟩ | exact Or.inr ⟨rfl, by unfold LTq; omega⟩)
