/-! the ops that reckon a result -/
theorem xnzI_t {y : Int32} (h : ¬ y = 0) : xnzI y = true := by
  unfold xnzI
  rw [decide_eq_false h]
  rfl
theorem st_of {k : Nat} {w : Int64} {R : Nat → Nat → Int64} {T : Int32} {s : STq} (hk : k < 48) (hd : dcV rS.1 w = nI k) (e : rn (eW rS w) LSx 64 (stS k) [] (fun _ => 0, R, fun _ => false) = some (T, s)) : stF rS w R = (T, if T = 0 then gfT (eW rS w) 32 (frR rS) s else R) := by
  have sf := stF_o (R := R) LIq_S hd (by show k < opS.length; rw [opS_48]; exact hk) (by omega) (fun _ => 0)
  have eb : bdO rS k = bdS k := bdS_g hk
  rw [eb, bdS_e e] at sf
  exact sf
section RES
variable {P : Nat} {R : Nat → Nat → Int64} {h : mv_H} {w : Int64}
theorem RLs.s (L : RLs R h) (w : Int64) : ZE (R 1 (gatV w (nJ 1015808)).toBitVec.toNat) (mv_a h 72 (WNd w 15 5)) := by
  rw [gat_1015808]; exact L.2.1 _ (WNd_lt w 15 5)
theorem RLs.t (L : RLs R h) (w : Int64) : ZE (R 1 (gatV w (nJ 32505856)).toBitVec.toNat) (mv_a h 72 (WNd w 20 5)) := by
  rw [gat_32505856]; exact L.2.1 _ (WNd_lt w 20 5)
theorem wr_1p {d : Nat} {v : Int64} : wrT (eW rS w) 1 d v R 0 0 = R 0 0 := by
  rw [wr_1]
  by_cases c : d = 0
  · rw [if_pos c]
  · rw [if_neg c]
    exact if_neg (fun q => absurd q.1 (by decide))
/-- x[d] becomes V, pc goes on -/
theorem res_w {V : Int64} {v' : Int32} (L : RLs R h) (hv : ZE V v') : ∃ h', (xhv (f_Model_set P h (nI (WNd w 7 5)) v') fun g4 => f_Model_shippedStep_294 P (mv_i h 70 6) 0 g4) = some (0, h') ∧ RLs (wrT (eW rS w) 0 0 (wrT (eW rS w) 1 (WNd w 7 5) V R 0 0 + nJ 4) (wrT (eW rS w) 1 (WNd w 7 5) V R)) h' ∧ SFs h h' := by
  obtain ⟨h1, e1, L1, F1⟩ := L.xw (w := w) (WNd_lt w 7 5) hv P
  obtain ⟨h2, e2, L2, F2⟩ := ss_294 (P := P) (w := w) L1 (pc := mv_i h 70 6) (by rw [wr_1p]; exact L.1)
  exact ⟨h2, by rw [e1, xhv_s]; exact e2, L2, F1.tr F2⟩
theorem res_go {k : Nat} {V : Int64} {x y v' : Int32} (L : RLs R h) (hk : k < 48) (hd : dcV rS.1 w = nI k) (ev : rn (eW rS w) LSx 64 (stS k) [] (fun _ => 0, R, fun _ => false) = some (0, (fun _ => 0, wrT (eW rS w) 1 (gatV w (nJ 3968)).toBitVec.toNat V R, fun _ => false))) (st : f_Model_shippedStep P h w.toInt32 = f_Model_shippedStep_288 P (mv_i h 70 6) 0 y x (nI k) (nI (WNd w 7 5)) h) (hr : f_Model_reckon h (nI k) x y = some (v', h)) (hv : ZE V v') : SSx P w h (stF rS w R).1 (stF rS w R).2 := by
  rw [st_of hk hd ev]
  obtain ⟨h', e, L', F⟩ := res_w (P := P) (w := w) L hv
  refine ⟨h', ?_, ?_, F⟩
  · rw [st]
    unfold f_Model_shippedStep_288
    rw [hr, xhb_s]
    exact e
  · show RLs (if (0 : Int32) = 0 then gfT (eW rS w) 32 (frR rS) (fun _ => 0, wrT (eW rS w) 1 (gatV w (nJ 3968)).toBitVec.toNat V R, fun _ => false) else R) h'
    rw [if_pos rfl, gf_S, gat_3968]
    exact L'
end RES
theorem slt_z {a b : Int64} {x y : Int32} (h : ZE a x) (g : ZE b y) : ZE (u2 213 (nJ 32) a b) (if x < y then 1 else 0) := by
  rw [h.slt g]
  by_cases c : x < y
  · rw [decide_eq_true c, if_pos c]; rfl
  · rw [decide_eq_false c, if_neg c]; rfl
theorem ltu_z {a b : Int64} {x y : Int32} (h : ZE a x) (g : ZE b y) : ZE (u2 60 (nJ 32) a b) (if x.toBitVec.toNat < y.toBitVec.toNat then 1 else 0) := by
  rw [h.lt9 g]
  by_cases c : x.toBitVec.toNat < y.toBitVec.toNat
  · rw [decide_eq_true c, if_pos c]; rfl
  · rw [decide_eq_false c, if_neg c]; rfl
theorem r100 (x y : Int32) (h : mv_H) : f_Model_reckon_100 x y h = some (if x < y then 1 else 0, h) := by
  unfold f_Model_reckon_100
  by_cases c : x < y
  · rw [if_pos c, if_neg (fun q => absurd c (Int32.not_lt.mpr q))]
  · rw [if_neg c, if_pos (Int32.not_lt.mp c)]
theorem r111 (x y : Int32) (h : mv_H) : f_Model_reckon_111 x y h = some (if x.toBitVec.toNat < y.toBitVec.toNat then 1 else 0, h) := by
  unfold f_Model_reckon_111
  rw [less_v, xhb_s]
  by_cases c : x.toBitVec.toNat < y.toBitVec.toNat
  · rw [if_pos c]; rfl
  · rw [if_neg c]; rfl
/-- how far to shift: a field, or the low bits of a number -/
theorem amt_f (w : Int64) : (gatV w (nJ 32505856)).toBitVec.toNat = (nI (WNd w 20 5)).toBitVec.toNat % 32 := by
  have l : WNd w 20 5 < 32 := WNd_lt w 20 5
  rw [gat_32505856, nI_tn (by omega)]
  omega
theorem amt_r {b : Int64} {y : Int32} (h : ZE b y) : (u1 308 (nJ 1280) b).toBitVec.toNat = y.toBitVec.toNat % 32 := by
  rw [part_n (lo := 0) (wd := 5) (by decide) (by decide) (by decide +kernel) (by decide +kernel), show b.toBitVec.toNat = y.toBitVec.toNat from h]
  show y.toBitVec.toNat / 2 ^ 0 % 32 = _
  rw [Nat.pow_zero, Nat.div_one]
/-- quotients -/
theorem div_t {x y : Int32} (h0 : ¬ y = 0) (h1 : ¬ y = -1) : LO (x.toInt64 / y.toInt64) (x / y) := by
  refine LO.i ?_
  show (x.toInt64 / y.toInt64).toInt = (x / y).toInt
  have a := Int32.le_toInt x
  have b := Int32.toInt_lt x
  have yb : ¬ y.toInt = 0 := fun q => h0 (Int32.toInt_inj.mp q)
  have ab : (x.toInt.tdiv y.toInt).natAbs ≤ x.toInt.natAbs := Int.natAbs_tdiv_le_natAbs _ _
  have hx : ¬ (x.toInt.tdiv y.toInt = 2147483648) := fun q => by
    have e1 : x.toInt.natAbs = 2147483648 := by omega
    have e2 : x.toInt = -2147483648 := by omega
    have t := Int.natAbs_tdiv x.toInt y.toInt
    rw [q, e1] at t
    have t2 : (2147483648 : Nat) / y.toInt.natAbs = 2147483648 := t.symm
    have y1 : y.toInt.natAbs = 1 := by
      have h3 : y.toInt.natAbs ≠ 0 := by omega
      have h4 : y.toInt.natAbs < 2 := by
        rcases Nat.lt_or_ge y.toInt.natAbs 2 with z | z
        · exact z
        · have := Nat.div_le_div_left z (by decide) (a := 2147483648)
          omega
      omega
    rcases (show y.toInt = 1 ∨ y.toInt = -1 by omega) with z | z
    · rw [z, e2] at q
      exact absurd q (by decide)
    · exact h1 (Int32.toInt_inj.mp z)
  rw [Int64.toInt_div, Int32.toInt_div, Int32.toInt_toInt64, Int32.toInt_toInt64, Int.bmod_eq_of_le (by omega) (by omega), Int.bmod_eq_of_le (by omega) (by omega)]
theorem div_m (x : Int32) : x.toInt64 / (-1 : Int32).toInt64 = -x.toInt64 := dm1 x.toInt64
theorem div_l {x y : Int32} (h0 : ¬ y = 0) : LO (x.toInt64 / y.toInt64) (if y = -1 then -x else x / y) := by
  by_cases c : y = -1
  · rw [if_pos c, c, div_m]
    exact (LO.s x).neg
  · rw [if_neg c]
    exact div_t h0 c
theorem div_z {a b : Int64} {x y : Int32} (h : ZE a x) (g : ZE b y) : ZE (u2 214 (nJ 32) a b) (if y = 0 then -1 else if y = -1 then -x else x / y) := by
  rw [h.sdiv g]
  refine LO.z ?_
  by_cases c : y = 0
  · rw [if_pos c, if_pos c]; exact rfl
  · rw [if_neg c, if_neg c]; exact div_l c
theorem rem_z {a b : Int64} {x y : Int32} (h : ZE a x) (g : ZE b y) : ZE (u2 215 (nJ 32) a b) (if y = 0 then x else if y = -1 then 0 else x - x / y * y) := by
  rw [h.srem g]
  refine LO.z ?_
  by_cases c : y = 0
  · rw [if_pos c, if_pos c]; exact LO.s x
  · rw [if_neg c, if_neg c]
    by_cases d : y = -1
    · rw [if_pos d, d, div_m]
      have e : x.toInt64 - -x.toInt64 * (-1 : Int32).toInt64 = 0 := by
        show x.toInt64 - -x.toInt64 * -1 = 0
        rw [Int64.neg_mul_neg, Int64.mul_one, Int64.sub_self]
      rw [e]
      exact rfl
    · rw [if_neg d]
      exact (LO.s x).sub ((div_t c d).mul (LO.s y))
/-- quotients without sign -/
theorem dv_n {a b : Int64} (ha : a.toBitVec.toNat < 4294967296) (hb : b.toBitVec.toNat < 4294967296) (h0 : ¬ b = 0) : f_Bits_divide hZ a b = some (a / b, hZ) := by
  have na : ¬ lg_cmp a 0 < 0 := fun q => by
    rw [← nJ_bv a] at q
    have := (lc_neg (by omega)).mp q
    omega
  have nb : ¬ lg_cmp b 0 < 0 := fun q => by
    rw [← nJ_bv b] at q
    have := (lc_neg (by omega)).mp q
    omega
  unfold f_Bits_divide
  rw [if_neg (fun q => h0 ((lg_cmp_eq _ _).mp q)), if_pos (Int32.not_lt.mp nb), if_neg na, xnzJ_t h0, cond_true]
theorem divu_z {a b : Int64} {x y : Int32} (h : ZE a x) (g : ZE b y) : ZE (u2 47 (nJ 32) a b) (if y = 0 then -1 else (a / b).toInt32) := by
  have e1 : f_Bits_ofTwo hZ 47 a b (nI 32) = xhb (f_Bits_divide hZ a b) (fun v14 g13 => xhb (f_Bits_mask g13 (nI 32)) (fun v16 g15 => some ((v14 &&& v16), g15))) := by
    unfold f_Bits_ofTwo
    rw [if_neg (by decide), if_neg (by decide), if_neg (by decide), if_neg (by decide), if_neg (by decide), if_pos (by decide)]
  by_cases c : y = 0
  · have b0 : b = 0 := g.inj (show ZE 0 y by rw [c]; rfl)
    have e3 : f_Bits_divide hZ a b = some (-1, hZ) := by
      unfold f_Bits_divide
      rw [if_pos ((lg_cmp_eq _ _).mpr b0)]
    rw [e3, xhb_s, bm_e, xhb_s] at e1
    rw [u2_v (by decide) (by decide) e1, if_pos c]
    exact LO.z rfl
  · have b0 : ¬ b = 0 := fun q => c (ZE.inj2 (v := 0) (by rw [← q]; exact g) rfl)
    rw [dv_n h.lt g.lt b0, xhb_s, bm_e, xhb_s] at e1
    rw [u2_v (by decide) (by decide) e1, if_neg c]
    exact LO.z (LO.t _)
theorem remu_z {a b : Int64} {x y : Int32} (h : ZE a x) (g : ZE b y) : ZE (u2 37 (nJ 32) a b) (if y = 0 then x else (a - a / b * b).toInt32) := by
  obtain ⟨u, e1, -, hu⟩ := rem_c hZ hZ 74 a b (nI 32)
  have e2 : f_Bits_ofTwo hZ 37 a b (nI 32) = (if (lg_cmp b (0 : Int64)) = (0 : Int32) then (some (a, hZ)) else (xhb (f_Bits_divide hZ a b) fun v6 g5 => some ((a - (v6 * b)), g5))) := by
    unfold f_Bits_ofTwo
    rw [if_pos (by decide)]
  by_cases c : y = 0
  · have b0 : b = 0 := g.inj (show ZE 0 y by rw [c]; rfl)
    rw [if_pos ((lg_cmp_eq _ _).mpr b0)] at e2
    rw [u2_v (by decide) (by decide) e2, if_pos c]
    exact h
  · have b0 : ¬ b = 0 := fun q => c (ZE.inj2 (v := 0) (by rw [← q]; exact g) rfl)
    rw [if_neg (fun q => b0 ((lg_cmp_eq _ _).mp q)), dv_n h.lt g.lt b0, xhb_s] at e2
    have eu : u = a - a / b * b := congrArg Prod.fst (Option.some.inj (e1.symm.trans e2))
    rw [u2_v (by decide) (by decide) e2, if_neg c]
    rw [eu] at hu
    have l : (a - a / b * b).toBitVec.toNat < 4294967296 := Nat.lt_of_le_of_lt hu h.lt
    unfold ZE
    rw [w32, Nat.mod_eq_of_lt l]

theorem op_18 (P : Nat) {R : Nat → Nat → Int64} {h : mv_H} {w : Int64} (L : RLs R h) (hk : sOv w.toInt32 = nI 18) (hd : dcV rS.1 w = nI 18) : SSx P w h (stF rS w R).1 (stF rS w R).2 := by
  have st : f_Model_shippedStep P h w.toInt32 = f_Model_shippedStep_288 P (mv_i h 70 6) 0 (w.toInt32 >>> ((20 : Int32) &&& 31)) (mv_a h 72 (WNd w 15 5)) (nI 18) (nI (WNd w 7 5)) h := by
    rw [ss_go hk (by decide), if_neg (by decide), if_neg (by decide), if_neg (by decide), if_neg (by decide), if_neg (by decide), if_pos (by decide)]
    unfold f_Model_shippedStep_173
    rw [if_neg (by decide), if_neg (by decide), if_pos (by decide), if_pos (by decide), if_neg (by decide), if_neg (by decide)]
    unfold f_Model_immI
    rw [xhb_s]
  refine res_go L (by decide) hd (ev_18 w (fun _ => 0) R (fun _ => false)) st ?_ (ZE.add (L.s w) (immI_z w))
  unfold f_Model_reckon
  rw [if_pos (by decide)]
  all_goals rfl
theorem op_19 (P : Nat) {R : Nat → Nat → Int64} {h : mv_H} {w : Int64} (L : RLs R h) (hk : sOv w.toInt32 = nI 19) (hd : dcV rS.1 w = nI 19) : SSx P w h (stF rS w R).1 (stF rS w R).2 := by
  have st : f_Model_shippedStep P h w.toInt32 = f_Model_shippedStep_288 P (mv_i h 70 6) 0 (w.toInt32 >>> ((20 : Int32) &&& 31)) (mv_a h 72 (WNd w 15 5)) (nI 19) (nI (WNd w 7 5)) h := by
    rw [ss_go hk (by decide), if_neg (by decide), if_neg (by decide), if_neg (by decide), if_neg (by decide), if_neg (by decide), if_pos (by decide)]
    unfold f_Model_shippedStep_173
    rw [if_neg (by decide), if_neg (by decide), if_pos (by decide), if_pos (by decide), if_neg (by decide), if_neg (by decide)]
    unfold f_Model_immI
    rw [xhb_s]
  refine res_go L (by decide) hd (ev_19 w (fun _ => 0) R (fun _ => false)) st ?_ (slt_z (L.s w) (immI_z w))
  unfold f_Model_reckon
  rw [if_neg (by decide), if_pos (by decide)]
  exact r100 _ _ h
theorem op_20 (P : Nat) {R : Nat → Nat → Int64} {h : mv_H} {w : Int64} (L : RLs R h) (hk : sOv w.toInt32 = nI 20) (hd : dcV rS.1 w = nI 20) : SSx P w h (stF rS w R).1 (stF rS w R).2 := by
  have st : f_Model_shippedStep P h w.toInt32 = f_Model_shippedStep_288 P (mv_i h 70 6) 0 (w.toInt32 >>> ((20 : Int32) &&& 31)) (mv_a h 72 (WNd w 15 5)) (nI 20) (nI (WNd w 7 5)) h := by
    rw [ss_go hk (by decide), if_neg (by decide), if_neg (by decide), if_neg (by decide), if_neg (by decide), if_neg (by decide), if_pos (by decide)]
    unfold f_Model_shippedStep_173
    rw [if_neg (by decide), if_neg (by decide), if_pos (by decide), if_pos (by decide), if_neg (by decide), if_neg (by decide)]
    unfold f_Model_immI
    rw [xhb_s]
  refine res_go L (by decide) hd (ev_20 w (fun _ => 0) R (fun _ => false)) st ?_ (ltu_z (L.s w) (immI_z w))
  unfold f_Model_reckon
  rw [if_neg (by decide), if_neg (by decide), if_pos (by decide)]
  exact r111 _ _ h
theorem op_21 (P : Nat) {R : Nat → Nat → Int64} {h : mv_H} {w : Int64} (L : RLs R h) (hk : sOv w.toInt32 = nI 21) (hd : dcV rS.1 w = nI 21) : SSx P w h (stF rS w R).1 (stF rS w R).2 := by
  have st : f_Model_shippedStep P h w.toInt32 = f_Model_shippedStep_288 P (mv_i h 70 6) 0 (w.toInt32 >>> ((20 : Int32) &&& 31)) (mv_a h 72 (WNd w 15 5)) (nI 21) (nI (WNd w 7 5)) h := by
    rw [ss_go hk (by decide), if_neg (by decide), if_neg (by decide), if_neg (by decide), if_neg (by decide), if_neg (by decide), if_pos (by decide)]
    unfold f_Model_shippedStep_173
    rw [if_neg (by decide), if_neg (by decide), if_pos (by decide), if_pos (by decide), if_neg (by decide), if_neg (by decide)]
    unfold f_Model_immI
    rw [xhb_s]
  refine res_go L (by decide) hd (ev_21 w (fun _ => 0) R (fun _ => false)) st ?_ (ZE.xor (L.s w) (immI_z w))
  unfold f_Model_reckon
  rw [if_neg (by decide), if_neg (by decide), if_neg (by decide), if_pos (by decide)]
  all_goals rfl
theorem op_22 (P : Nat) {R : Nat → Nat → Int64} {h : mv_H} {w : Int64} (L : RLs R h) (hk : sOv w.toInt32 = nI 22) (hd : dcV rS.1 w = nI 22) : SSx P w h (stF rS w R).1 (stF rS w R).2 := by
  have st : f_Model_shippedStep P h w.toInt32 = f_Model_shippedStep_288 P (mv_i h 70 6) 0 (w.toInt32 >>> ((20 : Int32) &&& 31)) (mv_a h 72 (WNd w 15 5)) (nI 22) (nI (WNd w 7 5)) h := by
    rw [ss_go hk (by decide), if_neg (by decide), if_neg (by decide), if_neg (by decide), if_neg (by decide), if_neg (by decide), if_pos (by decide)]
    unfold f_Model_shippedStep_173
    rw [if_neg (by decide), if_neg (by decide), if_pos (by decide), if_pos (by decide), if_neg (by decide), if_neg (by decide)]
    unfold f_Model_immI
    rw [xhb_s]
  refine res_go L (by decide) hd (ev_22 w (fun _ => 0) R (fun _ => false)) st ?_ (ZE.or (L.s w) (immI_z w))
  unfold f_Model_reckon
  rw [if_neg (by decide), if_neg (by decide), if_neg (by decide), if_neg (by decide), if_pos (by decide)]
  all_goals rfl
theorem op_23 (P : Nat) {R : Nat → Nat → Int64} {h : mv_H} {w : Int64} (L : RLs R h) (hk : sOv w.toInt32 = nI 23) (hd : dcV rS.1 w = nI 23) : SSx P w h (stF rS w R).1 (stF rS w R).2 := by
  have st : f_Model_shippedStep P h w.toInt32 = f_Model_shippedStep_288 P (mv_i h 70 6) 0 (w.toInt32 >>> ((20 : Int32) &&& 31)) (mv_a h 72 (WNd w 15 5)) (nI 23) (nI (WNd w 7 5)) h := by
    rw [ss_go hk (by decide), if_neg (by decide), if_neg (by decide), if_neg (by decide), if_neg (by decide), if_neg (by decide), if_pos (by decide)]
    unfold f_Model_shippedStep_173
    rw [if_neg (by decide), if_neg (by decide), if_pos (by decide), if_pos (by decide), if_neg (by decide), if_neg (by decide)]
    unfold f_Model_immI
    rw [xhb_s]
  refine res_go L (by decide) hd (ev_23 w (fun _ => 0) R (fun _ => false)) st ?_ (ZE.and (L.s w) (immI_z w))
  unfold f_Model_reckon
  rw [if_neg (by decide), if_neg (by decide), if_neg (by decide), if_neg (by decide), if_neg (by decide), if_pos (by decide)]
  all_goals rfl
theorem op_24 (P : Nat) {R : Nat → Nat → Int64} {h : mv_H} {w : Int64} (L : RLs R h) (hk : sOv w.toInt32 = nI 24) (hd : dcV rS.1 w = nI 24) : SSx P w h (stF rS w R).1 (stF rS w R).2 := by
  have st : f_Model_shippedStep P h w.toInt32 = f_Model_shippedStep_288 P (mv_i h 70 6) 0 (nI (WNd w 20 5)) (mv_a h 72 (WNd w 15 5)) (nI 24) (nI (WNd w 7 5)) h := by
    rw [ss_go hk (by decide), if_neg (by decide), if_neg (by decide), if_neg (by decide), if_neg (by decide), if_neg (by decide), if_pos (by decide)]
    unfold f_Model_shippedStep_173
    rw [if_neg (by decide), if_neg (by decide), if_pos (by decide), if_pos (by decide), if_neg (by decide), if_pos (by decide), if_neg (by decide), pie_24_20, xhb_s]
  refine res_go L (by decide) hd (ev_24 w (fun _ => 0) R (fun _ => false)) st ?_ (shl_z (L.s w) (amt_f w))
  unfold f_Model_reckon
  rw [if_neg (by decide), if_neg (by decide), if_neg (by decide), if_neg (by decide), if_neg (by decide), if_neg (by decide), if_pos (by decide)]
  all_goals rfl
theorem op_25 (P : Nat) {R : Nat → Nat → Int64} {h : mv_H} {w : Int64} (L : RLs R h) (hk : sOv w.toInt32 = nI 25) (hd : dcV rS.1 w = nI 25) : SSx P w h (stF rS w R).1 (stF rS w R).2 := by
  have st : f_Model_shippedStep P h w.toInt32 = f_Model_shippedStep_288 P (mv_i h 70 6) 0 (nI (WNd w 20 5)) (mv_a h 72 (WNd w 15 5)) (nI 25) (nI (WNd w 7 5)) h := by
    rw [ss_go hk (by decide), if_neg (by decide), if_neg (by decide), if_neg (by decide), if_neg (by decide), if_neg (by decide), if_pos (by decide)]
    unfold f_Model_shippedStep_173
    rw [if_neg (by decide), if_neg (by decide), if_pos (by decide), if_pos (by decide), if_neg (by decide), if_pos (by decide), if_neg (by decide), pie_24_20, xhb_s]
  refine res_go L (by decide) hd (ev_25 w (fun _ => 0) R (fun _ => false)) st ?_ (shr_z (L.s w) (amt_f w))
  unfold f_Model_reckon
  rw [if_neg (by decide), if_neg (by decide), if_neg (by decide), if_neg (by decide), if_neg (by decide), if_neg (by decide), if_neg (by decide), if_pos (by decide)]
  all_goals rfl
theorem op_26 (P : Nat) {R : Nat → Nat → Int64} {h : mv_H} {w : Int64} (L : RLs R h) (hk : sOv w.toInt32 = nI 26) (hd : dcV rS.1 w = nI 26) : SSx P w h (stF rS w R).1 (stF rS w R).2 := by
  have st : f_Model_shippedStep P h w.toInt32 = f_Model_shippedStep_288 P (mv_i h 70 6) 0 (nI (WNd w 20 5)) (mv_a h 72 (WNd w 15 5)) (nI 26) (nI (WNd w 7 5)) h := by
    rw [ss_go hk (by decide), if_neg (by decide), if_neg (by decide), if_neg (by decide), if_neg (by decide), if_neg (by decide), if_pos (by decide)]
    unfold f_Model_shippedStep_173
    rw [if_neg (by decide), if_neg (by decide), if_pos (by decide), if_pos (by decide), if_neg (by decide), if_pos (by decide), if_neg (by decide), pie_24_20, xhb_s]
  refine res_go L (by decide) hd (ev_26 w (fun _ => 0) R (fun _ => false)) st ?_ (sra_z (L.s w) (amt_f w))
  unfold f_Model_reckon
  rw [if_neg (by decide), if_neg (by decide), if_neg (by decide), if_neg (by decide), if_neg (by decide), if_neg (by decide), if_neg (by decide), if_neg (by decide), if_pos (by decide)]
  all_goals rfl
theorem op_27 (P : Nat) {R : Nat → Nat → Int64} {h : mv_H} {w : Int64} (L : RLs R h) (hk : sOv w.toInt32 = nI 27) (hd : dcV rS.1 w = nI 27) : SSx P w h (stF rS w R).1 (stF rS w R).2 := by
  have st : f_Model_shippedStep P h w.toInt32 = f_Model_shippedStep_288 P (mv_i h 70 6) 0 (mv_a h 72 (WNd w 20 5)) (mv_a h 72 (WNd w 15 5)) (nI 27) (nI (WNd w 7 5)) h := by
    rw [ss_go hk (by decide), if_neg (by decide), if_neg (by decide), if_neg (by decide), if_neg (by decide), if_neg (by decide), if_pos (by decide)]
    unfold f_Model_shippedStep_173
    rw [if_neg (by decide), if_neg (by decide), if_pos (by decide), if_pos (by decide), if_neg (by decide), if_pos (by decide), if_pos (by decide)]
  refine res_go L (by decide) hd (ev_27 w (fun _ => 0) R (fun _ => false)) st ?_ (ZE.add (L.s w) (L.t w))
  unfold f_Model_reckon
  rw [if_neg (by decide), if_neg (by decide), if_neg (by decide), if_neg (by decide), if_neg (by decide), if_neg (by decide), if_neg (by decide), if_neg (by decide), if_neg (by decide), if_pos (by decide)]
  all_goals rfl
theorem op_28 (P : Nat) {R : Nat → Nat → Int64} {h : mv_H} {w : Int64} (L : RLs R h) (hk : sOv w.toInt32 = nI 28) (hd : dcV rS.1 w = nI 28) : SSx P w h (stF rS w R).1 (stF rS w R).2 := by
  have st : f_Model_shippedStep P h w.toInt32 = f_Model_shippedStep_288 P (mv_i h 70 6) 0 (mv_a h 72 (WNd w 20 5)) (mv_a h 72 (WNd w 15 5)) (nI 28) (nI (WNd w 7 5)) h := by
    rw [ss_go hk (by decide), if_neg (by decide), if_neg (by decide), if_neg (by decide), if_neg (by decide), if_neg (by decide), if_pos (by decide)]
    unfold f_Model_shippedStep_173
    rw [if_neg (by decide), if_neg (by decide), if_pos (by decide), if_pos (by decide), if_neg (by decide), if_pos (by decide), if_pos (by decide)]
  refine res_go L (by decide) hd (ev_28 w (fun _ => 0) R (fun _ => false)) st ?_ (ZE.sub (L.s w) (L.t w))
  unfold f_Model_reckon
  rw [if_neg (by decide), if_neg (by decide), if_neg (by decide), if_neg (by decide), if_neg (by decide), if_neg (by decide), if_neg (by decide), if_neg (by decide), if_neg (by decide), if_neg (by decide), if_pos (by decide)]
  all_goals rfl
theorem op_29 (P : Nat) {R : Nat → Nat → Int64} {h : mv_H} {w : Int64} (L : RLs R h) (hk : sOv w.toInt32 = nI 29) (hd : dcV rS.1 w = nI 29) : SSx P w h (stF rS w R).1 (stF rS w R).2 := by
  have st : f_Model_shippedStep P h w.toInt32 = f_Model_shippedStep_288 P (mv_i h 70 6) 0 (mv_a h 72 (WNd w 20 5)) (mv_a h 72 (WNd w 15 5)) (nI 29) (nI (WNd w 7 5)) h := by
    rw [ss_go hk (by decide), if_neg (by decide), if_neg (by decide), if_neg (by decide), if_neg (by decide), if_neg (by decide), if_pos (by decide)]
    unfold f_Model_shippedStep_173
    rw [if_neg (by decide), if_neg (by decide), if_pos (by decide), if_pos (by decide), if_neg (by decide), if_pos (by decide), if_pos (by decide)]
  refine res_go L (by decide) hd (ev_29 w (fun _ => 0) R (fun _ => false)) st ?_ (shl_z (L.s w) (amt_r (L.t w)))
  unfold f_Model_reckon
  rw [if_neg (by decide), if_neg (by decide), if_neg (by decide), if_neg (by decide), if_neg (by decide), if_neg (by decide), if_neg (by decide), if_neg (by decide), if_neg (by decide), if_neg (by decide), if_neg (by decide), if_pos (by decide)]
  all_goals rfl
theorem op_30 (P : Nat) {R : Nat → Nat → Int64} {h : mv_H} {w : Int64} (L : RLs R h) (hk : sOv w.toInt32 = nI 30) (hd : dcV rS.1 w = nI 30) : SSx P w h (stF rS w R).1 (stF rS w R).2 := by
  have st : f_Model_shippedStep P h w.toInt32 = f_Model_shippedStep_288 P (mv_i h 70 6) 0 (mv_a h 72 (WNd w 20 5)) (mv_a h 72 (WNd w 15 5)) (nI 30) (nI (WNd w 7 5)) h := by
    rw [ss_go hk (by decide), if_neg (by decide), if_neg (by decide), if_neg (by decide), if_neg (by decide), if_neg (by decide), if_pos (by decide)]
    unfold f_Model_shippedStep_173
    rw [if_neg (by decide), if_neg (by decide), if_pos (by decide), if_pos (by decide), if_neg (by decide), if_pos (by decide), if_pos (by decide)]
  refine res_go L (by decide) hd (ev_30 w (fun _ => 0) R (fun _ => false)) st ?_ (slt_z (L.s w) (L.t w))
  unfold f_Model_reckon
  rw [if_neg (by decide), if_neg (by decide), if_neg (by decide), if_neg (by decide), if_neg (by decide), if_neg (by decide), if_neg (by decide), if_neg (by decide), if_neg (by decide), if_neg (by decide), if_neg (by decide), if_neg (by decide), if_pos (by decide)]
  exact r100 _ _ h
theorem op_31 (P : Nat) {R : Nat → Nat → Int64} {h : mv_H} {w : Int64} (L : RLs R h) (hk : sOv w.toInt32 = nI 31) (hd : dcV rS.1 w = nI 31) : SSx P w h (stF rS w R).1 (stF rS w R).2 := by
  have st : f_Model_shippedStep P h w.toInt32 = f_Model_shippedStep_288 P (mv_i h 70 6) 0 (mv_a h 72 (WNd w 20 5)) (mv_a h 72 (WNd w 15 5)) (nI 31) (nI (WNd w 7 5)) h := by
    rw [ss_go hk (by decide), if_neg (by decide), if_neg (by decide), if_neg (by decide), if_neg (by decide), if_neg (by decide), if_pos (by decide)]
    unfold f_Model_shippedStep_173
    rw [if_neg (by decide), if_neg (by decide), if_pos (by decide), if_pos (by decide), if_neg (by decide), if_pos (by decide), if_pos (by decide)]
  refine res_go L (by decide) hd (ev_31 w (fun _ => 0) R (fun _ => false)) st ?_ (ltu_z (L.s w) (L.t w))
  unfold f_Model_reckon
  rw [if_neg (by decide), if_neg (by decide), if_neg (by decide), if_neg (by decide), if_neg (by decide), if_neg (by decide), if_neg (by decide), if_neg (by decide), if_neg (by decide), if_neg (by decide), if_neg (by decide), if_neg (by decide), if_neg (by decide), if_pos (by decide)]
  exact r111 _ _ h
theorem op_32 (P : Nat) {R : Nat → Nat → Int64} {h : mv_H} {w : Int64} (L : RLs R h) (hk : sOv w.toInt32 = nI 32) (hd : dcV rS.1 w = nI 32) : SSx P w h (stF rS w R).1 (stF rS w R).2 := by
  have st : f_Model_shippedStep P h w.toInt32 = f_Model_shippedStep_288 P (mv_i h 70 6) 0 (mv_a h 72 (WNd w 20 5)) (mv_a h 72 (WNd w 15 5)) (nI 32) (nI (WNd w 7 5)) h := by
    rw [ss_go hk (by decide), if_neg (by decide), if_neg (by decide), if_neg (by decide), if_neg (by decide), if_neg (by decide), if_pos (by decide)]
    unfold f_Model_shippedStep_173
    rw [if_neg (by decide), if_neg (by decide), if_pos (by decide), if_pos (by decide), if_neg (by decide), if_pos (by decide), if_pos (by decide)]
  refine res_go L (by decide) hd (ev_32 w (fun _ => 0) R (fun _ => false)) st ?_ (ZE.xor (L.s w) (L.t w))
  unfold f_Model_reckon
  rw [if_neg (by decide), if_neg (by decide), if_neg (by decide), if_neg (by decide), if_neg (by decide), if_neg (by decide), if_neg (by decide), if_neg (by decide), if_neg (by decide), if_neg (by decide), if_neg (by decide), if_neg (by decide), if_neg (by decide), if_neg (by decide), if_pos (by decide)]
  all_goals rfl
theorem op_33 (P : Nat) {R : Nat → Nat → Int64} {h : mv_H} {w : Int64} (L : RLs R h) (hk : sOv w.toInt32 = nI 33) (hd : dcV rS.1 w = nI 33) : SSx P w h (stF rS w R).1 (stF rS w R).2 := by
  have st : f_Model_shippedStep P h w.toInt32 = f_Model_shippedStep_288 P (mv_i h 70 6) 0 (mv_a h 72 (WNd w 20 5)) (mv_a h 72 (WNd w 15 5)) (nI 33) (nI (WNd w 7 5)) h := by
    rw [ss_go hk (by decide), if_neg (by decide), if_neg (by decide), if_neg (by decide), if_neg (by decide), if_neg (by decide), if_pos (by decide)]
    unfold f_Model_shippedStep_173
    rw [if_neg (by decide), if_neg (by decide), if_pos (by decide), if_pos (by decide), if_neg (by decide), if_pos (by decide), if_pos (by decide)]
  refine res_go L (by decide) hd (ev_33 w (fun _ => 0) R (fun _ => false)) st ?_ (shr_z (L.s w) (amt_r (L.t w)))
  unfold f_Model_reckon
  rw [if_neg (by decide), if_neg (by decide), if_neg (by decide), if_neg (by decide), if_neg (by decide), if_neg (by decide), if_neg (by decide), if_neg (by decide), if_neg (by decide), if_neg (by decide), if_neg (by decide), if_neg (by decide), if_neg (by decide), if_neg (by decide), if_neg (by decide), if_pos (by decide)]
  all_goals rfl
theorem op_34 (P : Nat) {R : Nat → Nat → Int64} {h : mv_H} {w : Int64} (L : RLs R h) (hk : sOv w.toInt32 = nI 34) (hd : dcV rS.1 w = nI 34) : SSx P w h (stF rS w R).1 (stF rS w R).2 := by
  have st : f_Model_shippedStep P h w.toInt32 = f_Model_shippedStep_288 P (mv_i h 70 6) 0 (mv_a h 72 (WNd w 20 5)) (mv_a h 72 (WNd w 15 5)) (nI 34) (nI (WNd w 7 5)) h := by
    rw [ss_go hk (by decide), if_neg (by decide), if_neg (by decide), if_neg (by decide), if_neg (by decide), if_neg (by decide), if_pos (by decide)]
    unfold f_Model_shippedStep_173
    rw [if_neg (by decide), if_neg (by decide), if_pos (by decide), if_pos (by decide), if_neg (by decide), if_pos (by decide), if_pos (by decide)]
  refine res_go L (by decide) hd (ev_34 w (fun _ => 0) R (fun _ => false)) st ?_ (sra_z (L.s w) (amt_r (L.t w)))
  unfold f_Model_reckon
  rw [if_neg (by decide), if_neg (by decide), if_neg (by decide), if_neg (by decide), if_neg (by decide), if_neg (by decide), if_neg (by decide), if_neg (by decide), if_neg (by decide), if_neg (by decide), if_neg (by decide), if_neg (by decide), if_neg (by decide), if_neg (by decide), if_neg (by decide), if_neg (by decide), if_pos (by decide)]
  all_goals rfl
theorem op_35 (P : Nat) {R : Nat → Nat → Int64} {h : mv_H} {w : Int64} (L : RLs R h) (hk : sOv w.toInt32 = nI 35) (hd : dcV rS.1 w = nI 35) : SSx P w h (stF rS w R).1 (stF rS w R).2 := by
  have st : f_Model_shippedStep P h w.toInt32 = f_Model_shippedStep_288 P (mv_i h 70 6) 0 (mv_a h 72 (WNd w 20 5)) (mv_a h 72 (WNd w 15 5)) (nI 35) (nI (WNd w 7 5)) h := by
    rw [ss_go hk (by decide), if_neg (by decide), if_neg (by decide), if_neg (by decide), if_neg (by decide), if_neg (by decide), if_pos (by decide)]
    unfold f_Model_shippedStep_173
    rw [if_neg (by decide), if_neg (by decide), if_pos (by decide), if_pos (by decide), if_neg (by decide), if_pos (by decide), if_pos (by decide)]
  refine res_go L (by decide) hd (ev_35 w (fun _ => 0) R (fun _ => false)) st ?_ (ZE.or (L.s w) (L.t w))
  unfold f_Model_reckon
  rw [if_neg (by decide), if_neg (by decide), if_neg (by decide), if_neg (by decide), if_neg (by decide), if_neg (by decide), if_neg (by decide), if_neg (by decide), if_neg (by decide), if_neg (by decide), if_neg (by decide), if_neg (by decide), if_neg (by decide), if_neg (by decide), if_neg (by decide), if_neg (by decide), if_neg (by decide), if_pos (by decide)]
  all_goals rfl
theorem op_36 (P : Nat) {R : Nat → Nat → Int64} {h : mv_H} {w : Int64} (L : RLs R h) (hk : sOv w.toInt32 = nI 36) (hd : dcV rS.1 w = nI 36) : SSx P w h (stF rS w R).1 (stF rS w R).2 := by
  have st : f_Model_shippedStep P h w.toInt32 = f_Model_shippedStep_288 P (mv_i h 70 6) 0 (mv_a h 72 (WNd w 20 5)) (mv_a h 72 (WNd w 15 5)) (nI 36) (nI (WNd w 7 5)) h := by
    rw [ss_go hk (by decide), if_neg (by decide), if_neg (by decide), if_neg (by decide), if_neg (by decide), if_neg (by decide), if_pos (by decide)]
    unfold f_Model_shippedStep_173
    rw [if_neg (by decide), if_neg (by decide), if_pos (by decide), if_pos (by decide), if_neg (by decide), if_pos (by decide), if_pos (by decide)]
  refine res_go L (by decide) hd (ev_36 w (fun _ => 0) R (fun _ => false)) st ?_ (ZE.and (L.s w) (L.t w))
  unfold f_Model_reckon
  rw [if_neg (by decide), if_neg (by decide), if_neg (by decide), if_neg (by decide), if_neg (by decide), if_neg (by decide), if_neg (by decide), if_neg (by decide), if_neg (by decide), if_neg (by decide), if_neg (by decide), if_neg (by decide), if_neg (by decide), if_neg (by decide), if_neg (by decide), if_neg (by decide), if_neg (by decide), if_neg (by decide), if_pos (by decide)]
  all_goals rfl
theorem op_40 (P : Nat) {R : Nat → Nat → Int64} {h : mv_H} {w : Int64} (L : RLs R h) (hk : sOv w.toInt32 = nI 40) (hd : dcV rS.1 w = nI 40) : SSx P w h (stF rS w R).1 (stF rS w R).2 := by
  have st : f_Model_shippedStep P h w.toInt32 = f_Model_shippedStep_288 P (mv_i h 70 6) 0 (mv_a h 72 (WNd w 20 5)) (mv_a h 72 (WNd w 15 5)) (nI 40) (nI (WNd w 7 5)) h := by
    rw [ss_go hk (by decide), if_neg (by decide), if_neg (by decide), if_neg (by decide), if_neg (by decide), if_neg (by decide), if_pos (by decide)]
    unfold f_Model_shippedStep_173
    rw [if_neg (by decide), if_neg (by decide), if_pos (by decide), if_pos (by decide), if_neg (by decide), if_pos (by decide), if_pos (by decide)]
  refine res_go L (by decide) hd (ev_40 w (fun _ => 0) R (fun _ => false)) st ?_ (ZE.mul (L.s w) (L.t w))
  unfold f_Model_reckon
  rw [if_neg (by decide), if_neg (by decide), if_neg (by decide), if_neg (by decide), if_neg (by decide), if_neg (by decide), if_neg (by decide), if_neg (by decide), if_neg (by decide), if_neg (by decide), if_neg (by decide), if_neg (by decide), if_neg (by decide), if_neg (by decide), if_neg (by decide), if_neg (by decide), if_neg (by decide), if_neg (by decide), if_neg (by decide)]
  unfold f_Model_multiply
  rw [if_pos (by decide), xhb_s]
theorem op_41 (P : Nat) {R : Nat → Nat → Int64} {h : mv_H} {w : Int64} (L : RLs R h) (hk : sOv w.toInt32 = nI 41) (hd : dcV rS.1 w = nI 41) : SSx P w h (stF rS w R).1 (stF rS w R).2 := by
  have st : f_Model_shippedStep P h w.toInt32 = f_Model_shippedStep_288 P (mv_i h 70 6) 0 (mv_a h 72 (WNd w 20 5)) (mv_a h 72 (WNd w 15 5)) (nI 41) (nI (WNd w 7 5)) h := by
    rw [ss_go hk (by decide), if_neg (by decide), if_neg (by decide), if_neg (by decide), if_neg (by decide), if_neg (by decide), if_pos (by decide)]
    unfold f_Model_shippedStep_173
    rw [if_neg (by decide), if_neg (by decide), if_pos (by decide), if_pos (by decide), if_neg (by decide), if_pos (by decide), if_pos (by decide)]
  refine res_go L (by decide) hd (ev_41 w (fun _ => 0) R (fun _ => false)) st ?_ (by rw [sx64 (L.s w), sx64 (L.t w), mul64]; exact hs_z _)
  unfold f_Model_reckon
  rw [if_neg (by decide), if_neg (by decide), if_neg (by decide), if_neg (by decide), if_neg (by decide), if_neg (by decide), if_neg (by decide), if_neg (by decide), if_neg (by decide), if_neg (by decide), if_neg (by decide), if_neg (by decide), if_neg (by decide), if_neg (by decide), if_neg (by decide), if_neg (by decide), if_neg (by decide), if_neg (by decide), if_neg (by decide)]
  unfold f_Model_multiply
  rw [if_neg (by decide), if_pos (by decide), xhb_s]
theorem op_42 (P : Nat) {R : Nat → Nat → Int64} {h : mv_H} {w : Int64} (L : RLs R h) (hk : sOv w.toInt32 = nI 42) (hd : dcV rS.1 w = nI 42) : SSx P w h (stF rS w R).1 (stF rS w R).2 := by
  have st : f_Model_shippedStep P h w.toInt32 = f_Model_shippedStep_288 P (mv_i h 70 6) 0 (mv_a h 72 (WNd w 20 5)) (mv_a h 72 (WNd w 15 5)) (nI 42) (nI (WNd w 7 5)) h := by
    rw [ss_go hk (by decide), if_neg (by decide), if_neg (by decide), if_neg (by decide), if_neg (by decide), if_neg (by decide), if_pos (by decide)]
    unfold f_Model_shippedStep_173
    rw [if_neg (by decide), if_neg (by decide), if_pos (by decide), if_pos (by decide), if_neg (by decide), if_pos (by decide), if_pos (by decide)]
  refine res_go L (by decide) hd (ev_42 w (fun _ => 0) R (fun _ => false)) st ?_ (by rw [sx64 (L.s w), mul64, ← (L.t w).x]; exact hs_z _)
  unfold f_Model_reckon
  rw [if_neg (by decide), if_neg (by decide), if_neg (by decide), if_neg (by decide), if_neg (by decide), if_neg (by decide), if_neg (by decide), if_neg (by decide), if_neg (by decide), if_neg (by decide), if_neg (by decide), if_neg (by decide), if_neg (by decide), if_neg (by decide), if_neg (by decide), if_neg (by decide), if_neg (by decide), if_neg (by decide), if_neg (by decide)]
  unfold f_Model_multiply
  rw [if_neg (by decide), if_neg (by decide), if_pos (by decide), xhb_s]
theorem op_43 (P : Nat) {R : Nat → Nat → Int64} {h : mv_H} {w : Int64} (L : RLs R h) (hk : sOv w.toInt32 = nI 43) (hd : dcV rS.1 w = nI 43) : SSx P w h (stF rS w R).1 (stF rS w R).2 := by
  have st : f_Model_shippedStep P h w.toInt32 = f_Model_shippedStep_288 P (mv_i h 70 6) 0 (mv_a h 72 (WNd w 20 5)) (mv_a h 72 (WNd w 15 5)) (nI 43) (nI (WNd w 7 5)) h := by
    rw [ss_go hk (by decide), if_neg (by decide), if_neg (by decide), if_neg (by decide), if_neg (by decide), if_neg (by decide), if_pos (by decide)]
    unfold f_Model_shippedStep_173
    rw [if_neg (by decide), if_neg (by decide), if_pos (by decide), if_pos (by decide), if_neg (by decide), if_pos (by decide), if_pos (by decide)]
  refine res_go L (by decide) hd (ev_43 w (fun _ => 0) R (fun _ => false)) st ?_ (by rw [mul64, ← (L.s w).x, ← (L.t w).x]; exact hi_z _)
  unfold f_Model_reckon
  rw [if_neg (by decide), if_neg (by decide), if_neg (by decide), if_neg (by decide), if_neg (by decide), if_neg (by decide), if_neg (by decide), if_neg (by decide), if_neg (by decide), if_neg (by decide), if_neg (by decide), if_neg (by decide), if_neg (by decide), if_neg (by decide), if_neg (by decide), if_neg (by decide), if_neg (by decide), if_neg (by decide), if_neg (by decide)]
  unfold f_Model_multiply
  rw [if_neg (by decide), if_neg (by decide), if_neg (by decide), if_pos (by decide), xhb_s]
theorem op_44 (P : Nat) {R : Nat → Nat → Int64} {h : mv_H} {w : Int64} (L : RLs R h) (hk : sOv w.toInt32 = nI 44) (hd : dcV rS.1 w = nI 44) : SSx P w h (stF rS w R).1 (stF rS w R).2 := by
  have st : f_Model_shippedStep P h w.toInt32 = f_Model_shippedStep_288 P (mv_i h 70 6) 0 (mv_a h 72 (WNd w 20 5)) (mv_a h 72 (WNd w 15 5)) (nI 44) (nI (WNd w 7 5)) h := by
    rw [ss_go hk (by decide), if_neg (by decide), if_neg (by decide), if_neg (by decide), if_neg (by decide), if_neg (by decide), if_pos (by decide)]
    unfold f_Model_shippedStep_173
    rw [if_neg (by decide), if_neg (by decide), if_pos (by decide), if_pos (by decide), if_neg (by decide), if_pos (by decide), if_pos (by decide)]
  refine res_go L (by decide) hd (ev_44 w (fun _ => 0) R (fun _ => false)) st ?_ (div_z (L.s w) (L.t w))
  unfold f_Model_reckon
  rw [if_neg (by decide), if_neg (by decide), if_neg (by decide), if_neg (by decide), if_neg (by decide), if_neg (by decide), if_neg (by decide), if_neg (by decide), if_neg (by decide), if_neg (by decide), if_neg (by decide), if_neg (by decide), if_neg (by decide), if_neg (by decide), if_neg (by decide), if_neg (by decide), if_neg (by decide), if_neg (by decide), if_neg (by decide)]
  unfold f_Model_multiply
  rw [if_neg (by decide), if_neg (by decide), if_neg (by decide), if_neg (by decide), if_pos (by decide)]
  by_cases c : (mv_a h 72 (WNd w 20 5)) = 0
  · rw [if_pos c, if_pos c, xhb_s]
  · rw [if_neg c, if_neg c]
    by_cases d : (mv_a h 72 (WNd w 20 5)) = -1
    · rw [if_pos d, if_pos d, xhb_s]
    · rw [if_neg d, if_neg d, xnzI_t c, cond_true, xhb_s]
theorem op_45 (P : Nat) {R : Nat → Nat → Int64} {h : mv_H} {w : Int64} (L : RLs R h) (hk : sOv w.toInt32 = nI 45) (hd : dcV rS.1 w = nI 45) : SSx P w h (stF rS w R).1 (stF rS w R).2 := by
  have st : f_Model_shippedStep P h w.toInt32 = f_Model_shippedStep_288 P (mv_i h 70 6) 0 (mv_a h 72 (WNd w 20 5)) (mv_a h 72 (WNd w 15 5)) (nI 45) (nI (WNd w 7 5)) h := by
    rw [ss_go hk (by decide), if_neg (by decide), if_neg (by decide), if_neg (by decide), if_neg (by decide), if_neg (by decide), if_pos (by decide)]
    unfold f_Model_shippedStep_173
    rw [if_neg (by decide), if_neg (by decide), if_pos (by decide), if_pos (by decide), if_neg (by decide), if_pos (by decide), if_pos (by decide)]
  refine res_go L (by decide) hd (ev_45 w (fun _ => 0) R (fun _ => false)) st ?_ (divu_z (L.s w) (L.t w))
  unfold f_Model_reckon
  rw [if_neg (by decide), if_neg (by decide), if_neg (by decide), if_neg (by decide), if_neg (by decide), if_neg (by decide), if_neg (by decide), if_neg (by decide), if_neg (by decide), if_neg (by decide), if_neg (by decide), if_neg (by decide), if_neg (by decide), if_neg (by decide), if_neg (by decide), if_neg (by decide), if_neg (by decide), if_neg (by decide), if_neg (by decide)]
  unfold f_Model_multiply
  rw [if_neg (by decide), if_neg (by decide), if_neg (by decide), if_neg (by decide), if_neg (by decide), if_pos (by decide)]
  by_cases c : (mv_a h 72 (WNd w 20 5)) = 0
  · rw [if_pos c, if_pos c, xhb_s]
  · rw [if_neg c, if_neg c]
    rw [(L.s w).x, (L.t w).x, xnzJ_t (fun q => c (ZE.inj2 (v := 0) (by rw [← q]; exact (L.t w)) rfl)), cond_true, xhb_s]
theorem op_46 (P : Nat) {R : Nat → Nat → Int64} {h : mv_H} {w : Int64} (L : RLs R h) (hk : sOv w.toInt32 = nI 46) (hd : dcV rS.1 w = nI 46) : SSx P w h (stF rS w R).1 (stF rS w R).2 := by
  have st : f_Model_shippedStep P h w.toInt32 = f_Model_shippedStep_288 P (mv_i h 70 6) 0 (mv_a h 72 (WNd w 20 5)) (mv_a h 72 (WNd w 15 5)) (nI 46) (nI (WNd w 7 5)) h := by
    rw [ss_go hk (by decide), if_neg (by decide), if_neg (by decide), if_neg (by decide), if_neg (by decide), if_neg (by decide), if_pos (by decide)]
    unfold f_Model_shippedStep_173
    rw [if_neg (by decide), if_neg (by decide), if_pos (by decide), if_pos (by decide), if_neg (by decide), if_pos (by decide), if_pos (by decide)]
  refine res_go L (by decide) hd (ev_46 w (fun _ => 0) R (fun _ => false)) st ?_ (rem_z (L.s w) (L.t w))
  unfold f_Model_reckon
  rw [if_neg (by decide), if_neg (by decide), if_neg (by decide), if_neg (by decide), if_neg (by decide), if_neg (by decide), if_neg (by decide), if_neg (by decide), if_neg (by decide), if_neg (by decide), if_neg (by decide), if_neg (by decide), if_neg (by decide), if_neg (by decide), if_neg (by decide), if_neg (by decide), if_neg (by decide), if_neg (by decide), if_neg (by decide)]
  unfold f_Model_multiply
  rw [if_neg (by decide), if_neg (by decide), if_neg (by decide), if_neg (by decide), if_neg (by decide), if_neg (by decide), if_pos (by decide)]
  by_cases c : (mv_a h 72 (WNd w 20 5)) = 0
  · rw [if_pos c, if_pos c, xhb_s]
  · rw [if_neg c, if_neg c]
    by_cases d : (mv_a h 72 (WNd w 20 5)) = -1
    · rw [if_pos d, if_pos d, xhb_s]
    · rw [if_neg d, if_neg d, xnzI_t c, cond_true, xhb_s]
theorem op_47 (P : Nat) {R : Nat → Nat → Int64} {h : mv_H} {w : Int64} (L : RLs R h) (hk : sOv w.toInt32 = nI 47) (hd : dcV rS.1 w = nI 47) : SSx P w h (stF rS w R).1 (stF rS w R).2 := by
  have st : f_Model_shippedStep P h w.toInt32 = f_Model_shippedStep_288 P (mv_i h 70 6) 0 (mv_a h 72 (WNd w 20 5)) (mv_a h 72 (WNd w 15 5)) (nI 47) (nI (WNd w 7 5)) h := by
    rw [ss_go hk (by decide), if_neg (by decide), if_neg (by decide), if_neg (by decide), if_neg (by decide), if_neg (by decide), if_pos (by decide)]
    unfold f_Model_shippedStep_173
    rw [if_neg (by decide), if_neg (by decide), if_pos (by decide), if_pos (by decide), if_neg (by decide), if_pos (by decide), if_pos (by decide)]
  refine res_go L (by decide) hd (ev_47 w (fun _ => 0) R (fun _ => false)) st ?_ (remu_z (L.s w) (L.t w))
  unfold f_Model_reckon
  rw [if_neg (by decide), if_neg (by decide), if_neg (by decide), if_neg (by decide), if_neg (by decide), if_neg (by decide), if_neg (by decide), if_neg (by decide), if_neg (by decide), if_neg (by decide), if_neg (by decide), if_neg (by decide), if_neg (by decide), if_neg (by decide), if_neg (by decide), if_neg (by decide), if_neg (by decide), if_neg (by decide), if_neg (by decide)]
  unfold f_Model_multiply
  rw [if_neg (by decide), if_neg (by decide), if_neg (by decide), if_neg (by decide), if_neg (by decide), if_neg (by decide), if_neg (by decide)]
  by_cases c : (mv_a h 72 (WNd w 20 5)) = 0
  · rw [if_pos c, if_pos c, xhb_s]
  · rw [if_neg c, if_neg c]
    rw [(L.s w).x, (L.t w).x, xnzJ_t (fun q => c (ZE.inj2 (v := 0) (by rw [← q]; exact (L.t w)) rfl)), cond_true, xhb_s]
