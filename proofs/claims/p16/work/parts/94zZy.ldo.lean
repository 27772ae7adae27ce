/-! the loads, op by op -/
section LDO
variable {P : Nat} {R : Nat → Nat → Int64} {h : mv_H} {w : Int64}
/-- where the load reads -/
abbrev adL (R : Nat → Nat → Int64) (w : Int64) : Int64 := u2 43 (nJ 32) (R 1 (gatV w (nJ 1015808)).toBitVec.toNat) (u1 310 (nJ 8204) (gatV w (nJ 4293918720)))
def adP (h : mv_H) (w : Int64) : Int32 := mv_a h 72 (WNd w 15 5) + (w.toInt32 >>> ((20 : Int32) &&& 31))
theorem ad_z (L : RLs R h) (w : Int64) : ZE (adL R w) (adP h w) := ZE.add (L.s w) (immI_z w)
/-- the place i further on -/
theorem ad_i {v : Int64} {p : Int32} (z : ZE v p) {i : Nat} (hi : i < 4) : (u2 43 (nJ 32) v (nJ i)).toBitVec.toNat = (p.toBitVec.toNat + i) % 4294967296 := by
  have a := ZE.add z (ZE.n (n := i) (by omega))
  rw [show (u2 43 (nJ 32) v (nJ i)).toBitVec.toNat = (p + nI i).toBitVec.toNat from a, Int32.toBitVec_add, BitVec.toNat_add, nI_tn (by omega)]
/-- a load that is not in m -/
theorem ld_no {k n : Nat} (hn : n ≤ 4) (h0 : 0 < n) (hk : sOv w.toInt32 = nI k) (k1 : 9 < k) (k2 : k < 15) (st : f_Model_load P h (nI k) w.toInt32 = f_Model_load_27 P (nI k) w.toInt32 (nI n) h) (L : RLs R h) (c : ¬ (adP h w).toBitVec.toNat + n ≤ 32768) : f_Model_shippedStep P h w.toInt32 = some (-3, h) := by
  have l1 : WNd w 15 5 < 32 := WNd_lt w 15 5
  rw [ss_go hk (by omega)]
  have e : ∀ m : Nat, m < 100 → ¬ k = m → ¬ nI k = nI m := fun m hm q z => q ((nIinj (by omega) (by omega)).mp z)
  rw [if_neg (show ¬ nI k = (38 : Int32) from e 38 (by decide) (by omega)), if_neg (show ¬ nI k = (39 : Int32) from e 39 (by decide) (by omega)), if_neg (show ¬ nI k = (2 : Int32) from e 2 (by decide) (by omega)), if_neg (show ¬ nI k = (3 : Int32) from e 3 (by decide) (by omega)), if_neg (show ¬ nI k < (4 : Int32) from fun q => by have := (nIlt (a := k) (b := 4) (by omega) (by omega)).mp q; omega), if_pos (show (9 : Int32) < nI k from (nIlt (a := 9) (b := k) (by omega) (by omega)).mpr k1)]
  unfold f_Model_shippedStep_173
  rw [if_neg (show ¬ nI k = (0 : Int32) from e 0 (by decide) (by omega)), if_neg (show ¬ nI k = (1 : Int32) from e 1 (by decide) (by omega)), if_neg (show ¬ (14 : Int32) < nI k from fun q => by have := (nIlt (a := 14) (b := k) (by omega) (by omega)).mp q; omega), st]
  unfold f_Model_load_27 f_Model_immI
  rw [pie_19_15, xhb_s, xvi_n l1 (by decide), cond_true, xhb_s, cln (by omega), in_m h _ hn h0, xhb_s, if_neg (show ¬ (mv_a h 72 (WNd w 15 5) + (w.toInt32 >>> ((20 : Int32) &&& 31))).toBitVec.toNat + n ≤ 32768 from c), if_pos rfl, xhb_s]
  rfl
theorem ld_ye {k n : Nat} (hn : n ≤ 4) (h0 : 0 < n) (hk : sOv w.toInt32 = nI k) (k1 : 9 < k) (k2 : k < 15) (st : f_Model_load P h (nI k) w.toInt32 = f_Model_load_27 P (nI k) w.toInt32 (nI n) h) (c : (adP h w).toBitVec.toNat + n ≤ 32768) : f_Model_shippedStep P h w.toInt32 = xhb (f_Model_load_68 P 200000 (nI k) w.toInt32 (adP h w) 0 (nI n - 1) h) fun u15 g14 => f_Model_shippedStep_294 P (mv_i h 70 6) u15 g14 := by
  have l1 : WNd w 15 5 < 32 := WNd_lt w 15 5
  rw [ss_go hk (by omega)]
  have e : ∀ m : Nat, m < 100 → ¬ k = m → ¬ nI k = nI m := fun m hm q z => q ((nIinj (by omega) (by omega)).mp z)
  rw [if_neg (show ¬ nI k = (38 : Int32) from e 38 (by decide) (by omega)), if_neg (show ¬ nI k = (39 : Int32) from e 39 (by decide) (by omega)), if_neg (show ¬ nI k = (2 : Int32) from e 2 (by decide) (by omega)), if_neg (show ¬ nI k = (3 : Int32) from e 3 (by decide) (by omega)), if_neg (show ¬ nI k < (4 : Int32) from fun q => by have := (nIlt (a := k) (b := 4) (by omega) (by omega)).mp q; omega), if_pos (show (9 : Int32) < nI k from (nIlt (a := 9) (b := k) (by omega) (by omega)).mpr k1)]
  unfold f_Model_shippedStep_173
  rw [if_neg (show ¬ nI k = (0 : Int32) from e 0 (by decide) (by omega)), if_neg (show ¬ nI k = (1 : Int32) from e 1 (by decide) (by omega)), if_neg (show ¬ (14 : Int32) < nI k from fun q => by have := (nIlt (a := 14) (b := k) (by omega) (by omega)).mp q; omega), st]
  unfold f_Model_load_27 f_Model_immI
  rw [pie_19_15, xhb_s, xvi_n l1 (by decide), cond_true, xhb_s, cln (by omega), in_m h _ hn h0, xhb_s, if_pos (show (mv_a h 72 (WNd w 15 5) + (w.toInt32 >>> ((20 : Int32) &&& 31))).toBitVec.toNat + n ≤ 32768 from c), if_neg (by decide)]
  rfl
/-- where the load's value is written -/
theorem ld_go {k : Nat} {V : Int64} {v' : Int32} {m : Nat} {l : Nat → Int64} (L : RLs R h) (hk4 : k < 48) (hd : dcV rS.1 w = nI k) (ev : rn (eW rS w) LSx 64 (stS k) [] (fun _ => 0, R, fun _ => false) = some (0, (l, wrT (eW rS w) 1 (gatV w (nJ 3968)).toBitVec.toNat V R, fun _ => false))) (st : f_Model_shippedStep P h w.toInt32 = xhb (f_Model_load_68 P 200000 (nI k) w.toInt32 (adP h w) 0 (nI m - 1) h) fun u15 g14 => f_Model_shippedStep_294 P (mv_i h 70 6) u15 g14) (e : f_Model_load_68 P 200000 (nI k) w.toInt32 (adP h w) 0 (nI m - 1) h = f_Model_load_136 P v' (nI (WNd w 7 5)) h) (hv : ZE V v') : SSx P w h (stF rS w R).1 (stF rS w R).2 := by
  rw [st_of hk4 hd ev]
  obtain ⟨h1, e1, L1, F1⟩ := L.xw (w := w) (WNd_lt w 7 5) hv P
  obtain ⟨h2, e2, L2, F2⟩ := ss_294 (P := P) (w := w) L1 (pc := mv_i h 70 6) (by rw [wr_1p]; exact L.1)
  refine ⟨h2, ?_, ?_, F1.tr F2⟩
  · rw [st, e]
    unfold f_Model_load_136
    rw [e1, xhv_s, xhb_s]
    exact e2
  · show RLs (if (0 : Int32) = 0 then gfT (eW rS w) 32 (frR rS) (l, wrT (eW rS w) 1 (gatV w (nJ 3968)).toBitVec.toNat V R, fun _ => false) else R) h2
    rw [if_pos rfl, gf_S, gat_3968]
    exact L2
theorem tr_go {k : Nat} {l : Nat → Int64} {R' : Nat → Nat → Int64} (L : RLs R h) (hk4 : k < 48) (hd : dcV rS.1 w = nI k) (ev : rn (eW rS w) LSx 64 (stS k) [] (fun _ => 0, R, fun _ => false) = some (-3, (l, R', fun _ => false))) (st : f_Model_shippedStep P h w.toInt32 = some (-3, h)) : SSx P w h (stF rS w R).1 (stF rS w R).2 := by
  rw [st_of hk4 hd ev]
  refine ⟨h, st, ?_, SFs.rf h⟩
  show RLs (if (-3 : Int32) = 0 then gfT (eW rS w) 32 (frR rS) (l, R', fun _ => false) else R) h
  rw [if_neg (by decide)]
  exact L
end LDO

theorem op_10 (P : Nat) {R : Nat → Nat → Int64} {h : mv_H} {w : Int64} (L : RLs R h) (hk : sOv w.toInt32 = nI 10) (hd : dcV rS.1 w = nI 10) : SSx P w h (stF rS w R).1 (stF rS w R).2 := by
  have st : f_Model_load P h (nI 10) w.toInt32 = f_Model_load_27 P (nI 10) w.toInt32 (nI 1) h := by
    unfold f_Model_load
    rw [if_pos (by decide)]
    rfl
  have z := ad_z L w
  have ev := ev_10 w (fun _ => 0) R (fun _ => false)
  have e0 : (adL R w).toBitVec.toNat = (adP h w).toBitVec.toNat := z
  have lp := n32_lt (adP h w)
  by_cases c : (adP h w).toBitVec.toNat + 1 ≤ 32768
  · have st2 := ld_ye (by decide) (by decide) hk (by decide) (by decide) st c
    rw [if_pos (show (adL R w).toBitVec.toNat < 32768 by rw [e0]; omega)] at ev
    obtain ⟨u, q1, q2⟩ := ld_1 (P := P) (w := w) (h := h) (p := adP h w) (k := nI 10) c
    rw [ld_e, if_pos (by decide)] at q1
    have m0 := L.2.2.2 (adP h w).toBitVec.toNat (by omega)
    refine ld_go L (by decide) hd ev st2 q1 ?_
    unfold ZE
    show (u1 310 (nJ 8200) (R 2 (adL R w).toBitVec.toNat)).toBitVec.toNat = _
    rw [i8_n, e0, sx_8 (by rw [m0]; omega), m0, q2]
    split <;> split <;> omega
  · have st2 := ld_no (by decide) (by decide) hk (by decide) (by decide) st L c
    rw [if_neg (show ¬ (adL R w).toBitVec.toNat < 32768 from fun q9 => by rw [e0] at q9; omega)] at ev
    exact tr_go L (by decide) hd ev st2
theorem op_13 (P : Nat) {R : Nat → Nat → Int64} {h : mv_H} {w : Int64} (L : RLs R h) (hk : sOv w.toInt32 = nI 13) (hd : dcV rS.1 w = nI 13) : SSx P w h (stF rS w R).1 (stF rS w R).2 := by
  have st : f_Model_load P h (nI 13) w.toInt32 = f_Model_load_27 P (nI 13) w.toInt32 (nI 1) h := by
    unfold f_Model_load
    rw [if_neg (by decide), if_pos (by decide)]
    rfl
  have z := ad_z L w
  have ev := ev_13 w (fun _ => 0) R (fun _ => false)
  have e0 : (adL R w).toBitVec.toNat = (adP h w).toBitVec.toNat := z
  have lp := n32_lt (adP h w)
  by_cases c : (adP h w).toBitVec.toNat + 1 ≤ 32768
  · have st2 := ld_ye (by decide) (by decide) hk (by decide) (by decide) st c
    rw [if_pos (show (adL R w).toBitVec.toNat < 32768 by rw [e0]; omega)] at ev
    obtain ⟨u, q1, q2⟩ := ld_1 (P := P) (w := w) (h := h) (p := adP h w) (k := nI 13) c
    rw [ld_e, if_neg (by decide), if_neg (by decide)] at q1
    have m0 := L.2.2.2 (adP h w).toBitVec.toNat (by omega)
    refine ld_go L (by decide) hd ev st2 q1 ?_
    unfold ZE
    rw [q2]
    show (R 2 (adL R w).toBitVec.toNat).toBitVec.toNat = _
    rw [e0]
    exact m0
  · have st2 := ld_no (by decide) (by decide) hk (by decide) (by decide) st L c
    rw [if_neg (show ¬ (adL R w).toBitVec.toNat < 32768 from fun q9 => by rw [e0] at q9; omega)] at ev
    exact tr_go L (by decide) hd ev st2
theorem op_11 (P : Nat) {R : Nat → Nat → Int64} {h : mv_H} {w : Int64} (L : RLs R h) (hk : sOv w.toInt32 = nI 11) (hd : dcV rS.1 w = nI 11) : SSx P w h (stF rS w R).1 (stF rS w R).2 := by
  have st : f_Model_load P h (nI 11) w.toInt32 = f_Model_load_27 P (nI 11) w.toInt32 (nI 2) h := by
    unfold f_Model_load
    rw [if_neg (by decide), if_neg (by decide), if_neg (by decide)]
    all_goals rfl
  have z := ad_z L w
  have ev := ev_11 w (fun _ => 0) R (fun _ => false)
  have e0 : (adL R w).toBitVec.toNat = (adP h w).toBitVec.toNat := z
  have lp := n32_lt (adP h w)
  have e1 := ad_i z (i := 1) (by decide)
  by_cases c : (adP h w).toBitVec.toNat + 2 ≤ 32768
  · have st2 := ld_ye (by decide) (by decide) hk (by decide) (by decide) st c
    rw [if_pos (show (u2 43 (nJ 32) (adL R w) (nJ 1)).toBitVec.toNat < 32768 by rw [e1]; omega), if_pos (show (adL R w).toBitVec.toNat < 32768 by rw [e0]; omega)] at ev
    obtain ⟨u, q1, q2⟩ := ld_2 (P := P) (w := w) (h := h) (p := adP h w) (k := nI 11) c
    rw [ld_e, if_neg (by decide), if_pos (by decide)] at q1
    have m0 := L.2.2.2 (adP h w).toBitVec.toNat (by omega)
    have m1 := L.2.2.2 ((adP h w).toBitVec.toNat + 1) (by omega)
    rw [Nat.mod_eq_of_lt (show (adP h w).toBitVec.toNat + 1 < 4294967296 by omega)] at e1
    refine ld_go L (by decide) hd ev st2 q1 ?_
    unfold ZE
    have j := u309 (k := 8) (by decide) (x := (R 2 (u2 43 (nJ 32) (adL R w) (nJ 1)).toBitVec.toNat)) (y := (R 2 (adL R w).toBitVec.toNat)) (by rw [e1, m1]; exact Nat.lt_of_lt_of_le (Nat.mod_lt _ (by decide)) (by decide)) (by rw [e0, m0]; exact Nat.mod_lt _ (by decide))
    rw [e1, e0, m1, m0, show (2 : Nat) ^ 8 = 256 from rfl] at j
    show (u1 310 (nJ 8208) (u2 309 (nJ 8) (R 2 (u2 43 (nJ 32) (adL R w) (nJ 1)).toBitVec.toNat) (R 2 (adL R w).toBitVec.toNat))).toBitVec.toNat = _
    rw [i16_n, e1, e0, sx_16 (by rw [j]; omega), j, q2]
    split <;> split <;> omega
  · have st2 := ld_no (by decide) (by decide) hk (by decide) (by decide) st L c
    by_cases d1 : (u2 43 (nJ 32) (adL R w) (nJ 1)).toBitVec.toNat < 32768
    · rw [if_pos d1] at ev
      rw [if_neg (show ¬ (adL R w).toBitVec.toNat < 32768 from fun q9 => by rw [e1] at d1; rw [e0] at q9; omega)] at ev
      exact tr_go L (by decide) hd ev st2
    · rw [if_neg d1] at ev
      exact tr_go L (by decide) hd ev st2
theorem op_14 (P : Nat) {R : Nat → Nat → Int64} {h : mv_H} {w : Int64} (L : RLs R h) (hk : sOv w.toInt32 = nI 14) (hd : dcV rS.1 w = nI 14) : SSx P w h (stF rS w R).1 (stF rS w R).2 := by
  have st : f_Model_load P h (nI 14) w.toInt32 = f_Model_load_27 P (nI 14) w.toInt32 (nI 2) h := by
    unfold f_Model_load
    rw [if_neg (by decide), if_neg (by decide), if_neg (by decide)]
    all_goals rfl
  have z := ad_z L w
  have ev := ev_14 w (fun _ => 0) R (fun _ => false)
  have e0 : (adL R w).toBitVec.toNat = (adP h w).toBitVec.toNat := z
  have lp := n32_lt (adP h w)
  have e1 := ad_i z (i := 1) (by decide)
  by_cases c : (adP h w).toBitVec.toNat + 2 ≤ 32768
  · have st2 := ld_ye (by decide) (by decide) hk (by decide) (by decide) st c
    rw [if_pos (show (u2 43 (nJ 32) (adL R w) (nJ 1)).toBitVec.toNat < 32768 by rw [e1]; omega), if_pos (show (adL R w).toBitVec.toNat < 32768 by rw [e0]; omega)] at ev
    obtain ⟨u, q1, q2⟩ := ld_2 (P := P) (w := w) (h := h) (p := adP h w) (k := nI 14) c
    rw [ld_e, if_neg (by decide), if_neg (by decide)] at q1
    have m0 := L.2.2.2 (adP h w).toBitVec.toNat (by omega)
    have m1 := L.2.2.2 ((adP h w).toBitVec.toNat + 1) (by omega)
    rw [Nat.mod_eq_of_lt (show (adP h w).toBitVec.toNat + 1 < 4294967296 by omega)] at e1
    refine ld_go L (by decide) hd ev st2 q1 ?_
    unfold ZE
    have j := u309 (k := 8) (by decide) (x := (R 2 (u2 43 (nJ 32) (adL R w) (nJ 1)).toBitVec.toNat)) (y := (R 2 (adL R w).toBitVec.toNat)) (by rw [e1, m1]; exact Nat.lt_of_lt_of_le (Nat.mod_lt _ (by decide)) (by decide)) (by rw [e0, m0]; exact Nat.mod_lt _ (by decide))
    rw [e1, e0, m1, m0, show (2 : Nat) ^ 8 = 256 from rfl] at j
    show (u2 309 (nJ 8) (R 2 (u2 43 (nJ 32) (adL R w) (nJ 1)).toBitVec.toNat) (R 2 (adL R w).toBitVec.toNat)).toBitVec.toNat = _
    rw [e1, e0, j, q2]
  · have st2 := ld_no (by decide) (by decide) hk (by decide) (by decide) st L c
    by_cases d1 : (u2 43 (nJ 32) (adL R w) (nJ 1)).toBitVec.toNat < 32768
    · rw [if_pos d1] at ev
      rw [if_neg (show ¬ (adL R w).toBitVec.toNat < 32768 from fun q9 => by rw [e1] at d1; rw [e0] at q9; omega)] at ev
      exact tr_go L (by decide) hd ev st2
    · rw [if_neg d1] at ev
      exact tr_go L (by decide) hd ev st2
theorem op_12 (P : Nat) {R : Nat → Nat → Int64} {h : mv_H} {w : Int64} (L : RLs R h) (hk : sOv w.toInt32 = nI 12) (hd : dcV rS.1 w = nI 12) : SSx P w h (stF rS w R).1 (stF rS w R).2 := by
  have st : f_Model_load P h (nI 12) w.toInt32 = f_Model_load_27 P (nI 12) w.toInt32 (nI 4) h := by
    unfold f_Model_load
    rw [if_neg (by decide), if_neg (by decide), if_pos (by decide)]
    all_goals rfl
  have z := ad_z L w
  have ev := ev_12 w (fun _ => 0) R (fun _ => false)
  have e0 : (adL R w).toBitVec.toNat = (adP h w).toBitVec.toNat := z
  have lp := n32_lt (adP h w)
  have e3 := ad_i z (i := 3) (by decide)
  have e2 := ad_i z (i := 2) (by decide)
  have e1 := ad_i z (i := 1) (by decide)
  by_cases c : (adP h w).toBitVec.toNat + 4 ≤ 32768
  · have st2 := ld_ye (by decide) (by decide) hk (by decide) (by decide) st c
    rw [if_pos (show (u2 43 (nJ 32) (adL R w) (nJ 3)).toBitVec.toNat < 32768 by rw [e3]; omega), if_pos (show (u2 43 (nJ 32) (adL R w) (nJ 2)).toBitVec.toNat < 32768 by rw [e2]; omega), if_pos (show (u2 43 (nJ 32) (adL R w) (nJ 1)).toBitVec.toNat < 32768 by rw [e1]; omega), if_pos (show (adL R w).toBitVec.toNat < 32768 by rw [e0]; omega)] at ev
    obtain ⟨u, q1, q2⟩ := ld_4 (P := P) (w := w) (h := h) (p := adP h w) (k := nI 12) c
    rw [ld_e, if_neg (by decide), if_neg (by decide)] at q1
    have m0 := L.2.2.2 (adP h w).toBitVec.toNat (by omega)
    have m3 := L.2.2.2 ((adP h w).toBitVec.toNat + 3) (by omega)
    rw [Nat.mod_eq_of_lt (show (adP h w).toBitVec.toNat + 3 < 4294967296 by omega)] at e3
    have m2 := L.2.2.2 ((adP h w).toBitVec.toNat + 2) (by omega)
    rw [Nat.mod_eq_of_lt (show (adP h w).toBitVec.toNat + 2 < 4294967296 by omega)] at e2
    have m1 := L.2.2.2 ((adP h w).toBitVec.toNat + 1) (by omega)
    rw [Nat.mod_eq_of_lt (show (adP h w).toBitVec.toNat + 1 < 4294967296 by omega)] at e1
    refine ld_go L (by decide) hd ev st2 q1 ?_
    unfold ZE
    have j1 := u309 (k := 8) (by decide) (x := (R 2 (u2 43 (nJ 32) (adL R w) (nJ 3)).toBitVec.toNat)) (y := (R 2 (u2 43 (nJ 32) (adL R w) (nJ 2)).toBitVec.toNat)) (by rw [e3, m3]; exact Nat.lt_of_lt_of_le (Nat.mod_lt _ (by decide)) (by decide)) (by rw [e2, m2]; exact Nat.mod_lt _ (by decide))
    rw [e3, e2, m3, m2, show (2 : Nat) ^ 8 = 256 from rfl] at j1
    have j2 := u309 (k := 8) (by decide) (x := (u2 309 (nJ 8) (R 2 (u2 43 (nJ 32) (adL R w) (nJ 3)).toBitVec.toNat) (R 2 (u2 43 (nJ 32) (adL R w) (nJ 2)).toBitVec.toNat))) (y := (R 2 (u2 43 (nJ 32) (adL R w) (nJ 1)).toBitVec.toNat)) (by rw [e3, e2, j1]; exact Nat.lt_of_lt_of_le (show _ < 65536 by omega) (by decide)) (by rw [e1, m1]; exact Nat.mod_lt _ (by decide))
    rw [e3, e2, e1, j1, m1, show (2 : Nat) ^ 8 = 256 from rfl] at j2
    have j3 := u309 (k := 8) (by decide) (x := (u2 309 (nJ 8) (u2 309 (nJ 8) (R 2 (u2 43 (nJ 32) (adL R w) (nJ 3)).toBitVec.toNat) (R 2 (u2 43 (nJ 32) (adL R w) (nJ 2)).toBitVec.toNat)) (R 2 (u2 43 (nJ 32) (adL R w) (nJ 1)).toBitVec.toNat))) (y := (R 2 (adL R w).toBitVec.toNat)) (by rw [e3, e2, e1, j2]; exact Nat.lt_of_lt_of_le (show _ < 16777216 by omega) (by decide)) (by rw [e0, m0]; exact Nat.mod_lt _ (by decide))
    rw [e3, e2, e1, e0, j2, m0, show (2 : Nat) ^ 8 = 256 from rfl] at j3
    show ((u2 309 (nJ 8) (u2 309 (nJ 8) (u2 309 (nJ 8) (R 2 (u2 43 (nJ 32) (adL R w) (nJ 3)).toBitVec.toNat) (R 2 (u2 43 (nJ 32) (adL R w) (nJ 2)).toBitVec.toNat)) (R 2 (u2 43 (nJ 32) (adL R w) (nJ 1)).toBitVec.toNat)) (R 2 (adL R w).toBitVec.toNat))).toBitVec.toNat = _
    rw [e3, e2, e1, e0, j3, q2]
  · have st2 := ld_no (by decide) (by decide) hk (by decide) (by decide) st L c
    by_cases d3 : (u2 43 (nJ 32) (adL R w) (nJ 3)).toBitVec.toNat < 32768
    · rw [if_pos d3] at ev
      by_cases d2 : (u2 43 (nJ 32) (adL R w) (nJ 2)).toBitVec.toNat < 32768
      · rw [if_pos d2] at ev
        by_cases d1 : (u2 43 (nJ 32) (adL R w) (nJ 1)).toBitVec.toNat < 32768
        · rw [if_pos d1] at ev
          rw [if_neg (show ¬ (adL R w).toBitVec.toNat < 32768 from fun q9 => by rw [e3] at d3; rw [e2] at d2; rw [e1] at d1; rw [e0] at q9; omega)] at ev
          exact tr_go L (by decide) hd ev st2
        · rw [if_neg d1] at ev
          exact tr_go L (by decide) hd ev st2
      · rw [if_neg d2] at ev
        exact tr_go L (by decide) hd ev st2
    · rw [if_neg d3] at ev
      exact tr_go L (by decide) hd ev st2
