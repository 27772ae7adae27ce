/-! lui, auipc, fence, ecall, ebreak; jumps -/
theorem and_hi (x : Int32) : (x &&& (-4096 : Int32)).toBitVec.toNat = x.toBitVec.toNat / 4096 * 4096 := by
  have e : (x &&& (-4096 : Int32)).toBitVec = (x.toBitVec >>> 12) <<< 12 := by
    rw [Int32.toBitVec_and]
    apply BitVec.eq_of_getLsbD_eq
    intro i hi
    have c : ∀ i : Fin 32, (-4096 : Int32).toBitVec.getLsbD i.val = decide (12 ≤ i.val) := by decide +kernel
    rw [BitVec.getLsbD_and, c ⟨i, hi⟩, BitVec.getLsbD_shiftLeft, BitVec.getLsbD_ushiftRight]
    by_cases z : 12 ≤ i
    · rw [decide_eq_true z, Bool.and_true, decide_eq_true hi, decide_eq_false (by omega), show 12 + (i - 12) = i by omega]
      rfl
    · rw [decide_eq_false z, Bool.and_false, decide_eq_true hi, decide_eq_true (show i < 12 by omega)]
      rfl
  rw [e, BitVec.toNat_shiftLeft, BitVec.toNat_ushiftRight, Nat.shiftLeft_eq, Nat.shiftRight_eq_div_pow]
  have l := n32_lt x
  rw [show (2 : Nat) ^ 12 = 4096 from rfl]
  omega
theorem lui_z (w : Int64) : ZE (u2 309 (nJ 12) (gatV w (nJ 4294963200)) (nJ 0)) (w.toInt32 &&& (-4096 : Int32)) := by
  have g := gat_4294963200 w
  have l : WNd w 12 20 < 1048576 := WNd_lt w 12 20
  unfold ZE
  rw [u309 (k := 12) (by decide) (by rw [g]; exact Nat.lt_of_lt_of_le l (by decide)) (by decide), g, and_hi, w32, show (nJ 0).toBitVec.toNat = 0 from rfl, show (2 : Nat) ^ 12 = 4096 from rfl]
  show w.toBitVec.toNat / 4096 % 1048576 * 4096 + 0 = _
  omega
section JMP
variable {R : Nat → Nat → Int64} {h : mv_H} {w : Int64}
theorem res_u {P k : Nat} {V : Int64} {v' : Int32} (L : RLs R h) (hk : k < 48) (hd : dcV rS.1 w = nI k) (ev : rn (eW rS w) LSx 64 (stS k) [] (fun _ => 0, R, fun _ => false) = some (0, (fun _ => 0, wrT (eW rS w) 1 (gatV w (nJ 3968)).toBitVec.toNat V R, fun _ => false))) (st : f_Model_shippedStep P h w.toInt32 = xhv (f_Model_set P h (nI (WNd w 7 5)) v') fun g4 => f_Model_shippedStep_294 P (mv_i h 70 6) 0 g4) (hv : ZE V v') : SSx P w h (stF rS w R).1 (stF rS w R).2 := by
  rw [st_of hk hd ev]
  obtain ⟨h', e, L', F⟩ := res_w (P := P) (w := w) L hv
  refine ⟨h', by rw [st]; exact e, ?_, F⟩
  show RLs (if (0 : Int32) = 0 then gfT (eW rS w) 32 (frR rS) (fun _ => 0, wrT (eW rS w) 1 (gatV w (nJ 3968)).toBitVec.toNat V R, fun _ => false) else R) h'
  rw [if_pos rfl, gf_S, gat_3968]
  exact L'
theorem op_0 (P : Nat) (L : RLs R h) (hk : sOv w.toInt32 = nI 0) (hd : dcV rS.1 w = nI 0) : SSx P w h (stF rS w R).1 (stF rS w R).2 := by
  refine res_u L (by decide) hd (ev_0 w (fun _ => 0) R (fun _ => false)) ?_ (v' := (w.toInt32 &&& (-4096 : Int32)) + 0) (by rw [Int32.add_zero]; exact lui_z w)
  rw [ss_go hk (by decide), if_neg (by decide), if_neg (by decide), if_neg (by decide), if_neg (by decide), if_pos (by decide)]
  unfold f_Model_shippedStep_173 f_Model_shippedStep_182 f_Model_shippedStep_203
  rw [if_pos (by decide), if_neg (by decide)]
theorem op_1 (P : Nat) (L : RLs R h) (hk : sOv w.toInt32 = nI 1) (hd : dcV rS.1 w = nI 1) : SSx P w h (stF rS w R).1 (stF rS w R).2 := by
  refine res_u L (by decide) hd (ev_1 w (fun _ => 0) R (fun _ => false)) ?_ (v' := (w.toInt32 &&& (-4096 : Int32)) + mv_i h 70 6) (by rw [Int32.add_comm]; exact ZE.add L.1 (lui_z w))
  rw [ss_go hk (by decide), if_neg (by decide), if_neg (by decide), if_neg (by decide), if_neg (by decide), if_pos (by decide)]
  unfold f_Model_shippedStep_173 f_Model_shippedStep_182 f_Model_shippedStep_203
  rw [if_neg (by decide), if_pos (by decide), if_pos (by decide)]
theorem op_37 (P : Nat) (L : RLs R h) (hk : sOv w.toInt32 = nI 37) (hd : dcV rS.1 w = nI 37) : SSx P w h (stF rS w R).1 (stF rS w R).2 := by
  rw [st_of (k := 37) (by decide) hd (ev_37 w (fun _ => 0) R (fun _ => false))]
  obtain ⟨h', e, L', F⟩ := ss_294 (P := P) (w := w) L L.1
  refine ⟨h', ?_, ?_, F⟩
  · rw [ss_go hk (by decide), if_neg (by decide), if_neg (by decide), if_neg (by decide), if_neg (by decide), if_neg (by decide), if_pos (by decide)]
    unfold f_Model_shippedStep_173
    rw [if_neg (by decide), if_neg (by decide), if_pos (by decide), if_pos (by decide), if_pos (by decide)]
    exact e
  · show RLs (if (0 : Int32) = 0 then gfT (eW rS w) 32 (frR rS) (fun _ => 0, R, fun _ => false) else R) h'
    rw [if_pos rfl, gf_S]
    exact L'
theorem op_38 (P : Nat) (L : RLs R h) (hk : sOv w.toInt32 = nI 38) (hd : dcV rS.1 w = nI 38) : SSx P w h (stF rS w R).1 (stF rS w R).2 := by
  rw [st_of (k := 38) (by decide) hd (ev_38 w (fun _ => 0) R (fun _ => false))]
  refine ⟨h, ?_, ?_, SFs.rf h⟩
  · rw [ss_go hk (by decide), if_pos (by decide)]
    rfl
  · show RLs (if (nJ 8).toInt32 = 0 then gfT (eW rS w) 32 (frR rS) (fun _ => 0, R, fun _ => false) else R) h
    rw [if_neg (by decide)]
    exact L
theorem op_39 (P : Nat) (L : RLs R h) (hk : sOv w.toInt32 = nI 39) (hd : dcV rS.1 w = nI 39) : SSx P w h (stF rS w R).1 (stF rS w R).2 := by
  rw [st_of (k := 39) (by decide) hd (ev_39 w (fun _ => 0) R (fun _ => false))]
  refine ⟨h, ?_, ?_, SFs.rf h⟩
  · rw [ss_go hk (by decide), if_neg (by decide), if_pos (by decide)]
    rfl
  · show RLs (if (nJ 3).toInt32 = 0 then gfT (eW rS w) 32 (frR rS) (fun _ => 0, R, fun _ => false) else R) h
    rw [if_neg (by decide)]
    exact L
/-- whether a place is one of an instruction -/
theorem al_c {v : Int64} {t : Int32} (z : ZE v t) : u2 129 (nJ 2) (u1 308 (nJ 512) v) (nJ 0) = 0 ↔ t.toBitVec.toNat % 4 = 0 := by
  rw [u2_v (by decide) (by decide) (tc_ne hZ _ _ (nI 2))]
  have p : (u1 308 (nJ 512) v).toBitVec.toNat = t.toBitVec.toNat % 4 := by
    rw [part_n (lo := 0) (wd := 2) (by decide) (by decide) (by decide +kernel) (by decide +kernel), show v.toBitVec.toNat = t.toBitVec.toNat from z]
    show t.toBitVec.toNat / 2 ^ 0 % 4 = _
    rw [Nat.pow_zero, Nat.div_one]
  by_cases c : t.toBitVec.toNat % 4 = 0
  · have e : u1 308 (nJ 512) v = nJ 0 := nJ_of (p.trans c)
    rw [decide_eq_true e]
    exact ⟨fun _ => c, fun _ => rfl⟩
  · have e : ¬ u1 308 (nJ 512) v = nJ 0 := fun q => c (by rw [← p, q]; rfl)
    rw [decide_eq_false e]
    exact ⟨fun q => absurd q (by decide), fun q => absurd q c⟩
theorem td4 (z : Int) : z.tdiv 4 = if 0 ≤ z then z / 4 else -(-z / 4) := by
  by_cases c : 0 ≤ z
  · rw [if_pos c, Int.tdiv_eq_ediv_of_nonneg c]
  · rw [if_neg c]
    have e : z.tdiv 4 = -((-z).tdiv 4) := by rw [Int.neg_tdiv, Int.neg_neg]
    rw [e, Int.tdiv_eq_ediv_of_nonneg (by omega)]
theorem al_r (t : Int32) : t - t / (4 : Int32) * (4 : Int32) = 0 ↔ t.toBitVec.toNat % 4 = 0 := by
  have a : -2147483648 ≤ t.toInt := Int32.le_toInt t
  have b : t.toInt < 2147483648 := Int32.toInt_lt t
  have q : (t / (4 : Int32)).toInt = t.toInt.tdiv 4 := by
    rw [Int32.toInt_div]
    show (t.toInt.tdiv 4).bmod 4294967296 = _
    rw [td4]
    exact Int.bmod_eq_of_le (by split <;> omega) (by split <;> omega)
  rw [td4] at q
  have c := BitVec.toInt_eq_toNat_cond t.toBitVec
  have ti : t.toBitVec.toInt = t.toInt := rfl
  have l := n32_lt t
  rw [ti] at c
  have hm : (t / (4 : Int32) * (4 : Int32)).toInt = (t / (4 : Int32)).toInt * 4 := by
    rw [Int32.toInt_mul]
    show ((t / (4 : Int32)).toInt * 4).bmod 4294967296 = _
    exact Int.bmod_eq_of_le (by split at q <;> omega) (by split at q <;> omega)
  have hs : (t - t / (4 : Int32) * (4 : Int32)).toInt = t.toInt - (t / (4 : Int32)).toInt * 4 := by
    rw [Int32.toInt_sub, hm]
    show (t.toInt - (t / (4 : Int32)).toInt * 4).bmod 4294967296 = _
    exact Int.bmod_eq_of_le (by split at q <;> omega) (by split at q <;> omega)
  rw [← Int32.toInt_inj, hs]
  show t.toInt - (t / (4 : Int32)).toInt * 4 = 0 ↔ _
  generalize (t / (4 : Int32)).toInt = y at q ⊢
  generalize t.toInt = x at a b c q ⊢
  generalize t.toBitVec.toNat = u at c l ⊢
  split at c <;> split at q <;> constructor <;> intro z <;> omega
theorem wr_cm {d : Nat} {u v : Int64} : wrT (eW rS w) 1 d v (wrT (eW rS w) 0 0 u R) = wrT (eW rS w) 0 0 u (wrT (eW rS w) 1 d v R) := by
  rw [wr_0, wr_0, wr_1, wr_1]
  by_cases c : d = 0
  · rw [if_pos c, if_pos c]
  · rw [if_neg c, if_neg c]
    funext a b
    by_cases y : a = 0 ∧ b = 0
    · show (if a = 1 ∧ b = d then _ else if a = 0 ∧ b = 0 then u &&& mkI (nI 32) else R a b) = if a = 0 ∧ b = 0 then u &&& mkI (nI 32) else _
      rw [if_pos y, if_pos y, if_neg (fun q => by omega)]
    · show (if a = 1 ∧ b = d then _ else if a = 0 ∧ b = 0 then u &&& mkI (nI 32) else R a b) = if a = 0 ∧ b = 0 then u &&& mkI (nI 32) else (if a = 1 ∧ b = d then v &&& mkI (nI 32) else R a b)
      rw [if_neg y, if_neg y]
/-- a jump that keeps where it came from -/
theorem jmp_go {P k : Nat} {V : Int64} {t : Int32} {l1 l2 : Nat → Int64} (L : RLs R h) (hk : k < 48) (hd : dcV rS.1 w = nI k) (ev : rn (eW rS w) LSx 64 (stS k) [] (fun _ => 0, R, fun _ => false) = some (if u2 129 (nJ 2) (u1 308 (nJ 512) V) (nJ 0) = 0 then (0, (l1, wrT (eW rS w) 0 0 V (wrT (eW rS w) 1 (gatV w (nJ 3968)).toBitVec.toNat (u2 43 (nJ 32) (R 0 0) (nJ 4)) R), updF (fun _ => false) 0)) else ((nJ 1).toInt32, (l2, R, fun _ => false)))) (st : f_Model_shippedStep P h w.toInt32 = f_Model_shippedStep_115 P (mv_i h 70 6) (nI (WNd w 7 5)) t h) (z : ZE V t) : SSx P w h (stF rS w R).1 (stF rS w R).2 := by
  have ac := al_c z
  have ar := al_r t
  unfold f_Model_shippedStep_115 f_Model_jump f_Model_shippedStep_134 at st
  by_cases c : t.toBitVec.toNat % 4 = 0
  · rw [if_pos (ac.mpr c)] at ev
    rw [st_of hk hd ev]
    rw [if_pos (ar.mpr c), xk_s, xhb_s, if_pos rfl] at st
    have L1 : RLs (wrT (eW rS w) 0 0 V R) (mv_si h 70 6 t) := L.pc z.keep
    obtain ⟨h2, e2, L2, F2⟩ := L1.xw (w := w) (WNd_lt w 7 5) (ZE.add L.1 (ZE.n (n := 4) (by decide))) P
    refine ⟨h2, ?_, ?_, (SFs.pc h t).tr F2⟩
    · rw [st]
      show (xhv (f_Model_set P (mv_si h 70 6 t) (nI (WNd w 7 5)) (mv_i h 70 6 + nI 4)) fun g18 => some ((0 : Int32), g18)) = _
      rw [e2, xhv_s]
    · show RLs (if (0 : Int32) = 0 then gfT (eW rS w) 32 (frR rS) (l1, wrT (eW rS w) 0 0 V (wrT (eW rS w) 1 (gatV w (nJ 3968)).toBitVec.toNat (u2 43 (nJ 32) (R 0 0) (nJ 4)) R), updF (fun _ => false) 0) else R) h2
      rw [if_pos rfl, gf_S, if_pos (show updF (fun _ => false) 0 0 = true from rfl), gat_3968]
      show RLs (wrT (eW rS w) 0 0 V (wrT (eW rS w) 1 (WNd w 7 5) (u2 43 (nJ 32) (R 0 0) (nJ 4)) R)) h2
      rw [← wr_cm]
      exact L2
  · rw [if_neg (fun q => c (ac.mp q))] at ev
    rw [st_of hk hd ev]
    rw [if_neg (fun q => c (ar.mp q)), xhb_s, if_neg (by decide)] at st
    refine ⟨h, st, ?_, SFs.rf h⟩
    show RLs (if (nJ 1).toInt32 = 0 then gfT (eW rS w) 32 (frR rS) (l2, R, fun _ => false) else R) h
    rw [if_neg (by decide)]
    exact L
end JMP
