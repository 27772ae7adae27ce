/-! stores -/
section STO
variable {P : Nat} {R : Nat → Nat → Int64} {h : mv_H} {w : Int64}
def byS (y : Int32) (i : Nat) : Int32 := vp_nar .byte (((((y).toUInt32 >>> ((((8 : Int32) * nI i)).toUInt32 &&& Int32.toUInt32 31)).toInt32)).toInt8.toInt32)
theorem byS_n (y : Int32) {i : Nat} (hi : i < 4) : (byS y i).toBitVec.toNat % 256 = y.toBitVec.toNat / 2 ^ (8 * i) % 256 := by
  have e : (8 : Int32) * nI i = nI (8 * i) := by
    have : ∀ k : Fin 4, (8 : Int32) * nI k.val = nI (8 * k.val) := by decide +kernel
    exact this ⟨i, hi⟩
  have u := us32 y (k := 8 * i) (by omega)
  unfold byS
  rw [e]
  generalize hx : ((y).toUInt32 >>> ((nI (8 * i)).toUInt32 &&& Int32.toUInt32 31)).toInt32 = x at u ⊢
  have n1 := i8_n x
  have n2 := i8_n (x.toInt8.toInt32)
  have n3 : (vp_nar .byte (x.toInt8.toInt32)).toBitVec.toNat = (x.toInt8.toInt32).toInt8.toInt32.toBitVec.toNat := rfl
  have n4 : x.toBitVec.toNat = y.toBitVec.toNat / 2 ^ (8 * i) := by rw [u, BitVec.toNat_ushiftRight, Nat.shiftRight_eq_div_pow]
  rw [n3, n2, n1, n4]
  generalize y.toBitVec.toNat / 2 ^ (8 * i) = z
  repeat' split
  all_goals omega
theorem sto_t {m n i : Nat} {p y : Int32} (hi : i < n) (hn : n ≤ 4) (hp : p.toBitVec.toNat + i < 32768) : f_Model_store_57 P (m + 1) (nI n) p y (nI i) h = f_Model_store_57 P m (nI n) p y (nI (i + 1)) (mv_sa h 73 (p.toBitVec.toNat + i) (byS y i)) := by
  show fF_Model_store_57 P (f_Model_store_57 P m) (nI n) p y (nI i) h = _
  unfold fF_Model_store_57
  rw [if_neg (show ¬ nI n ≤ nI i from fun q => by have := (nIle (by omega) (by omega)).mp q; omega), p_add hp, xvi_n hp (by decide), cond_true, cln (by omega), xk_s, nI1 (by omega)]
  rfl
theorem sto_e {m n : Nat} {p y : Int32} : f_Model_store_57 P (m + 1) (nI n) p y (nI n) h = some (0, h) := by
  show fF_Model_store_57 P (f_Model_store_57 P m) (nI n) p y (nI n) h = _
  unfold fF_Model_store_57
  rw [if_pos (Int32.le_refl _)]
theorem wr_2o {i a b : Nat} {v : Int64} (ha : ¬ a = 2) : wrT (eW rS w) 2 i v R a b = R a b := by
  rw [wr_2]
  exact if_neg (fun q => ha q.1)
abbrev asL (R : Nat → Nat → Int64) (w : Int64) : Int64 := u2 43 (nJ 32) (R 1 (gatV w (nJ 1015808)).toBitVec.toNat) (u1 310 (nJ 8204) (u2 309 (nJ 5) (gatV w (nJ 4261412864)) (gatV w (nJ 3968))))
def asP (h : mv_H) (w : Int64) : Int32 := mv_a h 72 (WNd w 15 5) + (((w.toInt32 >>> ((25 : Int32) &&& 31)) <<< ((5 : Int32) &&& 31)) ||| nI (WNd w 7 5))
theorem as_z (L : RLs R h) (w : Int64) : ZE (asL R w) (asP h w) := ZE.add (L.s w) (immS_z w)
/-- the reference's store begins -/
theorem sto_b {k n : Nat} (hk : sOv w.toInt32 = nI k) (k1 : 14 < k) (k2 : k < 18) (hn : n ≤ 4) (h0 : 0 < n) (e9 : ((1 : Int32) <<< ((nI k - (15 : Int32)) &&& 31)) = nI n) : f_Model_shippedStep P h w.toInt32 = if (asP h w).toBitVec.toNat + n ≤ 32768 then xhb (f_Model_store_57 P 200000 (nI n) (asP h w) (mv_a h 72 (WNd w 20 5)) 0 h) fun u13 g12 => f_Model_shippedStep_294 P (mv_i h 70 6) u13 g12 else some (-3, h) := by
  have l1 : WNd w 15 5 < 32 := WNd_lt w 15 5
  have l2 : WNd w 20 5 < 32 := WNd_lt w 20 5
  rw [ss_go hk (by omega)]
  have e : ∀ m : Nat, m < 100 → ¬ k = m → ¬ nI k = nI m := fun m hm q z => q ((nIinj (by omega) (by omega)).mp z)
  rw [if_neg (show ¬ nI k = (38 : Int32) from e 38 (by decide) (by omega)), if_neg (show ¬ nI k = (39 : Int32) from e 39 (by decide) (by omega)), if_neg (show ¬ nI k = (2 : Int32) from e 2 (by decide) (by omega)), if_neg (show ¬ nI k = (3 : Int32) from e 3 (by decide) (by omega)), if_neg (show ¬ nI k < (4 : Int32) from fun q => by have := (nIlt (a := k) (b := 4) (by omega) (by omega)).mp q; omega), if_pos (show (9 : Int32) < nI k from (nIlt (a := 9) (b := k) (by omega) (by omega)).mpr (by omega))]
  unfold f_Model_shippedStep_173
  rw [if_neg (show ¬ nI k = (0 : Int32) from e 0 (by decide) (by omega)), if_neg (show ¬ nI k = (1 : Int32) from e 1 (by decide) (by omega)), if_pos (show (14 : Int32) < nI k from (nIlt (a := 14) (b := k) (by omega) (by omega)).mpr k1), if_neg (show ¬ (17 : Int32) < nI k from fun q => by have := (nIlt (a := 17) (b := k) (by omega) (by omega)).mp q; omega)]
  unfold f_Model_store
  rw [pie_19_15, xhb_s, xvi_n l1 (by decide), cond_true, immS_v, xhb_s, pie_24_20, xhb_s, xvi_n l2 (by decide), cond_true, cln (by omega), cln (by omega), e9, in_m h _ hn h0, xhb_s]
  show xhb (if (if (asP h w).toBitVec.toNat + n ≤ 32768 then (1 : Int32) else 0) = 0 then some (-3, h) else f_Model_store_57 P 200000 (nI n) (asP h w) (mv_a h 72 (WNd w 20 5)) 0 h) (fun u13 g12 => f_Model_shippedStep_294 P (mv_i h 70 6) u13 g12) = _
  by_cases c : (asP h w).toBitVec.toNat + n ≤ 32768
  · rw [if_pos c, if_pos c, if_neg (by decide)]
  · rw [if_neg c, if_neg c, if_pos rfl, xhb_s]
    rfl
theorem sto_go {k : Nat} {l : Nat → Int64} {R' : Nat → Nat → Int64} {h' : mv_H} (hk4 : k < 48) (hd : dcV rS.1 w = nI k) (ev : rn (eW rS w) LSx 64 (stS k) [] (fun _ => 0, R, fun _ => false) = some (0, (l, R', fun _ => false))) (st : f_Model_shippedStep P h w.toInt32 = f_Model_shippedStep_294 P (mv_i h 70 6) 0 h') (L' : RLs R' h') (F : SFs h h') (hp : ZE (R' 0 0) (mv_i h 70 6)) : SSx P w h (stF rS w R).1 (stF rS w R).2 := by
  rw [st_of hk4 hd ev]
  obtain ⟨h2, e2, L2, F2⟩ := ss_294 (P := P) (w := w) L' hp
  refine ⟨h2, by rw [st]; exact e2, ?_, F.tr F2⟩
  show RLs (if (0 : Int32) = 0 then gfT (eW rS w) 32 (frR rS) (l, R', fun _ => false) else R) h2
  rw [if_pos rfl, gf_S]
  exact L2
/-- the bytes -/
theorem byC (L : RLs R h) (w : Int64) {i m : Nat} (hi : i < 4) (hm : ((nJ m &&& (255 : Int64)).toInt32) = nI (8 * i)) (hm2 : ((nJ m >>> ((8 : Int32).toInt64 &&& 63)).toInt32) = nI 8) {v : Int64} (hv : v = R 1 (gatV w (nJ 32505856)).toBitVec.toNat) : (u1 308 (nJ m) v).toBitVec.toNat % 256 = (byS (mv_a h 72 (WNd w 20 5)) i).toBitVec.toNat % 256 := by
  rw [byS_n _ hi, hv, part_n (lo := 8 * i) (wd := 8) (by omega) (by decide) hm hm2, show (R 1 (gatV w (nJ 32505856)).toBitVec.toNat).toBitVec.toNat = (mv_a h 72 (WNd w 20 5)).toBitVec.toNat from L.t w]
  show _ / 2 ^ (8 * i) % 256 % 256 = _
  exact Nat.mod_mod _ _
end STO

theorem op_15 (P : Nat) {R : Nat → Nat → Int64} {h : mv_H} {w : Int64} (L : RLs R h) (hk : sOv w.toInt32 = nI 15) (hd : dcV rS.1 w = nI 15) : SSx P w h (stF rS w R).1 (stF rS w R).2 := by
  have st := sto_b (P := P) (h := h) hk (by decide) (by decide) (n := 1) (by decide) (by decide) (by decide +kernel)
  have z := as_z L w
  have ev := ev_15 w (fun _ => 0) R (fun _ => false)
  have e0 : (asL R w).toBitVec.toNat = (asP h w).toBitVec.toNat := z
  have lp := n32_lt (asP h w)
  by_cases c : (asP h w).toBitVec.toNat + 1 ≤ 32768
  · rw [if_pos c] at st
    rw [if_pos (show (asL R w).toBitVec.toNat < 32768 by rw [e0]; omega)] at ev
    rw [e0] at ev
    have lo : f_Model_store_57 P 200000 (nI 1) (asP h w) (mv_a h 72 (WNd w 20 5)) 0 h = some (0, (mv_sa h 73 ((asP h w).toBitVec.toNat + 0) (byS (mv_a h 72 (WNd w 20 5)) 0))) := ((sto_t (P := P) (m := 199999) (h := h) (n := 1) (i := 0) (p := asP h w) (y := mv_a h 72 (WNd w 20 5)) (by decide) (by decide) (by omega))).trans sto_e
    rw [lo, xhb_s] at st
    have L1 : RLs (wrT (eW rS w) 2 (asP h w).toBitVec.toNat (u1 308 (nJ 2048) ((R) 1 (gatV w (nJ 32505856)).toBitVec.toNat)) (R)) (mv_sa h 73 ((asP h w).toBitVec.toNat + 0) (byS (mv_a h 72 (WNd w 20 5)) 0)) := L.m (by omega) (byC L w (by decide) (by decide +kernel) (by decide +kernel) rfl)
    have hp : (wrT (eW rS w) 2 (asP h w).toBitVec.toNat (u1 308 (nJ 2048) ((R) 1 (gatV w (nJ 32505856)).toBitVec.toNat)) (R)) 0 0 = R 0 0 := wr_2o (by decide)
    exact sto_go (by decide) hd ev st L1 ((SFs.rf h).tr (SFs.sa (Or.inr rfl))) (by rw [hp]; exact L.1)
  · rw [if_neg c] at st
    rw [if_neg (show ¬ (asL R w).toBitVec.toNat < 32768 from fun q9 => by rw [e0] at q9; omega)] at ev
    exact tr_go L (by decide) hd ev st
theorem op_16 (P : Nat) {R : Nat → Nat → Int64} {h : mv_H} {w : Int64} (L : RLs R h) (hk : sOv w.toInt32 = nI 16) (hd : dcV rS.1 w = nI 16) : SSx P w h (stF rS w R).1 (stF rS w R).2 := by
  have st := sto_b (P := P) (h := h) hk (by decide) (by decide) (n := 2) (by decide) (by decide) (by decide +kernel)
  have z := as_z L w
  have ev := ev_16 w (fun _ => 0) R (fun _ => false)
  have e0 : (asL R w).toBitVec.toNat = (asP h w).toBitVec.toNat := z
  have lp := n32_lt (asP h w)
  have e1 := ad_i z (i := 1) (by decide)
  by_cases c : (asP h w).toBitVec.toNat + 2 ≤ 32768
  · rw [if_pos c] at st
    rw [Nat.mod_eq_of_lt (show (asP h w).toBitVec.toNat + 1 < 4294967296 by omega)] at e1
    rw [if_pos (show (asL R w).toBitVec.toNat < 32768 by rw [e0]; omega), if_pos (show (u2 43 (nJ 32) (asL R w) (nJ 1)).toBitVec.toNat < 32768 by rw [e1]; omega)] at ev
    rw [e0, e1] at ev
    have lo : f_Model_store_57 P 200000 (nI 2) (asP h w) (mv_a h 72 (WNd w 20 5)) 0 h = some (0, (mv_sa (mv_sa h 73 ((asP h w).toBitVec.toNat + 0) (byS (mv_a h 72 (WNd w 20 5)) 0)) 73 ((asP h w).toBitVec.toNat + 1) (byS (mv_a h 72 (WNd w 20 5)) 1))) := (((sto_t (P := P) (m := 199999) (h := h) (n := 2) (i := 0) (p := asP h w) (y := mv_a h 72 (WNd w 20 5)) (by decide) (by decide) (by omega))).trans (sto_t (P := P) (m := 199998) (h := (mv_sa h 73 ((asP h w).toBitVec.toNat + 0) (byS (mv_a h 72 (WNd w 20 5)) 0))) (n := 2) (i := 1) (p := asP h w) (y := mv_a h 72 (WNd w 20 5)) (by decide) (by decide) (by omega))).trans sto_e
    rw [lo, xhb_s] at st
    have L1 : RLs (wrT (eW rS w) 2 (asP h w).toBitVec.toNat (u1 308 (nJ 2048) ((R) 1 (gatV w (nJ 32505856)).toBitVec.toNat)) (R)) (mv_sa h 73 ((asP h w).toBitVec.toNat + 0) (byS (mv_a h 72 (WNd w 20 5)) 0)) := L.m (by omega) (byC L w (by decide) (by decide +kernel) (by decide +kernel) rfl)
    have L2 : RLs (wrT (eW rS w) 2 ((asP h w).toBitVec.toNat + 1) (u1 308 (nJ 2056) ((wrT (eW rS w) 2 (asP h w).toBitVec.toNat (u1 308 (nJ 2048) ((R) 1 (gatV w (nJ 32505856)).toBitVec.toNat)) (R)) 1 (gatV w (nJ 32505856)).toBitVec.toNat)) (wrT (eW rS w) 2 (asP h w).toBitVec.toNat (u1 308 (nJ 2048) ((R) 1 (gatV w (nJ 32505856)).toBitVec.toNat)) (R))) (mv_sa (mv_sa h 73 ((asP h w).toBitVec.toNat + 0) (byS (mv_a h 72 (WNd w 20 5)) 0)) 73 ((asP h w).toBitVec.toNat + 1) (byS (mv_a h 72 (WNd w 20 5)) 1)) := L1.m (by omega) (byC L w (by decide) (by decide +kernel) (by decide +kernel) ((wr_2o (by decide))))
    have hp : (wrT (eW rS w) 2 ((asP h w).toBitVec.toNat + 1) (u1 308 (nJ 2056) ((wrT (eW rS w) 2 (asP h w).toBitVec.toNat (u1 308 (nJ 2048) ((R) 1 (gatV w (nJ 32505856)).toBitVec.toNat)) (R)) 1 (gatV w (nJ 32505856)).toBitVec.toNat)) (wrT (eW rS w) 2 (asP h w).toBitVec.toNat (u1 308 (nJ 2048) ((R) 1 (gatV w (nJ 32505856)).toBitVec.toNat)) (R))) 0 0 = R 0 0 := (wr_2o (by decide)).trans (wr_2o (by decide))
    exact sto_go (by decide) hd ev st L2 (((SFs.rf h).tr (SFs.sa (Or.inr rfl))).tr (SFs.sa (Or.inr rfl))) (by rw [hp]; exact L.1)
  · rw [if_neg c] at st
    by_cases d0 : (asL R w).toBitVec.toNat < 32768
    · rw [if_pos d0] at ev
      rw [if_neg (show ¬ (u2 43 (nJ 32) (asL R w) (nJ 1)).toBitVec.toNat < 32768 from fun q9 => by rw [e0] at d0; rw [e1] at q9; omega)] at ev
      exact tr_go L (by decide) hd ev st
    · rw [if_neg d0] at ev
      exact tr_go L (by decide) hd ev st
theorem op_17 (P : Nat) {R : Nat → Nat → Int64} {h : mv_H} {w : Int64} (L : RLs R h) (hk : sOv w.toInt32 = nI 17) (hd : dcV rS.1 w = nI 17) : SSx P w h (stF rS w R).1 (stF rS w R).2 := by
  have st := sto_b (P := P) (h := h) hk (by decide) (by decide) (n := 4) (by decide) (by decide) (by decide +kernel)
  have z := as_z L w
  have ev := ev_17 w (fun _ => 0) R (fun _ => false)
  have e0 : (asL R w).toBitVec.toNat = (asP h w).toBitVec.toNat := z
  have lp := n32_lt (asP h w)
  have e1 := ad_i z (i := 1) (by decide)
  have e2 := ad_i z (i := 2) (by decide)
  have e3 := ad_i z (i := 3) (by decide)
  by_cases c : (asP h w).toBitVec.toNat + 4 ≤ 32768
  · rw [if_pos c] at st
    rw [Nat.mod_eq_of_lt (show (asP h w).toBitVec.toNat + 1 < 4294967296 by omega)] at e1
    rw [Nat.mod_eq_of_lt (show (asP h w).toBitVec.toNat + 2 < 4294967296 by omega)] at e2
    rw [Nat.mod_eq_of_lt (show (asP h w).toBitVec.toNat + 3 < 4294967296 by omega)] at e3
    rw [if_pos (show (asL R w).toBitVec.toNat < 32768 by rw [e0]; omega), if_pos (show (u2 43 (nJ 32) (asL R w) (nJ 1)).toBitVec.toNat < 32768 by rw [e1]; omega), if_pos (show (u2 43 (nJ 32) (asL R w) (nJ 2)).toBitVec.toNat < 32768 by rw [e2]; omega), if_pos (show (u2 43 (nJ 32) (asL R w) (nJ 3)).toBitVec.toNat < 32768 by rw [e3]; omega)] at ev
    rw [e0, e1, e2, e3] at ev
    have lo : f_Model_store_57 P 200000 (nI 4) (asP h w) (mv_a h 72 (WNd w 20 5)) 0 h = some (0, (mv_sa (mv_sa (mv_sa (mv_sa h 73 ((asP h w).toBitVec.toNat + 0) (byS (mv_a h 72 (WNd w 20 5)) 0)) 73 ((asP h w).toBitVec.toNat + 1) (byS (mv_a h 72 (WNd w 20 5)) 1)) 73 ((asP h w).toBitVec.toNat + 2) (byS (mv_a h 72 (WNd w 20 5)) 2)) 73 ((asP h w).toBitVec.toNat + 3) (byS (mv_a h 72 (WNd w 20 5)) 3))) := (((((sto_t (P := P) (m := 199999) (h := h) (n := 4) (i := 0) (p := asP h w) (y := mv_a h 72 (WNd w 20 5)) (by decide) (by decide) (by omega))).trans (sto_t (P := P) (m := 199998) (h := (mv_sa h 73 ((asP h w).toBitVec.toNat + 0) (byS (mv_a h 72 (WNd w 20 5)) 0))) (n := 4) (i := 1) (p := asP h w) (y := mv_a h 72 (WNd w 20 5)) (by decide) (by decide) (by omega))).trans (sto_t (P := P) (m := 199997) (h := (mv_sa (mv_sa h 73 ((asP h w).toBitVec.toNat + 0) (byS (mv_a h 72 (WNd w 20 5)) 0)) 73 ((asP h w).toBitVec.toNat + 1) (byS (mv_a h 72 (WNd w 20 5)) 1))) (n := 4) (i := 2) (p := asP h w) (y := mv_a h 72 (WNd w 20 5)) (by decide) (by decide) (by omega))).trans (sto_t (P := P) (m := 199996) (h := (mv_sa (mv_sa (mv_sa h 73 ((asP h w).toBitVec.toNat + 0) (byS (mv_a h 72 (WNd w 20 5)) 0)) 73 ((asP h w).toBitVec.toNat + 1) (byS (mv_a h 72 (WNd w 20 5)) 1)) 73 ((asP h w).toBitVec.toNat + 2) (byS (mv_a h 72 (WNd w 20 5)) 2))) (n := 4) (i := 3) (p := asP h w) (y := mv_a h 72 (WNd w 20 5)) (by decide) (by decide) (by omega))).trans sto_e
    rw [lo, xhb_s] at st
    have L1 : RLs (wrT (eW rS w) 2 (asP h w).toBitVec.toNat (u1 308 (nJ 2048) ((R) 1 (gatV w (nJ 32505856)).toBitVec.toNat)) (R)) (mv_sa h 73 ((asP h w).toBitVec.toNat + 0) (byS (mv_a h 72 (WNd w 20 5)) 0)) := L.m (by omega) (byC L w (by decide) (by decide +kernel) (by decide +kernel) rfl)
    have L2 : RLs (wrT (eW rS w) 2 ((asP h w).toBitVec.toNat + 1) (u1 308 (nJ 2056) ((wrT (eW rS w) 2 (asP h w).toBitVec.toNat (u1 308 (nJ 2048) ((R) 1 (gatV w (nJ 32505856)).toBitVec.toNat)) (R)) 1 (gatV w (nJ 32505856)).toBitVec.toNat)) (wrT (eW rS w) 2 (asP h w).toBitVec.toNat (u1 308 (nJ 2048) ((R) 1 (gatV w (nJ 32505856)).toBitVec.toNat)) (R))) (mv_sa (mv_sa h 73 ((asP h w).toBitVec.toNat + 0) (byS (mv_a h 72 (WNd w 20 5)) 0)) 73 ((asP h w).toBitVec.toNat + 1) (byS (mv_a h 72 (WNd w 20 5)) 1)) := L1.m (by omega) (byC L w (by decide) (by decide +kernel) (by decide +kernel) ((wr_2o (by decide))))
    have L3 : RLs (wrT (eW rS w) 2 ((asP h w).toBitVec.toNat + 2) (u1 308 (nJ 2064) ((wrT (eW rS w) 2 ((asP h w).toBitVec.toNat + 1) (u1 308 (nJ 2056) ((wrT (eW rS w) 2 (asP h w).toBitVec.toNat (u1 308 (nJ 2048) ((R) 1 (gatV w (nJ 32505856)).toBitVec.toNat)) (R)) 1 (gatV w (nJ 32505856)).toBitVec.toNat)) (wrT (eW rS w) 2 (asP h w).toBitVec.toNat (u1 308 (nJ 2048) ((R) 1 (gatV w (nJ 32505856)).toBitVec.toNat)) (R))) 1 (gatV w (nJ 32505856)).toBitVec.toNat)) (wrT (eW rS w) 2 ((asP h w).toBitVec.toNat + 1) (u1 308 (nJ 2056) ((wrT (eW rS w) 2 (asP h w).toBitVec.toNat (u1 308 (nJ 2048) ((R) 1 (gatV w (nJ 32505856)).toBitVec.toNat)) (R)) 1 (gatV w (nJ 32505856)).toBitVec.toNat)) (wrT (eW rS w) 2 (asP h w).toBitVec.toNat (u1 308 (nJ 2048) ((R) 1 (gatV w (nJ 32505856)).toBitVec.toNat)) (R)))) (mv_sa (mv_sa (mv_sa h 73 ((asP h w).toBitVec.toNat + 0) (byS (mv_a h 72 (WNd w 20 5)) 0)) 73 ((asP h w).toBitVec.toNat + 1) (byS (mv_a h 72 (WNd w 20 5)) 1)) 73 ((asP h w).toBitVec.toNat + 2) (byS (mv_a h 72 (WNd w 20 5)) 2)) := L2.m (by omega) (byC L w (by decide) (by decide +kernel) (by decide +kernel) ((wr_2o (by decide)).trans (wr_2o (by decide))))
    have L4 : RLs (wrT (eW rS w) 2 ((asP h w).toBitVec.toNat + 3) (u1 308 (nJ 2072) ((wrT (eW rS w) 2 ((asP h w).toBitVec.toNat + 2) (u1 308 (nJ 2064) ((wrT (eW rS w) 2 ((asP h w).toBitVec.toNat + 1) (u1 308 (nJ 2056) ((wrT (eW rS w) 2 (asP h w).toBitVec.toNat (u1 308 (nJ 2048) ((R) 1 (gatV w (nJ 32505856)).toBitVec.toNat)) (R)) 1 (gatV w (nJ 32505856)).toBitVec.toNat)) (wrT (eW rS w) 2 (asP h w).toBitVec.toNat (u1 308 (nJ 2048) ((R) 1 (gatV w (nJ 32505856)).toBitVec.toNat)) (R))) 1 (gatV w (nJ 32505856)).toBitVec.toNat)) (wrT (eW rS w) 2 ((asP h w).toBitVec.toNat + 1) (u1 308 (nJ 2056) ((wrT (eW rS w) 2 (asP h w).toBitVec.toNat (u1 308 (nJ 2048) ((R) 1 (gatV w (nJ 32505856)).toBitVec.toNat)) (R)) 1 (gatV w (nJ 32505856)).toBitVec.toNat)) (wrT (eW rS w) 2 (asP h w).toBitVec.toNat (u1 308 (nJ 2048) ((R) 1 (gatV w (nJ 32505856)).toBitVec.toNat)) (R)))) 1 (gatV w (nJ 32505856)).toBitVec.toNat)) (wrT (eW rS w) 2 ((asP h w).toBitVec.toNat + 2) (u1 308 (nJ 2064) ((wrT (eW rS w) 2 ((asP h w).toBitVec.toNat + 1) (u1 308 (nJ 2056) ((wrT (eW rS w) 2 (asP h w).toBitVec.toNat (u1 308 (nJ 2048) ((R) 1 (gatV w (nJ 32505856)).toBitVec.toNat)) (R)) 1 (gatV w (nJ 32505856)).toBitVec.toNat)) (wrT (eW rS w) 2 (asP h w).toBitVec.toNat (u1 308 (nJ 2048) ((R) 1 (gatV w (nJ 32505856)).toBitVec.toNat)) (R))) 1 (gatV w (nJ 32505856)).toBitVec.toNat)) (wrT (eW rS w) 2 ((asP h w).toBitVec.toNat + 1) (u1 308 (nJ 2056) ((wrT (eW rS w) 2 (asP h w).toBitVec.toNat (u1 308 (nJ 2048) ((R) 1 (gatV w (nJ 32505856)).toBitVec.toNat)) (R)) 1 (gatV w (nJ 32505856)).toBitVec.toNat)) (wrT (eW rS w) 2 (asP h w).toBitVec.toNat (u1 308 (nJ 2048) ((R) 1 (gatV w (nJ 32505856)).toBitVec.toNat)) (R))))) (mv_sa (mv_sa (mv_sa (mv_sa h 73 ((asP h w).toBitVec.toNat + 0) (byS (mv_a h 72 (WNd w 20 5)) 0)) 73 ((asP h w).toBitVec.toNat + 1) (byS (mv_a h 72 (WNd w 20 5)) 1)) 73 ((asP h w).toBitVec.toNat + 2) (byS (mv_a h 72 (WNd w 20 5)) 2)) 73 ((asP h w).toBitVec.toNat + 3) (byS (mv_a h 72 (WNd w 20 5)) 3)) := L3.m (by omega) (byC L w (by decide) (by decide +kernel) (by decide +kernel) (((wr_2o (by decide)).trans (wr_2o (by decide))).trans (wr_2o (by decide))))
    have hp : (wrT (eW rS w) 2 ((asP h w).toBitVec.toNat + 3) (u1 308 (nJ 2072) ((wrT (eW rS w) 2 ((asP h w).toBitVec.toNat + 2) (u1 308 (nJ 2064) ((wrT (eW rS w) 2 ((asP h w).toBitVec.toNat + 1) (u1 308 (nJ 2056) ((wrT (eW rS w) 2 (asP h w).toBitVec.toNat (u1 308 (nJ 2048) ((R) 1 (gatV w (nJ 32505856)).toBitVec.toNat)) (R)) 1 (gatV w (nJ 32505856)).toBitVec.toNat)) (wrT (eW rS w) 2 (asP h w).toBitVec.toNat (u1 308 (nJ 2048) ((R) 1 (gatV w (nJ 32505856)).toBitVec.toNat)) (R))) 1 (gatV w (nJ 32505856)).toBitVec.toNat)) (wrT (eW rS w) 2 ((asP h w).toBitVec.toNat + 1) (u1 308 (nJ 2056) ((wrT (eW rS w) 2 (asP h w).toBitVec.toNat (u1 308 (nJ 2048) ((R) 1 (gatV w (nJ 32505856)).toBitVec.toNat)) (R)) 1 (gatV w (nJ 32505856)).toBitVec.toNat)) (wrT (eW rS w) 2 (asP h w).toBitVec.toNat (u1 308 (nJ 2048) ((R) 1 (gatV w (nJ 32505856)).toBitVec.toNat)) (R)))) 1 (gatV w (nJ 32505856)).toBitVec.toNat)) (wrT (eW rS w) 2 ((asP h w).toBitVec.toNat + 2) (u1 308 (nJ 2064) ((wrT (eW rS w) 2 ((asP h w).toBitVec.toNat + 1) (u1 308 (nJ 2056) ((wrT (eW rS w) 2 (asP h w).toBitVec.toNat (u1 308 (nJ 2048) ((R) 1 (gatV w (nJ 32505856)).toBitVec.toNat)) (R)) 1 (gatV w (nJ 32505856)).toBitVec.toNat)) (wrT (eW rS w) 2 (asP h w).toBitVec.toNat (u1 308 (nJ 2048) ((R) 1 (gatV w (nJ 32505856)).toBitVec.toNat)) (R))) 1 (gatV w (nJ 32505856)).toBitVec.toNat)) (wrT (eW rS w) 2 ((asP h w).toBitVec.toNat + 1) (u1 308 (nJ 2056) ((wrT (eW rS w) 2 (asP h w).toBitVec.toNat (u1 308 (nJ 2048) ((R) 1 (gatV w (nJ 32505856)).toBitVec.toNat)) (R)) 1 (gatV w (nJ 32505856)).toBitVec.toNat)) (wrT (eW rS w) 2 (asP h w).toBitVec.toNat (u1 308 (nJ 2048) ((R) 1 (gatV w (nJ 32505856)).toBitVec.toNat)) (R))))) 0 0 = R 0 0 := (((wr_2o (by decide)).trans (wr_2o (by decide))).trans (wr_2o (by decide))).trans (wr_2o (by decide))
    exact sto_go (by decide) hd ev st L4 (((((SFs.rf h).tr (SFs.sa (Or.inr rfl))).tr (SFs.sa (Or.inr rfl))).tr (SFs.sa (Or.inr rfl))).tr (SFs.sa (Or.inr rfl))) (by rw [hp]; exact L.1)
  · rw [if_neg c] at st
    by_cases d0 : (asL R w).toBitVec.toNat < 32768
    · rw [if_pos d0] at ev
      by_cases d1 : (u2 43 (nJ 32) (asL R w) (nJ 1)).toBitVec.toNat < 32768
      · rw [if_pos d1] at ev
        by_cases d2 : (u2 43 (nJ 32) (asL R w) (nJ 2)).toBitVec.toNat < 32768
        · rw [if_pos d2] at ev
          rw [if_neg (show ¬ (u2 43 (nJ 32) (asL R w) (nJ 3)).toBitVec.toNat < 32768 from fun q9 => by rw [e0] at d0; rw [e1] at d1; rw [e2] at d2; rw [e3] at q9; omega)] at ev
          exact tr_go L (by decide) hd ev st
        · rw [if_neg d2] at ev
          exact tr_go L (by decide) hd ev st
      · rw [if_neg d1] at ev
        exact tr_go L (by decide) hd ev st
    · rw [if_neg d0] at ev
      exact tr_go L (by decide) hd ev st
/-- every op of the shipped machine -/
theorem opSx : ∀ (k : Nat), k < 48 → ∀ (P : Nat) {R : Nat → Nat → Int64} {h : mv_H} {w : Int64}, RLs R h → sOv w.toInt32 = nI k → dcV rS.1 w = nI k → SSx P w h (stF rS w R).1 (stF rS w R).2
  | 0, _, P, _, _, _, L, hk, hd => op_0 P L hk hd
  | 1, _, P, _, _, _, L, hk, hd => op_1 P L hk hd
  | 2, _, P, _, _, _, L, hk, hd => op_2 P L hk hd
  | 3, _, P, _, _, _, L, hk, hd => op_3 P L hk hd
  | 4, _, P, _, _, _, L, hk, hd => op_4 P L hk hd
  | 5, _, P, _, _, _, L, hk, hd => op_5 P L hk hd
  | 6, _, P, _, _, _, L, hk, hd => op_6 P L hk hd
  | 7, _, P, _, _, _, L, hk, hd => op_7 P L hk hd
  | 8, _, P, _, _, _, L, hk, hd => op_8 P L hk hd
  | 9, _, P, _, _, _, L, hk, hd => op_9 P L hk hd
  | 10, _, P, _, _, _, L, hk, hd => op_10 P L hk hd
  | 11, _, P, _, _, _, L, hk, hd => op_11 P L hk hd
  | 12, _, P, _, _, _, L, hk, hd => op_12 P L hk hd
  | 13, _, P, _, _, _, L, hk, hd => op_13 P L hk hd
  | 14, _, P, _, _, _, L, hk, hd => op_14 P L hk hd
  | 15, _, P, _, _, _, L, hk, hd => op_15 P L hk hd
  | 16, _, P, _, _, _, L, hk, hd => op_16 P L hk hd
  | 17, _, P, _, _, _, L, hk, hd => op_17 P L hk hd
  | 18, _, P, _, _, _, L, hk, hd => op_18 P L hk hd
  | 19, _, P, _, _, _, L, hk, hd => op_19 P L hk hd
  | 20, _, P, _, _, _, L, hk, hd => op_20 P L hk hd
  | 21, _, P, _, _, _, L, hk, hd => op_21 P L hk hd
  | 22, _, P, _, _, _, L, hk, hd => op_22 P L hk hd
  | 23, _, P, _, _, _, L, hk, hd => op_23 P L hk hd
  | 24, _, P, _, _, _, L, hk, hd => op_24 P L hk hd
  | 25, _, P, _, _, _, L, hk, hd => op_25 P L hk hd
  | 26, _, P, _, _, _, L, hk, hd => op_26 P L hk hd
  | 27, _, P, _, _, _, L, hk, hd => op_27 P L hk hd
  | 28, _, P, _, _, _, L, hk, hd => op_28 P L hk hd
  | 29, _, P, _, _, _, L, hk, hd => op_29 P L hk hd
  | 30, _, P, _, _, _, L, hk, hd => op_30 P L hk hd
  | 31, _, P, _, _, _, L, hk, hd => op_31 P L hk hd
  | 32, _, P, _, _, _, L, hk, hd => op_32 P L hk hd
  | 33, _, P, _, _, _, L, hk, hd => op_33 P L hk hd
  | 34, _, P, _, _, _, L, hk, hd => op_34 P L hk hd
  | 35, _, P, _, _, _, L, hk, hd => op_35 P L hk hd
  | 36, _, P, _, _, _, L, hk, hd => op_36 P L hk hd
  | 37, _, P, _, _, _, L, hk, hd => op_37 P L hk hd
  | 38, _, P, _, _, _, L, hk, hd => op_38 P L hk hd
  | 39, _, P, _, _, _, L, hk, hd => op_39 P L hk hd
  | 40, _, P, _, _, _, L, hk, hd => op_40 P L hk hd
  | 41, _, P, _, _, _, L, hk, hd => op_41 P L hk hd
  | 42, _, P, _, _, _, L, hk, hd => op_42 P L hk hd
  | 43, _, P, _, _, _, L, hk, hd => op_43 P L hk hd
  | 44, _, P, _, _, _, L, hk, hd => op_44 P L hk hd
  | 45, _, P, _, _, _, L, hk, hd => op_45 P L hk hd
  | 46, _, P, _, _, _, L, hk, hd => op_46 P L hk hd
  | 47, _, P, _, _, _, L, hk, hd => op_47 P L hk hd
  | _ + 48, h, _, _, _, _, _, _, _ => absurd h (by omega)
