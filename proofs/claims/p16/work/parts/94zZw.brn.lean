/-! jal, jalr, branches -/
theorem immJ_v (h : mv_H) (w : Int64) : f_Model_immJ h w.toInt32 = some ((((((w.toInt32 >>> ((31 : Int32) &&& 31)) <<< ((20 : Int32) &&& 31)) ||| ((nI (WNd w 12 8)) <<< ((12 : Int32) &&& 31))) ||| ((nI (WNd w 20 1)) <<< ((11 : Int32) &&& 31))) ||| ((nI (WNd w 21 10)) <<< ((1 : Int32) &&& 31))), h) := by
  unfold f_Model_immJ
  rw [pie_19_12, xhb_s, pie_20_20, xhb_s, pie_30_21, xhb_s]
theorem immJ_z (w : Int64) : ZE (u1 310 (nJ 8213) (u2 309 (nJ 1) (u2 309 (nJ 10) (u2 309 (nJ 1) (u2 309 (nJ 8) (gatV w (nJ 2147483648)) (gatV w (nJ 1044480))) (gatV w (nJ 1048576))) (gatV w (nJ 2145386496))) (nJ 0))) (((((w.toInt32 >>> ((31 : Int32) &&& 31)) <<< ((20 : Int32) &&& 31)) ||| ((nI (WNd w 12 8)) <<< ((12 : Int32) &&& 31))) ||| ((nI (WNd w 20 1)) <<< ((11 : Int32) &&& 31))) ||| ((nI (WNd w 21 10)) <<< ((1 : Int32) &&& 31))) := by
  have l2147483648 : WNd w 31 1 < 2 := WNd_lt w 31 1
  have l1044480 : WNd w 12 8 < 256 := WNd_lt w 12 8
  have l1048576 : WNd w 20 1 < 2 := WNd_lt w 20 1
  have l2145386496 : WNd w 21 10 < 1024 := WNd_lt w 21 10
  have j0 := gat_2147483648 w
  have j1 := u309 (k := 8) (by decide) (x := gatV w (nJ 2147483648)) (y := gatV w (nJ 1044480)) (by rw [j0]; exact Nat.lt_of_lt_of_le (show _ < 2 by omega) (by decide)) (by rw [gat_1044480]; exact l1044480)
  rw [j0, gat_1044480, show (2 : Nat) ^ 8 = 256 from rfl] at j1
  have j2 := u309 (k := 1) (by decide) (x := u2 309 (nJ 8) (gatV w (nJ 2147483648)) (gatV w (nJ 1044480))) (y := gatV w (nJ 1048576)) (by rw [j1]; exact Nat.lt_of_lt_of_le (show _ < 512 by omega) (by decide)) (by rw [gat_1048576]; exact l1048576)
  rw [j1, gat_1048576, show (2 : Nat) ^ 1 = 2 from rfl] at j2
  have j3 := u309 (k := 10) (by decide) (x := u2 309 (nJ 1) (u2 309 (nJ 8) (gatV w (nJ 2147483648)) (gatV w (nJ 1044480))) (gatV w (nJ 1048576))) (y := gatV w (nJ 2145386496)) (by rw [j2]; exact Nat.lt_of_lt_of_le (show _ < 1024 by omega) (by decide)) (by rw [gat_2145386496]; exact l2145386496)
  rw [j2, gat_2145386496, show (2 : Nat) ^ 10 = 1024 from rfl] at j3
  have j4 := u309 (k := 1) (by decide) (x := u2 309 (nJ 10) (u2 309 (nJ 1) (u2 309 (nJ 8) (gatV w (nJ 2147483648)) (gatV w (nJ 1044480))) (gatV w (nJ 1048576))) (gatV w (nJ 2145386496))) (y := nJ 0) (by rw [j3]; exact Nat.lt_of_lt_of_le (show _ < 1048576 by omega) (by decide)) (by decide)
  rw [j3, show (nJ 0).toBitVec.toNat = 0 from rfl, show (2 : Nat) ^ 1 = 2 from rfl] at j4
  have s := sx_21 (v := u2 309 (nJ 1) (u2 309 (nJ 10) (u2 309 (nJ 1) (u2 309 (nJ 8) (gatV w (nJ 2147483648)) (gatV w (nJ 1044480))) (gatV w (nJ 1048576))) (gatV w (nJ 2145386496))) (nJ 0)) (by rw [j4]; omega)
  rw [j4] at s
  have a := sar_n w.toInt32 (n := 31) (by decide)
  have b1 := BitVec.toInt_eq_toNat_cond (w.toInt32 >>> ((nI 31) &&& 31)).toBitVec
  have b2 := BitVec.toInt_eq_toNat_cond w.toInt32.toBitVec
  have b3 := w32 w
  have b4 := n32_lt (w.toInt32 >>> ((nI 31) &&& 31))
  have c0 := shl32 (w.toInt32 >>> ((nI 31) &&& 31)) (n := 20) (by decide)
  rw [show (2 : Nat) ^ 20 = 1048576 from rfl] at c0
  have d1 := shl32 (nI (WNd w 12 8)) (n := 12) (by decide)
  rw [WNd_nI w 12 (by decide), show (2 : Nat) ^ 12 = 4096 from rfl] at d1
  have c1 := or32 ((w.toInt32 >>> ((nI 31) &&& 31)) <<< ((nI 20) &&& 31)) ((nI (WNd w 12 8)) <<< ((nI 12) &&& 31))
  rw [or_add 20 (by rw [c0, show (2 : Nat) ^ 20 = 1048576 from rfl]; omega) (by rw [d1, show (2 : Nat) ^ 20 = 1048576 from rfl]; omega), c0, d1] at c1
  have d2 := shl32 (nI (WNd w 20 1)) (n := 11) (by decide)
  rw [WNd_nI w 20 (by decide), show (2 : Nat) ^ 11 = 2048 from rfl] at d2
  have c2 := or32 (((w.toInt32 >>> ((nI 31) &&& 31)) <<< ((nI 20) &&& 31)) ||| ((nI (WNd w 12 8)) <<< ((nI 12) &&& 31))) ((nI (WNd w 20 1)) <<< ((nI 11) &&& 31))
  rw [or_add 12 (by rw [c1, show (2 : Nat) ^ 12 = 4096 from rfl]; omega) (by rw [d2, show (2 : Nat) ^ 12 = 4096 from rfl]; omega), c1, d2] at c2
  have d3 := shl32 (nI (WNd w 21 10)) (n := 1) (by decide)
  rw [WNd_nI w 21 (by decide), show (2 : Nat) ^ 1 = 2 from rfl] at d3
  have c3 := or32 ((((w.toInt32 >>> ((nI 31) &&& 31)) <<< ((nI 20) &&& 31)) ||| ((nI (WNd w 12 8)) <<< ((nI 12) &&& 31))) ||| ((nI (WNd w 20 1)) <<< ((nI 11) &&& 31))) ((nI (WNd w 21 10)) <<< ((nI 1) &&& 31))
  rw [or_add 11 (by rw [c2, show (2 : Nat) ^ 11 = 2048 from rfl]; omega) (by rw [d3, show (2 : Nat) ^ 11 = 2048 from rfl]; omega), c2, d3] at c3
  unfold ZE
  show _ = (((((w.toInt32 >>> ((nI 31) &&& 31)) <<< ((nI 20) &&& 31)) ||| ((nI (WNd w 12 8)) <<< ((nI 12) &&& 31))) ||| ((nI (WNd w 20 1)) <<< ((nI 11) &&& 31))) ||| ((nI (WNd w 21 10)) <<< ((nI 1) &&& 31))).toBitVec.toNat
  rw [s, c3]
  rw [show (2 : Nat) ^ 31 = 2147483648 from rfl] at a
  have e1 : WNd w 31 1 = w.toBitVec.toNat / 2147483648 % 2 := rfl
  rw [b3] at b2
  clear s b3 c0 c1 c2 c3 d1 d2 d3 j0 j1 j2 j3 j4
  generalize WNd w 12 8 = r12 at *
  generalize WNd w 20 1 = r20 at *
  generalize WNd w 21 10 = r21 at *
  generalize WNd w 31 1 = r31 at *
  generalize (w.toInt32 >>> ((nI 31) &&& 31)).toBitVec.toNat = B at *
  generalize (w.toInt32 >>> ((nI 31) &&& 31)).toBitVec.toInt = Z at *
  generalize w.toInt32.toBitVec.toInt = Y at *
  generalize w.toBitVec.toNat = W at *
  split at b1 <;> split at b2 <;> split <;> omega
theorem immB_v (h : mv_H) (w : Int64) : f_Model_immB h w.toInt32 = some ((((((w.toInt32 >>> ((31 : Int32) &&& 31)) <<< ((12 : Int32) &&& 31)) ||| ((nI (WNd w 7 1)) <<< ((11 : Int32) &&& 31))) ||| ((nI (WNd w 25 6)) <<< ((5 : Int32) &&& 31))) ||| ((nI (WNd w 8 4)) <<< ((1 : Int32) &&& 31))), h) := by
  unfold f_Model_immB
  rw [pie_7_7, xhb_s, pie_30_25, xhb_s, pie_11_8, xhb_s]
theorem immB_z (w : Int64) : ZE (u1 310 (nJ 8205) (u2 309 (nJ 1) (u2 309 (nJ 4) (u2 309 (nJ 6) (u2 309 (nJ 1) (gatV w (nJ 2147483648)) (gatV w (nJ 128))) (gatV w (nJ 2113929216))) (gatV w (nJ 3840))) (nJ 0))) (((((w.toInt32 >>> ((31 : Int32) &&& 31)) <<< ((12 : Int32) &&& 31)) ||| ((nI (WNd w 7 1)) <<< ((11 : Int32) &&& 31))) ||| ((nI (WNd w 25 6)) <<< ((5 : Int32) &&& 31))) ||| ((nI (WNd w 8 4)) <<< ((1 : Int32) &&& 31))) := by
  have l2147483648 : WNd w 31 1 < 2 := WNd_lt w 31 1
  have l128 : WNd w 7 1 < 2 := WNd_lt w 7 1
  have l2113929216 : WNd w 25 6 < 64 := WNd_lt w 25 6
  have l3840 : WNd w 8 4 < 16 := WNd_lt w 8 4
  have j0 := gat_2147483648 w
  have j1 := u309 (k := 1) (by decide) (x := gatV w (nJ 2147483648)) (y := gatV w (nJ 128)) (by rw [j0]; exact Nat.lt_of_lt_of_le (show _ < 2 by omega) (by decide)) (by rw [gat_128]; exact l128)
  rw [j0, gat_128, show (2 : Nat) ^ 1 = 2 from rfl] at j1
  have j2 := u309 (k := 6) (by decide) (x := u2 309 (nJ 1) (gatV w (nJ 2147483648)) (gatV w (nJ 128))) (y := gatV w (nJ 2113929216)) (by rw [j1]; exact Nat.lt_of_lt_of_le (show _ < 4 by omega) (by decide)) (by rw [gat_2113929216]; exact l2113929216)
  rw [j1, gat_2113929216, show (2 : Nat) ^ 6 = 64 from rfl] at j2
  have j3 := u309 (k := 4) (by decide) (x := u2 309 (nJ 6) (u2 309 (nJ 1) (gatV w (nJ 2147483648)) (gatV w (nJ 128))) (gatV w (nJ 2113929216))) (y := gatV w (nJ 3840)) (by rw [j2]; exact Nat.lt_of_lt_of_le (show _ < 256 by omega) (by decide)) (by rw [gat_3840]; exact l3840)
  rw [j2, gat_3840, show (2 : Nat) ^ 4 = 16 from rfl] at j3
  have j4 := u309 (k := 1) (by decide) (x := u2 309 (nJ 4) (u2 309 (nJ 6) (u2 309 (nJ 1) (gatV w (nJ 2147483648)) (gatV w (nJ 128))) (gatV w (nJ 2113929216))) (gatV w (nJ 3840))) (y := nJ 0) (by rw [j3]; exact Nat.lt_of_lt_of_le (show _ < 4096 by omega) (by decide)) (by decide)
  rw [j3, show (nJ 0).toBitVec.toNat = 0 from rfl, show (2 : Nat) ^ 1 = 2 from rfl] at j4
  have s := sx_13 (v := u2 309 (nJ 1) (u2 309 (nJ 4) (u2 309 (nJ 6) (u2 309 (nJ 1) (gatV w (nJ 2147483648)) (gatV w (nJ 128))) (gatV w (nJ 2113929216))) (gatV w (nJ 3840))) (nJ 0)) (by rw [j4]; omega)
  rw [j4] at s
  have a := sar_n w.toInt32 (n := 31) (by decide)
  have b1 := BitVec.toInt_eq_toNat_cond (w.toInt32 >>> ((nI 31) &&& 31)).toBitVec
  have b2 := BitVec.toInt_eq_toNat_cond w.toInt32.toBitVec
  have b3 := w32 w
  have b4 := n32_lt (w.toInt32 >>> ((nI 31) &&& 31))
  have c0 := shl32 (w.toInt32 >>> ((nI 31) &&& 31)) (n := 12) (by decide)
  rw [show (2 : Nat) ^ 12 = 4096 from rfl] at c0
  have d1 := shl32 (nI (WNd w 7 1)) (n := 11) (by decide)
  rw [WNd_nI w 7 (by decide), show (2 : Nat) ^ 11 = 2048 from rfl] at d1
  have c1 := or32 ((w.toInt32 >>> ((nI 31) &&& 31)) <<< ((nI 12) &&& 31)) ((nI (WNd w 7 1)) <<< ((nI 11) &&& 31))
  rw [or_add 12 (by rw [c0, show (2 : Nat) ^ 12 = 4096 from rfl]; omega) (by rw [d1, show (2 : Nat) ^ 12 = 4096 from rfl]; omega), c0, d1] at c1
  have d2 := shl32 (nI (WNd w 25 6)) (n := 5) (by decide)
  rw [WNd_nI w 25 (by decide), show (2 : Nat) ^ 5 = 32 from rfl] at d2
  have c2 := or32 (((w.toInt32 >>> ((nI 31) &&& 31)) <<< ((nI 12) &&& 31)) ||| ((nI (WNd w 7 1)) <<< ((nI 11) &&& 31))) ((nI (WNd w 25 6)) <<< ((nI 5) &&& 31))
  rw [or_add 11 (by rw [c1, show (2 : Nat) ^ 11 = 2048 from rfl]; omega) (by rw [d2, show (2 : Nat) ^ 11 = 2048 from rfl]; omega), c1, d2] at c2
  have d3 := shl32 (nI (WNd w 8 4)) (n := 1) (by decide)
  rw [WNd_nI w 8 (by decide), show (2 : Nat) ^ 1 = 2 from rfl] at d3
  have c3 := or32 ((((w.toInt32 >>> ((nI 31) &&& 31)) <<< ((nI 12) &&& 31)) ||| ((nI (WNd w 7 1)) <<< ((nI 11) &&& 31))) ||| ((nI (WNd w 25 6)) <<< ((nI 5) &&& 31))) ((nI (WNd w 8 4)) <<< ((nI 1) &&& 31))
  rw [or_add 5 (by rw [c2, show (2 : Nat) ^ 5 = 32 from rfl]; omega) (by rw [d3, show (2 : Nat) ^ 5 = 32 from rfl]; omega), c2, d3] at c3
  unfold ZE
  show _ = (((((w.toInt32 >>> ((nI 31) &&& 31)) <<< ((nI 12) &&& 31)) ||| ((nI (WNd w 7 1)) <<< ((nI 11) &&& 31))) ||| ((nI (WNd w 25 6)) <<< ((nI 5) &&& 31))) ||| ((nI (WNd w 8 4)) <<< ((nI 1) &&& 31))).toBitVec.toNat
  rw [s, c3]
  rw [show (2 : Nat) ^ 31 = 2147483648 from rfl] at a
  have e1 : WNd w 31 1 = w.toBitVec.toNat / 2147483648 % 2 := rfl
  rw [b3] at b2
  clear s b3 c0 c1 c2 c3 d1 d2 d3 j0 j1 j2 j3 j4
  generalize WNd w 7 1 = r7 at *
  generalize WNd w 25 6 = r25 at *
  generalize WNd w 8 4 = r8 at *
  generalize WNd w 31 1 = r31 at *
  generalize (w.toInt32 >>> ((nI 31) &&& 31)).toBitVec.toNat = B at *
  generalize (w.toInt32 >>> ((nI 31) &&& 31)).toBitVec.toInt = Z at *
  generalize w.toInt32.toBitVec.toInt = Y at *
  generalize w.toBitVec.toNat = W at *
  split at b1 <;> split at b2 <;> split <;> omega
/-- a branch -/
theorem br_go {P k : Nat} {C V : Int64} {x y t : Int32} {tk : Bool} {l1 l2 : Nat → Int64} {R : Nat → Nat → Int64} {h : mv_H} {w : Int64} (L : RLs R h) (hk : k < 48) (hd : dcV rS.1 w = nI k) (ev : rn (eW rS w) LSx 64 (stS k) [] (fun _ => 0, R, fun _ => false) = some (if C = 0 then (0, (fun _ => 0, R, fun _ => false)) else if u2 129 (nJ 2) (u1 308 (nJ 512) (u2 43 (nJ 32) (R 0 0) V)) (nJ 0) = 0 then (0, (l1, wrT (eW rS w) 0 0 (u2 43 (nJ 32) (R 0 0) V) R, updF (fun _ => false) 0)) else ((nJ 1).toInt32, (l2, R, fun _ => false)))) (st : f_Model_shippedStep P h w.toInt32 = xhb (f_Model_taken h (nI k) x y) fun u35 g34 => if u35 = (0 : Int32) then (f_Model_shippedStep_294 P (mv_i h 70 6) (0 : Int32) g34) else (xhb (f_Model_immB g34 w.toInt32) fun u37 g36 => xhb (f_Model_jump P g36 ((mv_i g34 70 6) + u37)) fun u39 g38 => some (u39, g38))) (hc : C = oneI tk) (ht : f_Model_taken h (nI k) x y = some (if tk = true then 1 else 0, h)) (him : f_Model_immB h w.toInt32 = some (t, h)) (z : ZE V t) : SSx P w h (stF rS w R).1 (stF rS w R).2 := by
  rw [ht, xhb_s] at st
  cases tk with
  | false =>
    have c0 : C = 0 := hc
    rw [if_pos c0] at ev
    rw [st_of hk hd ev]
    obtain ⟨h', e, L', F⟩ := ss_294 (P := P) (w := w) L L.1
    refine ⟨h', by rw [st]; exact e, ?_, F⟩
    show RLs (if (0 : Int32) = 0 then gfT (eW rS w) 32 (frR rS) (fun _ => 0, R, fun _ => false) else R) h'
    rw [if_pos rfl, gf_S]
    exact L'
  | true =>
    have c0 : ¬ C = 0 := by rw [hc]; decide
    rw [if_neg c0] at ev
    rw [if_neg (by decide), him, xhb_s] at st
    have zt := ZE.add L.1 z
    have ac := al_c zt
    have ar := al_r (mv_i h 70 6 + t)
    unfold f_Model_jump at st
    by_cases c : (mv_i h 70 6 + t).toBitVec.toNat % 4 = 0
    · rw [if_pos (ac.mpr c)] at ev
      rw [st_of hk hd ev]
      rw [if_pos (ar.mpr c), xk_s, xhb_s] at st
      refine ⟨_, st, ?_, SFs.pc h _⟩
      show RLs (if (0 : Int32) = 0 then gfT (eW rS w) 32 (frR rS) (l1, wrT (eW rS w) 0 0 (u2 43 (nJ 32) (R 0 0) V) R, updF (fun _ => false) 0) else R) _
      rw [if_pos rfl, gf_S, if_pos (show updF (fun _ => false) 0 0 = true from rfl)]
      exact L.pc zt.keep
    · rw [if_neg (fun q => c (ac.mp q))] at ev
      rw [st_of hk hd ev]
      rw [if_neg (fun q => c (ar.mp q)), xhb_s] at st
      refine ⟨h, st, ?_, SFs.rf h⟩
      show RLs (if (nJ 1).toInt32 = 0 then gfT (eW rS w) 32 (frR rS) (l2, R, fun _ => false) else R) h
      rw [if_neg (by decide)]
      exact L
theorem not_one (b : Bool) : u1 307 (nJ 1) (oneI b) = oneI (!b) := by cases b <;> decide +kernel

theorem op_2 (P : Nat) {R : Nat → Nat → Int64} {h : mv_H} {w : Int64} (L : RLs R h) (hk : sOv w.toInt32 = nI 2) (hd : dcV rS.1 w = nI 2) : SSx P w h (stF rS w R).1 (stF rS w R).2 := by
  refine jmp_go L (by decide) hd (ev_2 w (fun _ => 0) R (fun _ => false)) (t := mv_i h 70 6 + (((((w.toInt32 >>> ((31 : Int32) &&& 31)) <<< ((20 : Int32) &&& 31)) ||| ((nI (WNd w 12 8)) <<< ((12 : Int32) &&& 31))) ||| ((nI (WNd w 20 1)) <<< ((11 : Int32) &&& 31))) ||| ((nI (WNd w 21 10)) <<< ((1 : Int32) &&& 31)))) ?_ (ZE.add L.1 (immJ_z w))
  rw [ss_go hk (by decide), if_neg (by decide), if_neg (by decide), if_pos (by decide)]
  unfold f_Model_shippedStep_87
  rw [if_pos (by decide), immJ_v, xhb_s]
theorem op_3 (P : Nat) {R : Nat → Nat → Int64} {h : mv_H} {w : Int64} (L : RLs R h) (hk : sOv w.toInt32 = nI 3) (hd : dcV rS.1 w = nI 3) : SSx P w h (stF rS w R).1 (stF rS w R).2 := by
  refine jmp_go L (by decide) hd (ev_3 w (fun _ => 0) R (fun _ => false)) (t := (mv_a h 72 (WNd w 15 5) + (w.toInt32 >>> ((20 : Int32) &&& 31))) &&& (-2 : Int32)) ?_ (ZE.and (ZE.add (L.s w) (immI_z w)) (show ZE (nJ 4294967294) (-2 : Int32) from rfl))
  rw [ss_go hk (by decide), if_neg (by decide), if_neg (by decide), if_neg (by decide), if_pos (by decide)]
  unfold f_Model_shippedStep_87 f_Model_immI
  rw [if_neg (by decide), xhb_s]
theorem op_4 (P : Nat) {R : Nat → Nat → Int64} {h : mv_H} {w : Int64} (L : RLs R h) (hk : sOv w.toInt32 = nI 4) (hd : dcV rS.1 w = nI 4) : SSx P w h (stF rS w R).1 (stF rS w R).2 := by
  refine br_go L (by decide) hd (ev_4 w (fun _ => 0) R (fun _ => false)) (x := (mv_a h 72 (WNd w 15 5))) (y := (mv_a h 72 (WNd w 20 5))) (tk := decide ((mv_a h 72 (WNd w 15 5)) = (mv_a h 72 (WNd w 20 5)))) ?_ (ZE.eq9 (L.s w) (L.t w)) ?_ (immB_v h w) (immB_z w)
  · rw [ss_go hk (by decide), if_neg (by decide), if_neg (by decide), if_neg (by decide), if_neg (by decide), if_neg (by decide), if_neg (by decide)]
  · unfold f_Model_taken
    rw [if_pos (by decide)]
    by_cases c : (mv_a h 72 (WNd w 15 5)) = (mv_a h 72 (WNd w 20 5))
    · rw [if_pos c, decide_eq_true c]; rfl
    · rw [if_neg c, decide_eq_false c]; rfl
theorem op_5 (P : Nat) {R : Nat → Nat → Int64} {h : mv_H} {w : Int64} (L : RLs R h) (hk : sOv w.toInt32 = nI 5) (hd : dcV rS.1 w = nI 5) : SSx P w h (stF rS w R).1 (stF rS w R).2 := by
  refine br_go L (by decide) hd (ev_5 w (fun _ => 0) R (fun _ => false)) (x := (mv_a h 72 (WNd w 15 5))) (y := (mv_a h 72 (WNd w 20 5))) (tk := !decide ((mv_a h 72 (WNd w 15 5)) = (mv_a h 72 (WNd w 20 5)))) ?_ (ZE.ne9 (L.s w) (L.t w)) ?_ (immB_v h w) (immB_z w)
  · rw [ss_go hk (by decide), if_neg (by decide), if_neg (by decide), if_neg (by decide), if_neg (by decide), if_neg (by decide), if_neg (by decide)]
  · unfold f_Model_taken
    rw [if_neg (by decide), if_pos (by decide)]
    by_cases c : (mv_a h 72 (WNd w 15 5)) = (mv_a h 72 (WNd w 20 5))
    · rw [if_pos c, decide_eq_true c]; rfl
    · rw [if_neg c, decide_eq_false c]; rfl
theorem op_6 (P : Nat) {R : Nat → Nat → Int64} {h : mv_H} {w : Int64} (L : RLs R h) (hk : sOv w.toInt32 = nI 6) (hd : dcV rS.1 w = nI 6) : SSx P w h (stF rS w R).1 (stF rS w R).2 := by
  refine br_go L (by decide) hd (ev_6 w (fun _ => 0) R (fun _ => false)) (x := (mv_a h 72 (WNd w 15 5))) (y := (mv_a h 72 (WNd w 20 5))) (tk := decide ((mv_a h 72 (WNd w 15 5)) < (mv_a h 72 (WNd w 20 5)))) ?_ (ZE.slt (L.s w) (L.t w)) ?_ (immB_v h w) (immB_z w)
  · rw [ss_go hk (by decide), if_neg (by decide), if_neg (by decide), if_neg (by decide), if_neg (by decide), if_neg (by decide), if_neg (by decide)]
  · unfold f_Model_taken
    rw [if_neg (by decide), if_neg (by decide), if_pos (by decide)]
    by_cases c : (mv_a h 72 (WNd w 15 5)) < (mv_a h 72 (WNd w 20 5))
    · rw [if_neg (fun q => absurd c (Int32.not_lt.mpr q)), decide_eq_true c]; rfl
    · rw [if_pos (Int32.not_lt.mp c), decide_eq_false c]; rfl
theorem op_7 (P : Nat) {R : Nat → Nat → Int64} {h : mv_H} {w : Int64} (L : RLs R h) (hk : sOv w.toInt32 = nI 7) (hd : dcV rS.1 w = nI 7) : SSx P w h (stF rS w R).1 (stF rS w R).2 := by
  refine br_go L (by decide) hd (ev_7 w (fun _ => 0) R (fun _ => false)) (x := (mv_a h 72 (WNd w 15 5))) (y := (mv_a h 72 (WNd w 20 5))) (tk := !decide ((mv_a h 72 (WNd w 15 5)) < (mv_a h 72 (WNd w 20 5)))) ?_ (by rw [ZE.slt (L.s w) (L.t w), not_one]) ?_ (immB_v h w) (immB_z w)
  · rw [ss_go hk (by decide), if_neg (by decide), if_neg (by decide), if_neg (by decide), if_neg (by decide), if_neg (by decide), if_neg (by decide)]
  · unfold f_Model_taken
    rw [if_neg (by decide), if_neg (by decide), if_neg (by decide), if_pos (by decide)]
    by_cases c : (mv_a h 72 (WNd w 15 5)) < (mv_a h 72 (WNd w 20 5))
    · rw [if_pos c, decide_eq_true c]; rfl
    · rw [if_neg c, decide_eq_false c]; rfl
theorem op_8 (P : Nat) {R : Nat → Nat → Int64} {h : mv_H} {w : Int64} (L : RLs R h) (hk : sOv w.toInt32 = nI 8) (hd : dcV rS.1 w = nI 8) : SSx P w h (stF rS w R).1 (stF rS w R).2 := by
  refine br_go L (by decide) hd (ev_8 w (fun _ => 0) R (fun _ => false)) (x := (mv_a h 72 (WNd w 15 5))) (y := (mv_a h 72 (WNd w 20 5))) (tk := decide ((mv_a h 72 (WNd w 15 5)).toBitVec.toNat < (mv_a h 72 (WNd w 20 5)).toBitVec.toNat)) ?_ (ZE.lt9 (L.s w) (L.t w)) ?_ (immB_v h w) (immB_z w)
  · rw [ss_go hk (by decide), if_neg (by decide), if_neg (by decide), if_neg (by decide), if_neg (by decide), if_neg (by decide), if_neg (by decide)]
  · unfold f_Model_taken
    rw [if_neg (by decide), if_neg (by decide), if_neg (by decide), if_neg (by decide), if_pos (by decide)]
    rw [less_v, xhb_s]
    by_cases c : (mv_a h 72 (WNd w 15 5)).toBitVec.toNat < (mv_a h 72 (WNd w 20 5)).toBitVec.toNat
    · rw [if_pos c, decide_eq_true c]; rfl
    · rw [if_neg c, decide_eq_false c]; rfl
theorem op_9 (P : Nat) {R : Nat → Nat → Int64} {h : mv_H} {w : Int64} (L : RLs R h) (hk : sOv w.toInt32 = nI 9) (hd : dcV rS.1 w = nI 9) : SSx P w h (stF rS w R).1 (stF rS w R).2 := by
  refine br_go L (by decide) hd (ev_9 w (fun _ => 0) R (fun _ => false)) (x := (mv_a h 72 (WNd w 15 5))) (y := (mv_a h 72 (WNd w 20 5))) (tk := !decide ((mv_a h 72 (WNd w 15 5)).toBitVec.toNat < (mv_a h 72 (WNd w 20 5)).toBitVec.toNat)) ?_ (ZE.le9 (L.t w) (L.s w)) ?_ (immB_v h w) (immB_z w)
  · rw [ss_go hk (by decide), if_neg (by decide), if_neg (by decide), if_neg (by decide), if_neg (by decide), if_neg (by decide), if_neg (by decide)]
  · unfold f_Model_taken
    rw [if_neg (by decide), if_neg (by decide), if_neg (by decide), if_neg (by decide), if_neg (by decide)]
    rw [less_v, xhb_s]
    by_cases c : (mv_a h 72 (WNd w 15 5)).toBitVec.toNat < (mv_a h 72 (WNd w 20 5)).toBitVec.toNat
    · rw [if_pos c, decide_eq_true c]; rfl
    · rw [if_neg c, decide_eq_false c]; rfl
