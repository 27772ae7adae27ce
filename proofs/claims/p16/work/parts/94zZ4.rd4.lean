/-! good roads: named -/
section NMG
variable {P N : Nat} {T : Nat → Nat} {lk : List Nat → Nat × Nat} {lz : LZ} {C LW : List Nat} {Tn d nn : Nat}
theorem chr_n {c : Nat} (h : c < 128) : chr c = nI c := by
  have : ∀ k : Fin 128, chr k.val = nI k.val := by decide +kernel
  exact this ⟨c, h⟩
theorem nm_G (IH : IHg P N T lk C LW Tn lz nn) {m j : Nat} {h : mv_H} (E : ESq P N T lk true d h m) (Z : ZQ P N T lz C LW Tn h) (G : gkT T N j) (hmj : m ≤ j) (hk : kdT T N j = 3) (F : Fq (nn + 1) 5 0 d) (v : Int64) {r : VD} (ht : tNm (txT T N) lk lz C (tR (txT T N) lk lz C nn) d j = some r) : XGq P N T lk C LW Tn (rho 5 0 d) d j m h r (f_Book_named P (f_BookR P nn) (rB P N h j v)) := by
  have H := E.hb
  have hP := H.p
  unfold Fq rkq at F
  rw [if_neg (by omega), if_neg (by omega), if_neg (by omega), if_neg (by omega), if_neg (by omega)] at F
  have pq := name_pq E G
  have hn2 := H.n2
  have en : (txT T N).nm j = tn T (pos T N j) (bp T N (j + 1) - pos T N j) := by
    show (if (tok T N j).1 = 3 then _ else _) = _
    rw [if_neg (by rw [((kd_nm H.lt G.1).mpr hk).1]; decide)]
  have hlk : lk ((txT T N).nm j) = lkQ P N h (pos T N j) (bp T N (j + 1)) := by rw [en]; exact (E.ev rfl _ _ pq.1 pq.2).symm
  have z1 := Z.2 _ _ pq.1 pq.2
  rw [← en] at z1
  have hlp := E.lp ((txT T N).nm j)
  have rh : rho 0 0 (d + 1) = rho 5 0 d - 1 ∧ 0 < rho 5 0 d := by
    unfold rho
    rw [if_pos rfl, if_neg (by omega), if_neg (by omega)]
    omega
  unfold tNm at ht
  obtain ⟨u1, g1, ht⟩ := obn ht
  obtain ⟨hd, G1, v1, e1⟩ := psG H G (by omega) (by omega) v g1
  have hjb := gk_le E G1
  have hm : m < 33000 := by omega
  unfold f_Book_named
  rw [H.k5, H.k6, e1, xtb_s, let_S E pq.1 pq.2, xhb_s]
  -- a value: a node
  have val : ∀ (k w : Nat) (s x y z : Int32) (D : DnE), (k = 1 ∨ k = 3) → lkQ P N h (pos T N j) (bp T N (j + 1)) = (k, w) → w ≤ 64 → dNm C k (lz ((txT T N).nm j)) = D → (0 < w → ND P (ndH P m s x y z w h) Tn m C LW (m + 1) (rho 5 0 d) m w D) → XGq P N T lk C LW Tn (rho 5 0 d) d j m h r (xhb (f_Book_node P (rB P N h (j + 1) v1) s x y z (nI w)) fun u g => some (some u, g)) := fun k w s x y z D hk ew hw eD hN => by
    rw [hlk, ew] at ht hlp
    rw [if_pos (show ((k, w) : Nat × Nat).1 = 3 ∨ ((k, w) : Nat × Nat).1 = 1 by show k = 3 ∨ k = 1; omega)] at ht
    have hw0 : 0 < w := (hlp (by show ¬ k = 0; omega)).1
    obtain rfl := Option.some.inj ht
    obtain ⟨e4, E4⟩ := nNx E hm s x y z (w := w) (by omega) (j + 1) v1
    rw [e4, xhb_s]
    refine ⟨m, _, v1, m + 1, rfl, ⟨E4, ndH_X, by show j < j + 1; omega, G1, by show m + 1 + j ≤ m + (j + 1); omega, by omega, by omega, ndH_23, by show w ≤ 40000; omega, fun _ => hw0⟩, ndH_B, ?_, ndH_22⟩
    show ND P (ndH P m s x y z w h) Tn m C LW (m + 1) (rho 5 0 d) m w (dNm C k (lz ((txT T N).nm j)))
    rw [eD]
    exact hN hw0
  have elk : lkQ P N h (pos T N j) (bp T N (j + 1)) = match lfz P h (pos T N j) (bp T N (j + 1)) with
      | some i => (3, (mv_a h (P + 16) i).toNatClampNeg)
      | none => if bp T N (j + 1) - pos T N j = 1 ∧ isl (ck h N (pos T N j)) = true ∧ 0 < cfz P N h (pos T N j) then (3, cfz P N h (pos T N j)) else match tfz P h (pos T N j) (bp T N (j + 1)) with
        | some i => if mv_a h (P + 6) i = 0 then (1, (mv_a h (P + 3) i).toNatClampNeg) else (2, (mv_a h (P + 3) i).toNatClampNeg)
        | none => (0, 0) := rfl
  cases c1 : lfz P h (pos T N j) (bp T N (j + 1)) with
  | some i =>
    rw [c1] at elk z1
    obtain ⟨z2, z3, z4, z5⟩ := z1
    have hi := fsz_lt c1
    have l1 := E.ro.l1
    have l3 := E.ro.l3 i hi
    rw [show resI (some i) = nI i from rfl, if_neg (nI_neg (by omega)), xvi_n (by omega) (by decide), cond_true, cond_true, cln (by omega)]
    have ew : mv_a (rB P N h (j + 1) v1) (P + 16) i = nI (mv_a h (P + 16) i).toNatClampNeg := l3.1
    have es : mv_a (rB P N h (j + 1) v1) (P + 17) i = nI (lz ((txT T N).nm j)) := z3
    rw [ew, es]
    refine val 3 _ 5 _ 0 0 (dLet (lz ((txT T N).nm j))) (Or.inr rfl) elk z5 (by unfold dNm; rw [if_neg (by omega), if_pos z2]) (fun hw => ⟨⟨ndH_23, hw, z5, hm, rh.2, Nat.le_refl _⟩, Or.inr (Or.inr (Or.inr (Or.inr (Or.inl ⟨_, ndH_18, ndH_19, z2, z4, rfl⟩))))⟩)
  | none =>
    rw [c1] at elk z1
    rw [show resI none = -1 from rfl, if_pos (show (-1 : Int32) < 0 by decide), fld_S E pq.1 pq.2, xhb_s]
    by_cases c2 : bp T N (j + 1) - pos T N j = 1 ∧ isl (ck h N (pos T N j)) = true ∧ 0 < cfz P N h (pos T N j)
    · rw [decide_eq_true c2, if_neg (show ¬ b01 true = 0 by decide), look_S E (by omega), xhb_s, look_S E (by omega), xhb_s, ltb_S E, xhb_s]
      simp only [if_pos c2] at elk
      have z1 : (if decide (bp T N (j + 1) - pos T N j = 1) = true ∧ isl (ck h N (pos T N j)) = true ∧ 0 < cfz P N h (pos T N j) then lz ((txT T N).nm j) = 64 + ck h N (pos T N j) ∧ ck h N (pos T N j) < 128 ∧ cfz P N h (pos T N j) = cntL (ck h N (pos T N j)) C ∧ cntL (ck h N (pos T N j)) C ≤ 64 else _) := z1
      rw [if_pos ⟨decide_eq_true c2.1, c2.2⟩] at z1
      obtain ⟨z2, z3, z4, z5⟩ := z1
      refine val 3 (cfz P N h (pos T N j)) 4 _ 0 0 (dFld (nJ (mskC C (ck h N (pos T N j))))) (Or.inr rfl) elk (by omega) (by unfold dNm; rw [if_neg (by omega), if_neg (by omega), z2, Nat.add_sub_cancel_left]) (fun hw => ⟨⟨ndH_23, hw, by omega, hm, rh.2, Nat.le_refl _⟩, Or.inr (Or.inr (Or.inr (Or.inl ⟨ck h N (pos T N j), ndH_18, ?_, z3, rfl, z4⟩)))⟩)
      rw [ndH_19, chr_n z3]
    · rw [decide_eq_false c2, if_pos (show b01 false = 0 from rfl), thg_S E pq.1 pq.2, xhb_s]
      simp only [if_neg c2] at elk
      have z1 : (if decide (bp T N (j + 1) - pos T N j = 1) = true ∧ isl (ck h N (pos T N j)) = true ∧ 0 < cfz P N h (pos T N j) then _ else match tfz P h (pos T N j) (bp T N (j + 1)) with | some t => lz ((txT T N).nm j) = t | none => True) := z1
      rw [if_neg (fun q => c2 ⟨of_decide_eq_true q.1, q.2⟩)] at z1
      cases c3 : tfz P h (pos T N j) (bp T N (j + 1)) with
      | none =>
        rw [c3] at elk
        rw [hlk, elk, if_neg (by show ¬ (0 = 3 ∨ 0 = 1); decide), if_neg (fun z => absurd (show 0 = 2 from z.1) (by decide))] at ht
        cases ht
      | some t =>
        rw [c3] at elk z1
        have z1 : lz ((txT T N).nm j) = t := z1
        have ht0 := fsz_lt c3
        have t1 := E.ro.t1
        have t3 := E.ro.t3 t ht0
        have htn : t < Tn := by rw [← Z.1]; exact ht0
        rw [show resI (some t) = nI t from rfl, if_pos (show (0 : Int32) ≤ nI t from (nIle (a := 0) (by omega) (by omega)).mpr (by omega)), xvi_n (by omega) (by decide), cond_true, cond_true, cln (by omega)]
        have ew : mv_a (rB P N h (j + 1) v1) (P + 3) t = nI (mv_a h (P + 3) t).toNatClampNeg := t3.1
        have ef : mv_a (rB P N h (j + 1) v1) (P + 6) t = mv_a h (P + 6) t := rfl
        rw [ew, ef, H.k4]
        have hch : (tok T N (j + 1)).1 = (91 : Int32) ↔ kdT T N (j + 1) = 91 := H.ch (c := 91) G1 (by omega) (by omega)
        by_cases c4 : mv_a h (P + 6) t = 0
        · rw [if_pos c4]
          simp only [if_pos c4] at elk
          refine val 1 _ 2 _ 0 0 (dReg t) (Or.inl rfl) elk t3.2 (by unfold dNm; rw [if_pos rfl, z1]) (fun hw => ⟨⟨ndH_23, hw, t3.2, hm, rh.2, Nat.le_refl _⟩, Or.inr (Or.inl ⟨t, ndH_18, ndH_19, by omega, htn, rfl, ?_, ?_⟩)⟩)
          · rw [ndH_X.a (P + 3) (by omega)]; exact t3.1
          · rw [ndH_X.a (P + 6) (by omega)]; exact c4
        · rw [if_neg c4]
          simp only [if_neg c4] at elk
          rw [hlk, elk, if_neg (by show ¬ (2 = 3 ∨ 2 = 1); decide)] at ht
          have c5 : kdT T N (j + 1) = 91 := by
            by_cases c5 : kdT T N (j + 1) = 91
            · exact c5
            · rw [if_neg (fun z => c5 z.2)] at ht; cases ht
          rw [if_pos ⟨rfl, c5⟩] at ht
          rw [if_pos (hch.mpr c5)]
          obtain ⟨u2, g2, ht⟩ := obn ht
          obtain ⟨⟨j3, w3, D3⟩, t3', ht⟩ := obn ht
          obtain ⟨u4, g4, ht⟩ := obn ht
          obtain rfl := Option.some.inj ht
          obtain ⟨-, G2, v2, e2⟩ := psG H G1 (by omega) (by omega) v1 g2
          have E2 := E.dep (d2 := d + 1) (by omega)
          obtain ⟨x3, h3, v3, m3, e3, R3, B3, N3, O3⟩ := IH 0 0 0 (d + 1) (j + 2) _ m v2 _ (by unfold Fq rkq; rw [if_pos rfl]; omega) E2 (Z.dep (nI (d + 1))) G2 (by omega) (preg0 (Or.inl rfl)) t3'
          have e3 : f_BookR P nn 0 0 (rB P N (mv_si h P 8 (nI (d + 1))) (j + 1 + 1) v2) = some (some (nI x3), rB P N h3 j3 v3) := e3
          have R3 : XRq P N T lk true (d + 1) (j + 2) j3 m m3 (mv_si h P 8 (nI (d + 1))) h3 x3 w3 := R3
          have N3 : ND P h3 Tn m C LW (x3 + 1) (rho 0 0 (d + 1)) x3 w3 D3 := N3
          obtain ⟨k4, -, G4, v4, e4⟩ := nG R3.es.hb R3.gk (c := 93) (k := 93) (by omega) (R3.es.hb.ch (c := 93) R3.gk (by omega) (by omega)) v3 g4
          rw [e2, xtb_s, dUp H hd, xk_s, e3, xtb_s, e4, xtb_s, dDn R3.es.hb, xk_s]
          have E6 := R3.es.dep (d2 := d) (by omega)
          have X6 := R3.fr.dep H.dp
          have hc := R3.cnt
          have hj := R3.jj
          have hmm := R3.mm
          have xm := R3.xm
          have hjb3 := gk_le R3.es R3.gk
          have h3m : m3 < 33000 := by omega
          have wd := N3.wd
          have ex : mv_a (rB P N (mv_si h3 P 8 (nI d)) (j3 + 1) v4) (P + 23) x3 = nI w3 := wd.1
          have et : mv_a (rB P N (mv_si h3 P 8 (nI d)) (j3 + 1) v4) (P + 3) t = nI (mv_a h (P + 3) t).toNatClampNeg := (congrFun (X6.a (P + 3) (by omega)) t).trans t3.1
          rw [xvi_n (by omega) (by decide), cond_true, cond_true, cln (by omega), ex, et]
          unfold f_Book_named_223
          rw [if_neg (show ¬ nI w3 = 0 from fun z => absurd ((nIinj (b := 0) (by omega) (by omega)).mp z) (by omega))]
          obtain ⟨e5, E5⟩ := nNx E6 h3m 3 (nI t) (nI x3) 0 (w := (mv_a h (P + 3) t).toNatClampNeg) (by omega) (j3 + 1) v4
          rw [hlk, elk] at hlp
          have hw0 : 0 < (mv_a h (P + 3) t).toNatClampNeg := (hlp (by show ¬ 2 = 0; decide)).1
          rw [e5, xhb_s]
          have N3' : ND P (mv_si h3 P 8 (nI d)) Tn m C LW (x3 + 1) (rho 0 0 (d + 1)) x3 w3 D3 := N3.sd P 8 (nI d)
          refine ⟨m3, _, v4, m3 + 1, rfl, ⟨E5, X6.trans ndH_X hmm, by show j < j3 + 1; omega, G4, by show m3 + 1 + j ≤ m + (j3 + 1); omega, by omega, by omega, ndH_23, by show (mv_a h (P + 3) t).toNatClampNeg ≤ 40000; omega, fun _ => hw0⟩, NB.trans (h1 := mv_si h3 P 8 (nI d)) B3 ndH_B hmm, ⟨⟨ndH_23, hw0, t3.2, h3m, rh.2, by omega⟩, Or.inr (Or.inr (Or.inl ⟨t, x3, w3, D3, ndH_18, ndH_19, by omega, htn, ndH_20, xm, ((N3'.rk (by omega)).le (by omega)).nd xm, ?_, ?_, ?_⟩))⟩, ndH_22⟩
          · show dCel (lz ((txT T N).nm j)) D3 = _
            rw [z1]
          · show mv_a (ndH P m3 3 (nI t) (nI x3) 0 (mv_a h (P + 3) t).toNatClampNeg (mv_si h3 P 8 (nI d))) (P + 3) t = _
            rw [ndH_X.a (P + 3) (by omega)]; exact et
          · rw [ndH_X.a (P + 6) (by omega), X6.a (P + 6) (by omega)]; exact c4
/-! called, wider -/
theorem ca_G (IH : IHg P N T lk C LW Tn lz nn) {m j : Nat} {h : mv_H} (E : ESq P N T lk true d h m) (Z : ZQ P N T lz C LW Tn h) (G : gkT T N j) (hmj : m ≤ j) {ko : Nat} (hko : (ko, kdT T N j) ∈ OPK) (hk : 213 ≤ kdT T N j) (F : Fq (nn + 1) 7 0 d) (v : Int64) {r : VD} (ht : tCa (txT T N) (tR (txT T N) lk lz C nn) d j = some r) : XGq P N T lk C LW Tn (rho 7 0 d) d j m h r (f_Book_called P (f_BookR P nn) (rB P N h j v) (nI ko)) := by
  have H := E.hb
  have hP := H.p
  unfold Fq rkq at F
  rw [if_neg (by omega), if_neg (by omega), if_neg (by omega), if_neg (by omega), if_neg (by omega)] at F
  have rh : rho 0 0 (d + 1) = rho 7 0 d - 1 ∧ 0 < rho 7 0 d ∧ rho 0 0 (d + 1) ≤ rho 7 0 d := by
    unfold rho
    rw [if_pos rfl, if_neg (by omega), if_neg (by omega)]
    omega
  unfold tCa at ht
  obtain ⟨u1, g1, ht⟩ := obn ht
  obtain ⟨u2, g2, ht⟩ := obn ht
  obtain ⟨⟨j3, w3, D3⟩, t3, ht⟩ := obn ht
  obtain ⟨u4, g4, ht⟩ := obn ht
  obtain ⟨⟨j5, w5, D5⟩, t5, ht⟩ := obn ht
  obtain ⟨u6, g6, ht⟩ := obn ht
  obtain ⟨w7, t7, ht⟩ := obn ht
  obtain rfl := Option.some.inj ht
  have t7 : tw (kdT T N j) w3 w5 = some w7 := t7
  obtain ⟨hd, G1, v1, e1⟩ := psG H G (by omega) (by omega) v g1
  obtain ⟨k2, -, G2, v2, e2⟩ := nG H G1 (c := 40) (k := 40) (by omega) (H.ch (c := 40) G1 (by omega) (by omega)) v1 g2
  have E2 := E.dep (d2 := d + 1) (by omega)
  have F2 : Fq nn 0 0 (d + 1) := by unfold Fq rkq; rw [if_pos rfl]; omega
  have Z2 := Z.dep (nI (d + 1))
  obtain ⟨x3, h3, v3, m3, e3, R3, B3, N3, O3⟩ := IH 0 0 0 (d + 1) (j + 2) _ m v2 _ F2 E2 Z2 G2 (by omega) (preg0 (Or.inl rfl)) t3
  have e3 : f_BookR P nn 0 0 (rB P N (mv_si h P 8 (nI (d + 1))) (j + 1 + 1) v2) = some (some (nI x3), rB P N h3 j3 v3) := e3
  have R3 : XRq P N T lk true (d + 1) (j + 2) j3 m m3 (mv_si h P 8 (nI (d + 1))) h3 x3 w3 := R3
  have N3 : ND P h3 Tn m C LW (x3 + 1) (rho 0 0 (d + 1)) x3 w3 D3 := N3
  obtain ⟨k4, -, G4, v4, e4⟩ := nG R3.es.hb R3.gk (c := 44) (k := 44) (by omega) (R3.es.hb.ch (c := 44) R3.gk (by omega) (by omega)) v3 g4
  have hc3 := R3.cnt
  have hj3 := R3.jj
  have hm3 := R3.mm
  obtain ⟨x5, h5, v5, m5, e5, R5, B5, N5, O5⟩ := IH 0 0 0 (d + 1) (j3 + 1) h3 m3 v4 _ F2 R3.es (Z2.fr R3.fr hP) G4 (by omega) (preg0 (Or.inl rfl)) t5
  have e5 : f_BookR P nn 0 0 (rB P N h3 (j3 + 1) v4) = some (some (nI x5), rB P N h5 j5 v5) := e5
  have R5 : XRq P N T lk true (d + 1) (j3 + 1) j5 m3 m5 h3 h5 x5 w5 := R5
  obtain ⟨k6, -, G6, v6, e6⟩ := nG R5.es.hb R5.gk (c := 41) (k := 41) (by omega) (R5.es.hb.ch (c := 41) R5.gk (by omega) (by omega)) v5 g6
  unfold f_Book_called
  rw [e1, xtb_s, e2, xtb_s, dUp H hd, xk_s, e3, xtb_s, e4, xtb_s, e5, xtb_s, e6, xtb_s, dDn R5.es.hb, xk_s]
  have hc5 := R5.cnt
  have hj5 := R5.jj
  have hm5 := R5.mm
  have E6 := R5.es.dep (d2 := d) (by omega)
  have R35 := R3.tr R5 (by omega)
  have X6 := R35.fr.dep H.dp
  have hjb := gk_le R5.es R5.gk
  have h5m : m5 < 33000 := by omega
  have xm3 := R3.xm
  have xm5 := R5.xm
  have N3' : ND P (mv_si h5 P 8 (nI d)) Tn m C LW (x3 + 1) (rho 0 0 (d + 1)) x3 w3 D3 := ND.sd (N3.fr (B5.nf R5.fr) (by omega)) P 8 (nI d)
  have N5' : ND P (mv_si h5 P 8 (nI d)) Tn m3 C LW (x5 + 1) (rho 0 0 (d + 1)) x5 w5 D5 := ND.sd N5 P 8 (nI d)
  have w3' := N3'.wd
  have w5' := N5'.wd
  obtain ⟨e7, E7, hw7, hw8⟩ := two_G E6 h5m hko (mv_i (rB P N h j v) P 5) (show x3 < m5 by omega) xm5 w3'.1 w5'.1 w3'.2.2.1 w5'.2.2.1 w3'.2.1 w5'.2.1 t7 (j5 + 1) v6
  rw [e7, xhb_s]
  exact ⟨m5, _, v6, m5 + 1, rfl, ⟨E7, X6.trans ndH_X (by omega), by show j < j5 + 1; omega, G6, by show m5 + 1 + j ≤ m + (j5 + 1); omega, by omega, by omega, ndH_23, by show w7 ≤ 40000; omega, fun _ => hw7⟩, NB.trans (h1 := mv_si h5 P 8 (nI d)) (NB.trans (h1 := h3) B3 B5 hm3) ndH_B (by omega), ⟨⟨ndH_23, hw7, hw8, h5m, rh.2.1, by omega⟩, Or.inr (Or.inr (Or.inr (Or.inr (Or.inr (Or.inr (Or.inl ⟨x3, x5, w3, w5, D3, D5, ko, kdT T N j, ndH_18, ndH_19, ndH_20, ndH_21, hko, by omega, xm5, ((N3'.rk rh.2.2).le (by omega)).nd (by omega), (((N5'.lo hm3).rk (by omega)).le (by omega)).nd xm5, t7, rfl⟩))))))⟩, ndH_22⟩
theorem wi_G (IH : IHg P N T lk C LW Tn lz nn) {m j : Nat} {h : mv_H} (E : ESq P N T lk true d h m) (Z : ZQ P N T lz C LW Tn h) (G : gkT T N j) (hmj : m ≤ j) {α : Int32} (hk : (kdT T N j = 211 ∧ α = 1) ∨ (kdT T N j = 212 ∧ α = 0)) (F : Fq (nn + 1) 6 0 d) (v : Int64) {r : VD} (ht : tWi (txT T N) (tR (txT T N) lk lz C nn) d j = some r) : XGq P N T lk C LW Tn (rho 6 0 d) d j m h r (f_Book_wider P (f_BookR P nn) (rB P N h j v) α) := by
  have H := E.hb
  have hP := H.p
  unfold Fq rkq at F
  rw [if_neg (by omega), if_neg (by omega), if_neg (by omega), if_neg (by omega), if_neg (by omega)] at F
  have rh : rho 0 0 (d + 1) = rho 6 0 d - 1 ∧ 0 < rho 6 0 d := by
    unfold rho
    rw [if_pos rfl, if_neg (by omega), if_neg (by omega)]
    omega
  unfold tWi at ht
  obtain ⟨u1, g1, ht⟩ := obn ht
  obtain ⟨u2, g2, ht⟩ := obn ht
  obtain ⟨⟨j3, w3, D3⟩, t3, ht⟩ := obn ht
  obtain ⟨u4, g4, ht⟩ := obn ht
  obtain ⟨u5, g5, ht⟩ := obn ht
  obtain ⟨u6, g6, ht⟩ := obn ht
  have cc : 1 ≤ (txT T N).nu (j3 + 1) ∧ (txT T N).nu (j3 + 1) ≤ 64 ∧ w3 ≤ (txT T N).nu (j3 + 1) := by
    by_cases q : 1 ≤ (txT T N).nu (j3 + 1) ∧ (txT T N).nu (j3 + 1) ≤ 64 ∧ w3 ≤ (txT T N).nu (j3 + 1)
    · exact q
    · rw [if_neg (show ¬ (1 ≤ (txT T N).nu (((j3, w3, D3) : VD).1 + 1) ∧ (txT T N).nu (((j3, w3, D3) : VD).1 + 1) ≤ 64 ∧ ((j3, w3, D3) : VD).2.1 ≤ (txT T N).nu (((j3, w3, D3) : VD).1 + 1)) from q)] at ht; cases ht
  rw [if_pos (show 1 ≤ (txT T N).nu (((j3, w3, D3) : VD).1 + 1) ∧ (txT T N).nu (((j3, w3, D3) : VD).1 + 1) ≤ 64 ∧ ((j3, w3, D3) : VD).2.1 ≤ (txT T N).nu (((j3, w3, D3) : VD).1 + 1) from cc)] at ht
  obtain rfl := Option.some.inj ht
  obtain ⟨hd, G1, v1, e1⟩ := psG H G (by omega) (by omega) v g1
  obtain ⟨k2, -, G2, v2, e2⟩ := nG H G1 (c := 40) (k := 40) (by omega) (H.ch (c := 40) G1 (by omega) (by omega)) v1 g2
  have E2 := E.dep (d2 := d + 1) (by omega)
  have F2 : Fq nn 0 0 (d + 1) := by unfold Fq rkq; rw [if_pos rfl]; omega
  obtain ⟨x3, h3, v3, m3, e3, R3, B3, N3, O3⟩ := IH 0 0 0 (d + 1) (j + 2) _ m v2 _ F2 E2 (Z.dep (nI (d + 1))) G2 (by omega) (preg0 (Or.inl rfl)) t3
  have e3 : f_BookR P nn 0 0 (rB P N (mv_si h P 8 (nI (d + 1))) (j + 1 + 1) v2) = some (some (nI x3), rB P N h3 j3 v3) := e3
  have R3 : XRq P N T lk true (d + 1) (j + 2) j3 m m3 (mv_si h P 8 (nI (d + 1))) h3 x3 w3 := R3
  have N3 : ND P h3 Tn m C LW (x3 + 1) (rho 0 0 (d + 1)) x3 w3 D3 := N3
  have H3 := R3.es.hb
  obtain ⟨k4, -, G4, v4, e4⟩ := nG H3 R3.gk (c := 44) (k := 44) (by omega) (H3.ch (c := 44) R3.gk (by omega) (by omega)) v3 g4
  obtain ⟨k5, -, G5, v5, e5⟩ := nG H3 G4 (c := 4) (k := 2) (by omega) (kd_num H3.lt G4.1) v4 g5
  obtain ⟨n5, nn5⟩ := R3.es.num G4 k5 v4
  obtain ⟨k6, -, G6, v6, e6⟩ := nG H3 G5 (c := 41) (k := 41) (by omega) (H3.ch (c := 41) G5 (by omega) (by omega)) v5 g6
  have hc3 := R3.cnt
  have hj3 := R3.jj
  have hm3 := R3.mm
  have E6 := R3.es.dep (d2 := d) (by omega)
  have X6 := R3.fr.dep H.dp
  have hjb := gk_le R3.es R3.gk
  have h3m : m3 < 33000 := by omega
  have xm3 := R3.xm
  have wd := N3.wd
  have ex : mv_a (rB P N (mv_si h3 P 8 (nI d)) (j3 + 3) v6) (P + 23) (nI x3).toNatClampNeg = nI w3 := by rw [cln (by omega)]; exact wd.1
  have g126 : ∀ y, f_Book_wider_126 P (f_BookR P nn) (nI x3) (nJ ((txT T N).nu (j3 + 1))) 1 y (rB P N (mv_si h3 P 8 (nI d)) (j3 + 3) v6) = some (some (nI m3), rB P N (ndH P m3 y (nI x3) 0 0 ((txT T N).nu (j3 + 1)) (mv_si h3 P 8 (nI d))) (j3 + 3) v6) := fun y => by
    unfold f_Book_wider_126
    rw [if_neg n10, xvi_n (by omega) (by decide), cond_true, ex, if_neg (fun z => absurd ((nle_0 (by omega)).mp z) (by omega)), nJi (by omega)]
    unfold f_Book_wider_149
    rw [(nNx E6 h3m y (nI x3) 0 0 (w := (txT T N).nu (j3 + 1)) (by omega) (j3 + 3) v6).1, xhb_s]
  have e95 : f_Book_wider P (f_BookR P nn) (rB P N h j v) α = if α = 0 then some (some (nI m3), rB P N (ndH P m3 12 (nI x3) 0 0 ((txT T N).nu (j3 + 1)) (mv_si h3 P 8 (nI d))) (j3 + 3) v6) else some (some (nI m3), rB P N (ndH P m3 11 (nI x3) 0 0 ((txT T N).nu (j3 + 1)) (mv_si h3 P 8 (nI d))) (j3 + 3) v6) := by
    unfold f_Book_wider
    rw [e1, xtb_s, e2, xtb_s, dUp H hd, xk_s, e3, xtb_s, e4, xtb_s, e5, xtb_s, n5, e6, xtb_s, dDn H3, xk_s, show (1 : Int64) = nJ 1 from rfl, show (64 : Int64) = nJ 64 from rfl, in_S _ nn5 (by omega) (by omega), xhb_s, decide_eq_true (⟨cc.1, cc.2.1⟩ : 1 ≤ (txT T N).nu (j3 + 1) ∧ (txT T N).nu (j3 + 1) ≤ 64), if_neg (show ¬ b01 true = 0 by decide), xvi_n (by omega) (by decide), cond_true, cond_true, ex, if_neg (show ¬ nI w3 = 0 from fun z => absurd ((nIinj (b := 0) (by omega) (by omega)).mp z) (by omega)), xI_l, xi2l_s (by omega), if_neg (show ¬ lg_cmp (nJ ((txT T N).nu (j3 + 1))) (nJ w3) < 0 from fun z => by have := (lc_lt nn5 (w := w3) (by omega)).mp z; omega)]
    unfold f_Book_wider_95 f_Book_wider_100 f_Book_wider_114
    rw [if_neg n10, g126, g126]
  have N3' : ND P (mv_si h3 P 8 (nI d)) Tn m C LW (x3 + 1) (rho 0 0 (d + 1)) x3 w3 D3 := N3.sd P 8 (nI d)
  rw [e95]
  rcases hk with ⟨k1, rfl⟩ | ⟨k1, rfl⟩
  · rw [if_neg (show ¬ (1 : Int32) = 0 by decide)]
    have E7 := (nNx E6 h3m 11 (nI x3) 0 0 (w := (txT T N).nu (j3 + 1)) (by omega) (j3 + 3) v6).2
    refine ⟨m3, _, v6, m3 + 1, rfl, ⟨E7, X6.trans ndH_X hm3, by show j < j3 + 3; omega, G6, by show m3 + 1 + j ≤ m + (j3 + 3); omega, by omega, by omega, ndH_23, by show (txT T N).nu (j3 + 1) ≤ 40000; omega, fun _ => by show 0 < (txT T N).nu (j3 + 1); omega⟩, NB.trans (h1 := mv_si h3 P 8 (nI d)) B3 ndH_B hm3, ⟨⟨ndH_23, by show 0 < (txT T N).nu (j3 + 1); omega, cc.2.1, h3m, rh.2, by omega⟩, Or.inr (Or.inr (Or.inr (Or.inr (Or.inr (Or.inr (Or.inr (Or.inr (Or.inr (Or.inr (Or.inl ⟨x3, w3, D3, ndH_18, ndH_19, xm3, cc.2.2, ((N3'.rk (by omega)).le (by omega)).nd xm3, ?_⟩))))))))))⟩, ndH_22⟩
    exact if_pos k1
  · rw [if_pos (show (0 : Int32) = 0 from rfl)]
    have E7 := (nNx E6 h3m 12 (nI x3) 0 0 (w := (txT T N).nu (j3 + 1)) (by omega) (j3 + 3) v6).2
    have hD : (if (txT T N).kd j = 211 then d1 310 (wPk w3 ((txT T N).nu (j3 + 1))) D3 else D3) = D3 := if_neg (show ¬ kdT T N j = 211 by omega)
    refine ⟨m3, _, v6, m3 + 1, rfl, ⟨E7, X6.trans ndH_X hm3, by show j < j3 + 3; omega, G6, by show m3 + 1 + j ≤ m + (j3 + 3); omega, by omega, by omega, ndH_23, by show (txT T N).nu (j3 + 1) ≤ 40000; omega, fun _ => by show 0 < (txT T N).nu (j3 + 1); omega⟩, NB.trans (h1 := mv_si h3 P 8 (nI d)) B3 ndH_B hm3, ?_, ndH_22⟩
    show ND P _ Tn m C LW (m3 + 1) (rho 6 0 d) m3 ((txT T N).nu (j3 + 1)) (if (txT T N).kd j = 211 then d1 310 (wPk w3 ((txT T N).nu (j3 + 1))) D3 else D3)
    rw [hD]
    exact ⟨⟨ndH_23, by omega, cc.2.1, h3m, rh.2, by omega⟩, Or.inr (Or.inr (Or.inr (Or.inr (Or.inr (Or.inr (Or.inr (Or.inr (Or.inr (Or.inr (Or.inr ⟨x3, w3, ndH_18, ndH_19, xm3, cc.2.2, ((N3'.rk (by omega)).le (by omega)).nd xm3⟩))))))))))⟩
end NMG
