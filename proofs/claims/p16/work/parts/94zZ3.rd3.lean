/-! good roads: [h:l] -/
theorem pk_G {P N : Nat} {T : Nat → Nat} {lk : List Nat → Nat × Nat} {d m : Nat} {h : mv_H} (E : ESq P N T lk true d h m) (hm : m < 33000) (kR : Nat → Int32 → mv_H → Option (Option Int32 × mv_H)) (k5 : Int32 → mv_H → Option (Option Int32 × mv_H)) {x w A B : Nat} (hx : x < m) (ex : mv_a h (P + 23) x = nI w) (hw : w ≤ 64) (hA : A < 18446744073709551616) (hB : B < 18446744073709551616) (hAw : A < w) (q : B ≤ A) (x6 x7 : Int32) (j : Nat) (v : Int64) :
    (bif xvi (nI x) 33000 then if (mv_a (rB P N h j v) (P + 23) (nI x).toNatClampNeg) = (0 : Int32) then (f_Book_post_140 P kR k5 (nI x) (nJ A) (nJ B) x6 x7 (rB P N h j v)) else (bif xvi (nI x) 33000 then xhb (f_Model_in (rB P N h j v) (nJ A) (0 : Int64) ((((mv_a (rB P N h j v) (P + 23) (nI x).toNatClampNeg) - (1 : Int32))).toInt64)) fun u14 g13 => if u14 = (0 : Int32) then (f_Book_post_145 P kR k5 (nI x) (nJ A) (nJ B) x6 x7 (0 : Int32) g13) else (f_Book_post_140 P kR k5 (nI x) (nJ A) (nJ B) x6 x7 g13) else none) else none) = k5 (nI m) (rB P N (ndH P m 8 (nI x) (nI A) (nI B) (A - B + 1) h) j v) := by
  have ex' : mv_a (rB P N h j v) (P + 23) x = nI w := ex
  have e193 : mv_a (rB P N h j v) (P + 23) (nI x).toNatClampNeg = nI w := by
    rw [cln (by omega)]; exact ex
  rw [xvi_n (by omega) (by decide), cln (by omega), ex', cond_true, cond_true]
  have go : f_Book_post_145 P kR k5 (nI x) (nJ A) (nJ B) x6 x7 (b01 true) (rB P N h j v) = k5 (nI m) (rB P N (ndH P m 8 (nI x) (nI A) (nI B) (A - B + 1) h) j v) := by
    have e145 : f_Book_post_145 P kR k5 (nI x) (nJ A) (nJ B) x6 x7 (b01 true) (rB P N h j v) = f_Book_post_167 P kR k5 (nI x) (nJ A) (nJ B) x6 x7 (b01 true) (b01 true) (rB P N h j v) := by
      unfold f_Book_post_145
      rw [if_neg (fun z => absurd ((lcu hA hB).mp z) (by omega))]; rfl
    rw [e145]
    unfold f_Book_post_167
    rw [if_neg (show ¬ b01 true = 0 by decide)]
    unfold f_Book_post_181
    rw [if_neg (show ¬ b01 true = 0 by decide)]
    unfold f_Book_post_193
    rw [xvi_n (by omega) (by decide), e193, cond_true, if_neg (fun z => absurd ((nle_0 (by omega)).mp z) (by omega)), if_neg (show ¬ b01 true = 0 by decide), if_neg (show ¬ b01 true = 0 by decide)]
    unfold f_Book_post_217 f_Book_post_234 f_Book_post_246 f_Book_post_262
    rw [if_neg n10, if_neg n10, if_neg n10, subJ q (by omega), nJi (by omega), nJi (by omega), (nNx E hm 8 (nI x) (nI A) (nI B) (w := A - B + 1) (by omega) j v).1]; rfl
  rw [if_neg (show ¬ nI w = 0 from fun z => absurd ((nIinj (b := 0) (by omega) (by omega)).mp z) (by omega)), wid1 (by omega) (by omega), show (0 : Int64) = nJ 0 from rfl, in_S _ hA (by omega) (by omega), xhb_s, decide_eq_true (by omega), if_neg (show ¬ b01 true = 0 by decide)]
  exact go
section PLG
variable {P N : Nat} {T : Nat → Nat} {lk : List Nat → Nat × Nat} {lz : LZ} {C LW : List Nat} {Tn d : Nat}
theorem pl_G (kR : Nat → Int32 → mv_H → Option (Option Int32 × mv_H)) {j0 m0 rr : Nat} {h0 : mv_H} (hm0 : m0 ≤ j0) : ∀ (k kk j w x m : Nat) (D : DnE) (h : mv_H) (v : Int64) (r : VD), XRq P N T lk true d j0 j m0 m h0 h x w → NB P m0 h0 h → ND P h Tn m0 C LW (x + 1) rr x w D → mv_a h (P + 22) x = -1 → 32768 - j < kk → tPL (txT T N) d k j w D = some r →
    XGq P N T lk C LW Tn rr d j0 m0 h0 r (f_Book_post_5 P kR kk (nI x) (rB P N h j v)) := by
  intro k
  induction k with
  | zero => intro kk j w x m D h v r _ _ _ _ _ ht; cases ht
  | succ k ih =>
    intro kk j w x m D h v r R B N0 O0 h2 ht
    obtain ⟨kk, rfl⟩ : ∃ q, kk = q + 1 := ⟨kk - 1, by omega⟩
    show XGq P N T lk C LW Tn rr d j0 m0 h0 r (fF_Book_post_5 P kR (f_Book_post_5 P kR kk) (nI x) (rB P N h j v))
    have H := R.es.hb
    have hch : (tok T N j).1 = (91 : Int32) ↔ kdT T N j = 91 := H.ch (c := 91) R.gk (by omega) (by omega)
    have ht : (if kdT T N j = 91 then (sPk (txT T N) d j w).bind fun z => tPL (txT T N) d k z.1 z.2 (d1 308 (wPk (loP (txT T N) j) z.2) D) else some (j, w, D)) = some r := ht
    unfold fF_Book_post_5
    rw [H.k4]
    by_cases c : kdT T N j = 91
    rotate_left
    · rw [if_neg c] at ht
      obtain rfl := Option.some.inj ht
      rw [if_neg (fun q => c (hch.mp q))]
      exact ⟨x, h, v, m, rfl, R, B, N0, O0⟩
    rw [if_pos c] at ht
    rw [if_pos (hch.mpr c)]
    obtain ⟨⟨jz, wz⟩, sz, ht⟩ := obn ht
    have ht : tPL (txT T N) d k jz wz (d1 308 (wPk (loP (txT T N) j) wz) D) = some r := ht
    unfold sPk at sz
    obtain ⟨u2, g2, sz⟩ := obn sz
    obtain ⟨u3, g3, sz⟩ := obn sz
    obtain ⟨hd, G2, v2, e2⟩ := psG H R.gk (by omega) (by omega) v g2
    have E2 := R.es.dep (d2 := d + 1) (by omega)
    have H2 := E2.hb
    obtain ⟨k3, -, G3, v3, e3⟩ := nG H2 G2 (c := 4) (k := 2) (by omega) (kd_num H2.lt G2.1) v2 g3
    obtain ⟨n3, nn3⟩ := E2.num G2 k3 v2
    have hch2 : (tok T N (j + 1 + 1)).1 = (58 : Int32) ↔ kdT T N (j + 2) = 58 := H2.ch (c := 58) G3 (by omega) (by omega)
    rw [e2, xtb_s, dUp H hd, xk_s, e3, xtb_s, n3, H2.k4]
    have hc := R.cnt
    have hj := R.jj
    have hmm := R.mm
    have E6 : ESq P N T lk true d (mv_si (mv_si h P 8 (nI (d + 1))) P 8 (nI d)) m := E2.dep (by omega)
    have X6 : XFr P m h (mv_si (mv_si h P 8 (nI (d + 1))) P 8 (nI d)) := (XFr.refl P m (mv_si h P 8 (nI (d + 1)))).dep H.dp
    have hjb := gk_le R.es R.gk
    have xm := R.xm
    have w0 := N0.wd
    -- behind the ]
    have fin : ∀ (B0 : Nat) (x6 x7 : Int32) (v6 : Int64), j + 3 ≤ jz → gkT T N jz → B0 < 18446744073709551616 → (txT T N).nu (j + 1) < w → B0 ≤ (txT T N).nu (j + 1) → wz = (txT T N).nu (j + 1) - B0 + 1 → loP (txT T N) j = B0 → XGq P N T lk C LW Tn rr d j0 m0 h0 r (xk (mv_si (rB P N (mv_si h P 8 (nI (d + 1))) jz v6) P 8 ((mv_i (rB P N (mv_si h P 8 (nI (d + 1))) jz v6) P 8) - (1 : Int32))) fun g10 => bif xvi (nI x) 33000 then if (mv_a g10 (P + 23) (nI x).toNatClampNeg) = (0 : Int32) then (f_Book_post_140 P kR (f_Book_post_5 P kR kk) (nI x) (nJ ((txT T N).nu (j + 1))) (nJ B0) x6 x7 g10) else (bif xvi (nI x) 33000 then xhb (f_Model_in g10 (nJ ((txT T N).nu (j + 1))) (0 : Int64) ((((mv_a g10 (P + 23) (nI x).toNatClampNeg) - (1 : Int32))).toInt64)) fun u14 g13 => if u14 = (0 : Int32) then (f_Book_post_145 P kR (f_Book_post_5 P kR kk) (nI x) (nJ ((txT T N).nu (j + 1))) (nJ B0) x6 x7 (0 : Int32) g13) else (f_Book_post_140 P kR (f_Book_post_5 P kR kk) (nI x) (nJ ((txT T N).nu (j + 1))) (nJ B0) x6 x7 g13) else none) else none) := by
      intro B0 x6 x7 v6 hj2 GG hB hAw hBA ewz elo
      have hjb2 := gk_le R.es GG
      rw [dDn H2, xk_s, pk_G E6 (show m < 33000 by omega) kR (f_Book_post_5 P kR kk) xm (show mv_a (mv_si (mv_si h P 8 (nI (d + 1))) P 8 (nI d)) (P + 23) x = nI w from w0.1) w0.2.2.1 nn3 hB hAw hBA x6 x7 jz v6, ← ewz]
      have E7 := (nNx E6 (show m < 33000 by omega) 8 (nI x) (nI ((txT T N).nu (j + 1))) (nI B0) (w := wz) (by omega) jz v6).2
      have R7 : XRq P N T lk true d j0 jz m0 (m + 1) h0 (ndH P m 8 (nI x) (nI ((txT T N).nu (j + 1))) (nI B0) wz (mv_si (mv_si h P 8 (nI (d + 1))) P 8 (nI d))) m wz := R.nd X6 E7 ndH_X (Nat.le_refl _) GG (by omega) (by omega) ndH_23 (by omega) (fun _ => by omega)
      have N0' : ND P (mv_si (mv_si h P 8 (nI (d + 1))) P 8 (nI d)) Tn m0 C LW (x + 1) rr x w D := (N0.sd P 8 (nI (d + 1))).sd P 8 (nI d)
      rw [elo] at ht
      refine ih kk jz wz m (m + 1) _ _ v6 r R7 (B.trans (ndH_B (h := mv_si (mv_si h P 8 (nI (d + 1))) P 8 (nI d))) hmm) ⟨⟨ndH_23, by omega, by omega, by omega, w0.2.2.2.1, by omega⟩, Or.inr (Or.inr (Or.inr (Or.inr (Or.inr (Or.inr (Or.inr (Or.inl ⟨x, w, D, (txT T N).nu (j + 1), B0, ndH_18, ndH_19, ndH_21, xm, hBA, hAw, ewz, (N0'.le (by omega)).nd xm, rfl⟩)))))))⟩ ndH_22 (by omega) ht
    by_cases c2 : kdT T N (j + 2) = 58
    · rw [if_pos (show (txT T N).kd (j + 2) = 58 from c2)] at sz
      obtain ⟨u4, g4, sz⟩ := obn sz
      obtain ⟨u5, g5, sz⟩ := obn sz
      obtain ⟨u6, g6, sz⟩ := obn sz
      have cc : (txT T N).nu (j + 1) < w ∧ (txT T N).nu (j + 3) ≤ (txT T N).nu (j + 1) := by
        by_cases q : (txT T N).nu (j + 1) < w ∧ (txT T N).nu (j + 3) ≤ (txT T N).nu (j + 1)
        · exact q
        · rw [if_neg q] at sz; cases sz
      rw [if_pos cc] at sz
      have sz := Option.some.inj sz
      have sz1 : j + 5 = jz := congrArg Prod.fst sz
      have sz2 : (txT T N).nu (j + 1) - (txT T N).nu (j + 3) + 1 = wz := congrArg Prod.snd sz
      rw [if_pos (hch2.mpr c2)]
      unfold f_Book_post_70
      obtain ⟨-, G4, v4, e4⟩ := psG H2 G3 (by rw [show j + 1 + 1 = j + 2 from rfl]; omega) (by rw [show j + 1 + 1 = j + 2 from rfl]; omega) v3 g4
      obtain ⟨k5, -, G5, v5, e5⟩ := nG H2 G4 (c := 4) (k := 2) (by omega) (kd_num H2.lt G4.1) v4 g5
      obtain ⟨n5, nn5⟩ := E2.num G4 k5 v4
      rw [if_neg n10, e4, xtb_s, e5, xtb_s, n5]
      unfold f_Book_post_98
      obtain ⟨k6, -, G6, v6, e6⟩ := nG H2 G5 (c := 93) (k := 93) (by omega) (H2.ch (c := 93) G5 (by omega) (by omega)) v5 g6
      rw [e6, xtb_s]
      subst sz1
      exact fin ((txT T N).nu (j + 3)) _ _ v6 (by omega) G6 nn5 cc.1 cc.2 sz2.symm (by unfold loP; rw [if_pos (show (txT T N).kd (j + 2) = 58 from c2)])
    · rw [if_neg (show ¬ (txT T N).kd (j + 2) = 58 from c2)] at sz
      obtain ⟨u6, g6, sz⟩ := obn sz
      have cc : (txT T N).nu (j + 1) < w := by
        by_cases q : (txT T N).nu (j + 1) < w
        · exact q
        · rw [if_neg q] at sz; cases sz
      rw [if_pos cc] at sz
      have sz := Option.some.inj sz
      have sz1 : j + 3 = jz := congrArg Prod.fst sz
      have sz2 : 1 = wz := congrArg Prod.snd sz
      rw [if_neg (fun q => c2 (hch2.mp q))]
      unfold f_Book_post_70
      rw [if_pos rfl]
      unfold f_Book_post_98
      obtain ⟨k6, -, G6, v6, e6⟩ := nG H2 G3 (c := 93) (k := 93) (by omega) (H2.ch (c := 93) G3 (by omega) (by omega)) v3 g6
      rw [e6, xtb_s]
      subst sz1
      exact fin ((txT T N).nu (j + 1)) _ _ v6 (by omega) G6 nn3 cc (Nat.le_refl _) (by omega) (by unfold loP; rw [if_neg (show ¬ (txT T N).kd (j + 2) = 58 from c2)])
variable {nn : Nat} (IH : IHg P N T lk C LW Tn lz nn)
theorem po_G (IH : IHg P N T lk C LW Tn lz nn) {m j : Nat} {h : mv_H} (E : ESq P N T lk true d h m) (Z : ZQ P N T lz C LW Tn h) (G : gkT T N j) (hmj : m ≤ j) (F : Fq (nn + 1) 3 0 d) (v : Int64) {r : VD} (ht : tPo (txT T N) (tR (txT T N) lk lz C nn) d j = some r) : XGq P N T lk C LW Tn (rho 3 0 d) d j m h r (f_Book_post P (f_BookR P nn) (rB P N h j v)) := by
  unfold tPo at ht
  obtain ⟨⟨j1, w1, D1⟩, t1, ht⟩ := obn ht
  unfold f_Book_post
  unfold Fq rkq at F
  rw [if_neg (by omega), if_neg (by omega), if_neg (by omega), if_pos rfl] at F
  obtain ⟨x1, h1, v1, m1, e1, R1, B1, N1, O1⟩ := IH 4 0 0 d j h m v _ (by unfold Fq rkq; rw [if_neg (by omega), if_neg (by omega), if_neg (by omega), if_neg (by omega), if_pos rfl]; omega) E Z G hmj (preg0 (by omega)) t1
  rw [e1, xtb_s]
  exact pl_G (f_BookR P nn) hmj 200000 200000 j1 w1 x1 m1 D1 h1 v1 r R1 B1 N1 O1 (by omega) ht
theorem un_G (IH : IHg P N T lk C LW Tn lz nn) {m j : Nat} {h : mv_H} (E : ESq P N T lk true d h m) (Z : ZQ P N T lz C LW Tn h) (G : gkT T N j) (hmj : m ≤ j) (F : Fq (nn + 1) 2 0 d) (v : Int64) {r : VD} (ht : tUn (txT T N) (tR (txT T N) lk lz C nn) d j = some r) : XGq P N T lk C LW Tn (rho 2 0 d) d j m h r (f_Book_unary P (f_BookR P nn) (rB P N h j v)) := by
  have H := E.hb
  have hP := H.p
  unfold Fq rkq at F
  rw [if_neg (by omega), if_neg (by omega), if_pos rfl] at F
  have c45 : (tok T N j).1 = (45 : Int32) ↔ kdT T N j = 45 := H.ch (c := 45) G (by omega) (by omega)
  have c126 : (tok T N j).1 = (126 : Int32) ↔ kdT T N j = 126 := H.ch (c := 126) G (by omega) (by omega)
  have c33 : (tok T N j).1 = (33 : Int32) ↔ kdT T N j = 33 := H.ch (c := 33) G (by omega) (by omega)
  unfold tUn at ht
  unfold f_Book_unary
  rw [H.k4]
  by_cases c : kdT T N j = 45 ∨ kdT T N j = 126 ∨ kdT T N j = 33
  rotate_left
  · rw [if_neg (show ¬ ((txT T N).kd j = 45 ∨ (txT T N).kd j = 126 ∨ (txT T N).kd j = 33) from c)] at ht
    rw [if_neg (fun z => c (Or.inl (c45.mp z))), if_neg (fun z => c (Or.inr (Or.inl (c126.mp z)))), if_neg (fun z => c (Or.inr (Or.inr (c33.mp z))))]
    obtain ⟨x1, h1, v1, m1, e1, R1, B1, N1, O1⟩ := IH 3 0 0 d j h m v _ (by unfold Fq rkq; rw [if_neg (by omega), if_neg (by omega), if_neg (by omega), if_pos rfl]; omega) E Z G hmj (preg0 (by omega)) ht
    rw [e1, xtb_s]
    exact ⟨x1, h1, v1, m1, rfl, R1, B1, N1.rk (Nat.le_refl _), O1⟩
  rw [if_pos (show (txT T N).kd j = 45 ∨ (txT T N).kd j = 126 ∨ (txT T N).kd j = 33 from c)] at ht
  obtain ⟨u2, g2, ht⟩ := obn ht
  obtain ⟨⟨j1, w1, D1⟩, t1, ht⟩ := obn ht
  have nq : ¬ (kdT T N j = 33 ∧ ¬ w1 = 1) := fun q => by
    rw [if_pos (show (txT T N).kd j = 33 ∧ ¬ ((j1, w1, D1) : VD).2.1 = 1 from q)] at ht; cases ht
  rw [if_neg (show ¬ ((txT T N).kd j = 33 ∧ ¬ ((j1, w1, D1) : VD).2.1 = 1) from nq)] at ht
  obtain rfl := Option.some.inj ht
  obtain ⟨hd, G2, v2, e2⟩ := psG H G (by omega) (by omega) v g2
  have E2 := E.dep (d2 := d + 1) (by omega)
  obtain ⟨x1, h1, v1, m1, e1, R1, B1, N1, O1⟩ := IH 2 0 0 (d + 1) (j + 1) _ m v2 _ (by unfold Fq rkq; rw [if_neg (by omega), if_neg (by omega), if_pos rfl]; omega) E2 (Z.dep (nI (d + 1))) G2 (by omega) (preg0 (by omega)) t1
  have e1 : f_BookR P nn 2 0 (rB P N (mv_si h P 8 (nI (d + 1))) (j + 1) v2) = some (some (nI x1), rB P N h1 j1 v1) := e1
  have R1 : XRq P N T lk true (d + 1) (j + 1) j1 m m1 (mv_si h P 8 (nI (d + 1))) h1 x1 w1 := R1
  have N1 : ND P h1 Tn m C LW (x1 + 1) (rho 2 0 (d + 1)) x1 w1 D1 := N1
  have E6 := R1.es.dep (d2 := d) (by omega)
  have X6 := R1.fr.dep H.dp
  have hc := R1.cnt
  have hj := R1.jj
  have hmm := R1.mm
  have xm := R1.xm
  have hjb := gk_le R1.es R1.gk
  have h1m : m1 < 33000 := by omega
  have wd := N1.wd
  have base : mv_a (rB P N (mv_si h1 P 8 (nI d)) j1 v1) (P + 23) (nI x1).toNatClampNeg = nI w1 := by
    rw [cln (by omega)]; exact wd.1
  have ek : (tok T N j).1 = nI (kdT T N j) := by
    rcases c with q | q | q
    · rw [c45.mpr q, q]; rfl
    · rw [c126.mpr q, q]; rfl
    · rw [c33.mpr q, q]; rfl
  have e96 : f_Book_unary_96 P (f_BookR P nn) (tok T N j).1 (mv_i (rB P N h j v) P 5) (nI x1) (rB P N (mv_si h1 P 8 (nI d)) j1 v1) = some (some (nI m1), rB P N (ndH P m1 6 (nI x1) (nI (kdT T N j)) 0 w1 (mv_si h1 P 8 (nI d))) j1 v1) := by
    unfold f_Book_unary_96 f_Book_unary_101 f_Book_unary_123 f_Book_unary_144
    rw [xvi_n (by omega) (by decide), base, cond_true, if_neg (fun z => absurd ((nle_0 (by omega)).mp z) (by omega)), if_neg n10, if_neg n10, cond_true, ek, (nNx E6 h1m 6 (nI x1) (nI (kdT T N j)) 0 (w := w1) (by omega) j1 v1).1, xhb_s]
  have e32 : f_Book_unary_32 P (f_BookR P nn) (rB P N h j v) = some (some (nI m1), rB P N (ndH P m1 6 (nI x1) (nI (kdT T N j)) 0 w1 (mv_si h1 P 8 (nI d))) j1 v1) := by
    unfold f_Book_unary_32
    rw [H.k4, e2, xtb_s, dUp H hd, xk_s, e1, xtb_s, dDn R1.es.hb, xk_s, xvi_n (by omega) (by decide), base, cond_true, if_neg (fun z => absurd ((nle_0 (by omega)).mp z) (by omega))]
    by_cases q : kdT T N j = 33
    · have o : w1 = 1 := by
        by_cases o : w1 = 1
        · exact o
        · exact absurd ⟨q, o⟩ nq
      rw [if_pos (c33.mpr q), cond_true, if_pos (show nI w1 = 1 by rw [o]; rfl)]
      exact e96
    · rw [if_neg (fun z => q (c33.mp z))]
      exact e96
  have efin : (if (tok T N j).1 = (45 : Int32) then (f_Book_unary_32 P (f_BookR P nn) (rB P N h j v)) else (if (tok T N j).1 = (126 : Int32) then (f_Book_unary_32 P (f_BookR P nn) (rB P N h j v)) else (if (tok T N j).1 = (33 : Int32) then (f_Book_unary_32 P (f_BookR P nn) (rB P N h j v)) else (xtb (f_BookR P nn 3 0 (rB P N h j v)) fun u16 g15 => some (some u16, g15))))) = f_Book_unary_32 P (f_BookR P nn) (rB P N h j v) := by
    by_cases q1 : kdT T N j = 45
    · rw [if_pos (c45.mpr q1)]
    · rw [if_neg (fun z => q1 (c45.mp z))]
      by_cases q2 : kdT T N j = 126
      · rw [if_pos (c126.mpr q2)]
      · rw [if_neg (fun z => q2 (c126.mp z)), if_pos (c33.mpr (by omega))]
  rw [efin, e32]
  have E7 := (nNx E6 h1m 6 (nI x1) (nI (kdT T N j)) 0 (w := w1) (by omega) j1 v1).2
  have rh : rho 2 0 (d + 1) ≤ rho 2 0 d - 1 ∧ 0 < rho 2 0 d := by
    unfold rho
    rw [if_neg (by omega), if_neg (by omega), if_neg (by omega), if_neg (by omega)]
    omega
  have N1' : ND P (mv_si h1 P 8 (nI d)) Tn m C LW (x1 + 1) (rho 2 0 (d + 1)) x1 w1 D1 := N1.sd P 8 (nI d)
  exact ⟨m1, _, v1, m1 + 1, rfl, ⟨E7, X6.trans ndH_X hmm, by show j < j1; omega, R1.gk, by show m1 + 1 + j ≤ m + j1; omega, by omega, by omega, ndH_23, by show w1 ≤ 40000; omega, fun _ => wd.2.1⟩, NB.trans (h1 := mv_si h1 P 8 (nI d)) B1 ndH_B hmm, ⟨⟨ndH_23, wd.2.1, wd.2.2.1, h1m, rh.2, by omega⟩, Or.inr (Or.inr (Or.inr (Or.inr (Or.inr (Or.inl ⟨x1, D1, kdT T N j, ndH_18, ndH_19, xm, ndH_20, c, ((N1'.rk rh.1).le (by omega)).nd xm, rfl⟩)))))⟩, ndH_22⟩
end PLG
