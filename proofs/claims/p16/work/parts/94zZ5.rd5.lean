/-! good roads: together -/
theorem RowOK.eq {P : Nat} {h h' : mv_H} : ∀ {l : List (Nat × Nat × DnE)}, RowOK P h l → (∀ q, q ∈ l → mv_a h' (P + 22) q.1 = mv_a h (P + 22) q.1) → RowOK P h' l := by
  intro l
  induction l with
  | nil => intro R _; exact R
  | cons p l ih =>
    intro R hb
    have hp := hb p (List.mem_cons_self ..)
    cases l with
    | nil =>
      show mv_a h' (P + 22) p.1 = -1
      rw [hp]; exact R
    | cons q l =>
      have R : mv_a h (P + 22) p.1 = nI q.1 ∧ RowOK P h (q :: l) := R
      show mv_a h' (P + 22) p.1 = nI q.1 ∧ RowOK P h' (q :: l)
      rw [hp]
      exact ⟨R.1, ih R.2 (fun q' hq => hb q' (List.mem_cons_of_mem _ hq))⟩
theorem RowOK.sn {P : Nat} {h h' : mv_H} {l q : Nat × Nat × DnE} (h1 : mv_a h' (P + 22) l.1 = nI q.1) (h2 : mv_a h' (P + 22) q.1 = -1) (h3 : ∀ k, ¬ k = l.1 → mv_a h' (P + 22) k = mv_a h (P + 22) k) : ∀ {M : List (Nat × Nat × DnE)}, RowOK P h (M ++ [l]) → (∀ p, p ∈ M → ¬ p.1 = l.1) → RowOK P h' ((M ++ [l]) ++ [q]) := by
  intro M
  induction M with
  | nil =>
    intro R _
    show mv_a h' (P + 22) l.1 = nI q.1 ∧ mv_a h' (P + 22) q.1 = -1
    exact ⟨h1, h2⟩
  | cons p M ih =>
    intro R hM
    have hp := hM p (List.mem_cons_self ..)
    have ih := fun R => ih R (fun p' hp' => hM p' (List.mem_cons_of_mem _ hp'))
    cases M with
    | nil =>
      have R : mv_a h (P + 22) p.1 = nI l.1 ∧ RowOK P h [l] := R
      show mv_a h' (P + 22) p.1 = nI l.1 ∧ RowOK P h' (([] ++ [l]) ++ [q])
      rw [h3 p.1 hp]
      exact ⟨R.1, ih R.2⟩
    | cons p2 M =>
      have R : mv_a h (P + 22) p.1 = nI p2.1 ∧ RowOK P h ((p2 :: M) ++ [l]) := R
      show mv_a h' (P + 22) p.1 = nI p2.1 ∧ RowOK P h' (((p2 :: M) ++ [l]) ++ [q])
      rw [h3 p.1 hp]
      exact ⟨R.1, ih R.2⟩
theorem joinL_sn (q : Nat × Nat × DnE) : ∀ (L : List (Nat × Nat × DnE)) (w : Nat) (D : DnE), joinL (L ++ [q]) w D = ((joinL L w D).1 + q.2.1, d2 309 (nJ q.2.1) (joinL L w D).2 q.2.2) := by
  intro L
  induction L with
  | nil => intro w D; rfl
  | cons p L ih => intro w D; exact ih _ _
theorem fo_nf {P lo m x4 : Nat} {y : Int32} {h : mv_H} (q : ∀ k, lo ≤ k → k + 1 < m → ¬ k = x4) : NFr P lo m h (mv_sa h (P + 22) x4 y) :=
  ⟨fun k _ _ _ => ⟨san9 h _ (by omega), san9 h _ (by omega), san9 h _ (by omega), san9 h _ (by omega), san9 h _ (by omega), rfl⟩, fun k a b _ => san9 h _ (fun z => q k a b z.2), fun o k z _ => san9 h _ (by omega)⟩
theorem tTL_w {X : TX} {R : Nat → Nat → Nat → Nat → Option VD} {d : Nat} : ∀ (k j w : Nat) (D : DnE) (r : VD), tTL X R d k j w D = some r → w ≤ 64 := by
  intro k
  induction k with
  | zero => intro j w D r e; cases e
  | succ k ih =>
    intro j w D r e
    have e : (if X.kd j = 44 then (gd (ps X (d + 1) j)).bind fun _ => (R 0 0 (d + 1) (j + 1)).bind fun x => tTL X R d k x.1 (w + x.2.1) (d2 309 (nJ x.2.1) D x.2.2) else (ndq X (d + 1) j 125).bind fun _ => if w ≤ 64 then some (j + 1, w, D) else none) = some r := e
    by_cases c : X.kd j = 44
    · rw [if_pos c] at e
      obtain ⟨-, -, e⟩ := obn e
      obtain ⟨x, -, e⟩ := obn e
      have := ih _ _ _ _ e
      omega
    · rw [if_neg c] at e
      obtain ⟨-, -, e⟩ := obn e
      by_cases q : w ≤ 64
      · exact q
      · rw [if_neg q] at e; cases e
section TOGG
variable {P N : Nat} {T : Nat → Nat} {lk : List Nat → Nat × Nat} {lz : LZ} {C LW : List Nat} {Tn d nn : Nat}
theorem tl_G (IH : IHg P N T lk C LW Tn lz nn) {j0 m0 : Nat} {h0 : mv_H} (H0 : HB P N T d h0) (Z : ZQ P N T lz C LW Tn (mv_si h0 P 8 (nI (d + 1)))) (hm0 : m0 ≤ j0) (hd : d ≤ 60) (F2 : Fq nn 0 0 (d + 1)) (pl : Int32) (p : Nat × Nat × DnE) : ∀ (k kk j w m : Nat) (D : DnE) (h : mv_H) (v : Int64) (r : VD) (L M : List (Nat × Nat × DnE)) (l : Nat × Nat × DnE), p :: L = M ++ [l] → RowOK P h (p :: L) → (∀ q, q ∈ p :: L → m0 ≤ q.1 ∧ q.1 ≤ l.1 ∧ ND P h Tn m0 C LW (q.1 + 1) (rho 0 0 (d + 1)) q.1 q.2.1 q.2.2) → (∀ q, q ∈ M → q.1 < l.1) → l.1 < m → joinL L p.2.1 p.2.2 = (w, D) → 0 < w → ESq P N T lk true (d + 1) h m → XFr P m0 (mv_si h0 P 8 (nI (d + 1))) h → NB P m0 h0 h → j0 + 1 < j → gkT T N j → m + (j0 + 1) ≤ m0 + j → m0 ≤ m → 32768 - j < kk → tTL (txT T N) (tR (txT T N) lk lz C nn) d k j w D = some r →
    XGq P N T lk C LW Tn (rho 8 0 d) d j0 m0 h0 r (f_Book_together_52 P (f_BookR P nn) kk pl (nI w) (nI p.1) (nI l.1) (b01 true) (rB P N h j v)) := by
  intro k
  induction k with
  | zero => intro kk j w m D h v r L M l _ _ _ _ _ _ _ _ _ _ _ _ _ _ _ ht; cases ht
  | succ k ih =>
    intro kk j w m D h v r L M l eM hR hN hMl hl ej hw E X B hj G hc hmm h2 ht
    have hP := H0.p
    have hw64 := tTL_w _ _ _ _ _ ht
    obtain ⟨kk, rfl⟩ : ∃ q, kk = q + 1 := ⟨kk - 1, by omega⟩
    show XGq P N T lk C LW Tn (rho 8 0 d) d j0 m0 h0 r (fF_Book_together_52 P (f_BookR P nn) (f_Book_together_52 P (f_BookR P nn) kk) pl (nI w) (nI p.1) (nI l.1) (b01 true) (rB P N h j v))
    have H := E.hb
    have hch : (tok T N j).1 = (44 : Int32) ↔ kdT T N j = 44 := H.ch (c := 44) G (by omega) (by omega)
    have ht : (if kdT T N j = 44 then (gd (ps (txT T N) (d + 1) j)).bind fun _ => (tR (txT T N) lk lz C nn 0 0 (d + 1) (j + 1)).bind fun x => tTL (txT T N) (tR (txT T N) lk lz C nn) d k x.1 (w + x.2.1) (d2 309 (nJ x.2.1) D x.2.2) else (ndq (txT T N) (d + 1) j 125).bind fun _ => if w ≤ 64 then some (j + 1, w, D) else none) = some r := ht
    unfold fF_Book_together_52
    rw [H.k4]
    have hjb0 := gk_le E G
    by_cases c : kdT T N j = 44
    · rw [if_pos c] at ht
      rw [if_pos (hch.mpr c)]
      obtain ⟨u2, g2, ht⟩ := obn ht
      obtain ⟨⟨j3, w3, D3⟩, t3, ht⟩ := obn ht
      have ht : tTL (txT T N) (tR (txT T N) lk lz C nn) d k j3 (w + w3) (d2 309 (nJ w3) D D3) = some r := ht
      obtain ⟨-, G2, v2, e2⟩ := psG H G (by omega) (by omega) v g2
      obtain ⟨x5, h3, v3, m3, e3, R3, B3, N3, O3⟩ := IH 0 0 0 (d + 1) (j + 1) h m v2 _ F2 E (Z.fr X hP) G2 (by omega) (preg0 (Or.inl rfl)) t3
      have e3 : f_BookR P nn 0 0 (rB P N h (j + 1) v2) = some (some (nI x5), rB P N h3 j3 v3) := e3
      have R3 : XRq P N T lk true (d + 1) (j + 1) j3 m m3 h h3 x5 w3 := R3
      have N3 : ND P h3 Tn m C LW (x5 + 1) (rho 0 0 (d + 1)) x5 w3 D3 := N3
      rw [e2, xtb_s, e3, xtb_s]
      have hc3 := R3.cnt
      have hj3 := R3.jj
      have hm3 := R3.mm
      have xm := R3.xm
      have hjb := gk_le R3.es R3.gk
      have wd := N3.wd
      have V := R3.es.fo l.1 (nI x5)
      have ew : mv_a (rB P N (mv_sa h3 (P + 22) l.1 (nI x5)) j3 v3) (P + 23) x5 = nI w3 := (V.2.w x5 xm).trans wd.1
      rw [xvi_n (by omega) (by decide), cond_true, cln (by omega), rB_sa (by omega), xk_s, xvi_n (by omega) (by decide), cond_true, cln (by omega), ew, if_neg (fun z => absurd ((nle_0 (by omega)).mp z) (by omega))]
      have e101 : f_Book_together_101 P (f_BookR P nn) (f_Book_together_52 P (f_BookR P nn) kk) pl (nI w) (nI p.1) (nI x5) (nI x5) 1 (b01 true) (rB P N (mv_sa h3 (P + 22) l.1 (nI x5)) j3 v3) = f_Book_together_52 P (f_BookR P nn) kk pl (nI (w + w3)) (nI p.1) (nI x5) (b01 true) (rB P N (mv_sa h3 (P + 22) l.1 (nI x5)) j3 v3) := by
        unfold f_Book_together_101
        rw [if_neg (show ¬ (1000 : Int32) ≤ nI w from fun z => absurd ((nIle (a := 1000) (by omega) (by omega)).mp z) (by omega)), xvi_n (by omega) (by decide), cond_true, cln (by omega), ew, nIadd (by omega)]
        rfl
      rw [e101]
      have XX : XFr P m0 (mv_si h0 P 8 (nI (d + 1))) (mv_sa h3 (P + 22) l.1 (nI x5)) := (X.trans R3.fr hmm).trans V.2 (by omega)
      have lx := N3.lx
      have hl0 : m0 ≤ l.1 := (hN l (by rw [eM]; exact List.mem_append_right _ (List.mem_singleton.mpr rfl))).1
      have hB4 : NB P m0 h0 (mv_sa h3 (P + 22) l.1 (nI x5)) := ⟨fun o k q1 q2 q3 => by rw [san9 h3 _ (by omega), B3.1 o k q1 q2 (by omega)]; exact B.1 o k q1 q2 q3, fun k q => (B3.2 k (by omega)).trans (B.2 k q)⟩
      have hq : ∀ q, q ∈ p :: L → ¬ q.1 = x5 := fun q hq => by have := (hN q hq).2.1; omega
      have R4 : RowOK P (mv_sa h3 (P + 22) l.1 (nI x5)) (p :: (L ++ [(x5, w3, D3)])) := by
        have h3R : RowOK P h3 (M ++ [l]) := by
          rw [← eM]
          exact hR.eq (fun q hq => B3.1 (P + 22) q.1 (by omega) (by omega) (by have := (hN q hq).2.1; omega))
        have := RowOK.sn (h' := mv_sa h3 (P + 22) l.1 (nI x5)) (q := (x5, w3, D3)) (l := l) (mv_u_same _ _ _ _) ((san9 h3 _ (by show ¬ (_ ∧ x5 = l.1); omega)).trans O3) (fun k hk => san9 h3 _ (fun z => hk z.2)) h3R (fun q hq => by have := hMl q hq; omega)
        rw [← eM] at this
        exact this
      refine ih kk j3 (w + w3) m3 (d2 309 (nJ w3) D D3) _ v3 r (L ++ [(x5, w3, D3)]) (p :: L) (x5, w3, D3) rfl R4 ?_ ?_ xm ?_ (by omega) V.1 XX hB4 (by omega) R3.gk (by omega) (by omega) (by omega) ht
      · intro q hq'
        rw [show p :: (L ++ [(x5, w3, D3)]) = (p :: L) ++ [(x5, w3, D3)] from rfl] at hq'
        rcases List.mem_append.mp hq' with z | z
        · obtain ⟨n1, n2, n3⟩ := hN q z
          refine ⟨n1, by show q.1 ≤ x5; omega, ?_⟩
          exact (n3.fr (B3.nf R3.fr) (by omega)).fr (m := q.1 + 1) (fo_nf (fun k _ b => by omega)) (Nat.lt_succ_self _)
        · have z := List.mem_singleton.mp z
          subst z
          refine ⟨by show m0 ≤ x5; omega, Nat.le_refl _, ?_⟩
          exact (N3.fr (m := x5 + 1) (fo_nf (fun k a _ => by omega)) (Nat.lt_succ_self _)).lo hmm
      · intro q hq'
        show q.1 < x5
        have := (hN q hq').2.1
        omega
      · rw [joinL_sn, ej]
    · rw [if_neg c] at ht
      rw [if_neg (fun z => c (hch.mp z))]
      obtain ⟨u6, g6, ht⟩ := obn ht
      rw [if_pos hw64] at ht
      obtain rfl := Option.some.inj ht
      obtain ⟨k6, -, G6, v6, e6⟩ := nG H G (c := 125) (k := 125) (by omega) (H.ch (c := 125) G (by omega) (by omega)) v g6
      rw [e6, xtb_s, dDn H, xk_s]
      have E6 := E.dep (d2 := d) (by omega)
      have X6 := X.dep H0.dp
      have hm : m < 33000 := by omega
      rw [if_neg (show ¬ b01 true = 0 by decide), if_pos (show nI w ≤ 64 from (nIle (b := 64) (by omega) (by omega)).mpr hw64)]
      unfold f_Book_together_157 f_Book_together_179
      rw [if_neg (show ¬ b01 true = 0 by decide), if_neg (show ¬ (64 : Int32) < nI w from fun z => absurd ((nIle (b := 64) (by omega) (by omega)).mpr hw64) (Int32.not_le.mpr z))]
      obtain ⟨e5, E5⟩ := nNx E6 hm 10 (nI p.1) 0 0 (w := w) (by omega) (j + 1) v6
      rw [e5, xhb_s]
      have rh : rho 0 0 (d + 1) = rho 8 0 d - 1 ∧ 0 < rho 8 0 d := by
        unfold rho
        rw [if_pos rfl, if_neg (by omega), if_neg (by omega)]
        omega
      refine ⟨m, _, v6, m + 1, rfl, ⟨E5, X6.trans ndH_X hmm, by show j0 < j + 1; omega, G6, by show m + 1 + j0 ≤ m0 + (j + 1); omega, by omega, by omega, ndH_23, by show w ≤ 40000; omega, fun _ => hw⟩, NB.trans (h1 := mv_si h P 8 (nI d)) B ndH_B hmm, ⟨⟨ndH_23, hw, hw64, hm, rh.2, hmm⟩, Or.inr (Or.inr (Or.inr (Or.inr (Or.inr (Or.inr (Or.inr (Or.inr (Or.inr (Or.inl ⟨p, L, ndH_18, ndH_19, ?_, ?_, ej⟩)))))))))⟩, ndH_22⟩
      · refine hR.eq (fun q hq => ?_)
        exact ndH_o (P + 22) q.1 (by have := (hN q hq).2.1; omega)
      · intro q hq
        obtain ⟨n1, n2, n3⟩ := hN q hq
        have n3' : ND P (mv_si h P 8 (nI d)) Tn m0 C LW (q.1 + 1) (rho 0 0 (d + 1)) q.1 q.2.1 q.2.2 := n3.sd P 8 (nI d)
        exact ⟨by omega, ((n3'.rk (by omega)).le (by omega)).nd (by omega)⟩
theorem to_G (IH : IHg P N T lk C LW Tn lz nn) {m j : Nat} {h : mv_H} (E : ESq P N T lk true d h m) (Z : ZQ P N T lz C LW Tn h) (G : gkT T N j) (hmj : m ≤ j) (hk : kdT T N j = 123) (F : Fq (nn + 1) 8 0 d) (v : Int64) {r : VD} (ht : tTo (txT T N) (tR (txT T N) lk lz C nn) d j = some r) : XGq P N T lk C LW Tn (rho 8 0 d) d j m h r (f_Book_together P (f_BookR P nn) (rB P N h j v)) := by
  have H := E.hb
  unfold Fq rkq at F
  rw [if_neg (by omega), if_neg (by omega), if_neg (by omega), if_neg (by omega), if_neg (by omega)] at F
  unfold tTo at ht
  obtain ⟨u1, g1, ht⟩ := obn ht
  obtain ⟨⟨j3, w3, D3⟩, t3, ht⟩ := obn ht
  obtain ⟨hd, G1, v1, e1⟩ := psG H G (by omega) (by omega) v g1
  have E2 := E.dep (d2 := d + 1) (by omega)
  have F2 : Fq nn 0 0 (d + 1) := by unfold Fq rkq; rw [if_pos rfl]; omega
  obtain ⟨x3, h3, v3, m3, e3, R3, B3, N3, O3⟩ := IH 0 0 0 (d + 1) (j + 1) _ m v1 _ F2 E2 (Z.dep (nI (d + 1))) G1 (by omega) (preg0 (Or.inl rfl)) t3
  have e3 : f_BookR P nn 0 0 (rB P N (mv_si h P 8 (nI (d + 1))) (j + 1) v1) = some (some (nI x3), rB P N h3 j3 v3) := e3
  have R3 : XRq P N T lk true (d + 1) (j + 1) j3 m m3 (mv_si h P 8 (nI (d + 1))) h3 x3 w3 := R3
  have N3 : ND P h3 Tn m C LW (x3 + 1) (rho 0 0 (d + 1)) x3 w3 D3 := N3
  have hc3 := R3.cnt
  have hj3 := R3.jj
  have hm3 := R3.mm
  have xm := R3.xm
  have hjb := gk_le R3.es R3.gk
  have wd := N3.wd
  have ew : mv_a (rB P N h3 j3 v3) (P + 23) (nI x3).toNatClampNeg = nI w3 := by rw [cln (by omega)]; exact wd.1
  unfold f_Book_together
  rw [e1, xtb_s, dUp H hd, xk_s, e3, xtb_s, xvi_n (by omega) (by decide), cond_true, ew, if_neg (fun z => absurd ((nle_0 (by omega)).mp z) (by omega))]
  unfold f_Book_together_43
  rw [xvi_n (by omega) (by decide), cond_true, ew]
  refine tl_G IH H (Z.dep (nI (d + 1))) hmj hd F2 _ (x3, w3, D3) 200000 200000 j3 w3 m3 D3 h3 v3 r [] [] (x3, w3, D3) rfl O3 ?_ (fun q hq => by cases hq) xm rfl wd.2.1 R3.es R3.fr B3 hj3 R3.gk hc3 hm3 (by omega) ht
  intro q hq
  have hq := List.mem_singleton.mp hq
  subst hq
  exact ⟨N3.lx, Nat.le_refl _, N3⟩
/-! primary; all EXPRS -/
theorem pr_G (IH : IHg P N T lk C LW Tn lz nn) {m j : Nat} {h : mv_H} (E : ESq P N T lk true d h m) (Z : ZQ P N T lz C LW Tn h) (G : gkT T N j) (hmj : m ≤ j) (F : Fq (nn + 1) 4 0 d) (v : Int64) {r : VD} (ht : tPr (txT T N) (tR (txT T N) lk lz C nn) d j = some r) : XGq P N T lk C LW Tn (rho 4 0 d) d j m h r (f_Book_primary P (f_BookR P nn) (rB P N h j v)) := by
  have H := E.hb
  unfold Fq rkq at F
  rw [if_neg (by omega), if_neg (by omega), if_neg (by omega), if_neg (by omega), if_pos rfl] at F
  have F1 : ∀ mo, 5 ≤ mo → Fq nn mo 0 d := fun mo hmo => by unfold Fq rkq; rw [if_neg (by omega), if_neg (by omega), if_neg (by omega), if_neg (by omega), if_neg (by omega)]; omega
  have hjb := gk_le E G
  have rh : 0 < rho 4 0 d := by
    unfold rho
    rw [if_neg (by omega), if_neg (by omega)]
    omega
  have call : ∀ (mo : Nat) (α : Int32), 5 ≤ mo → preg N T mo 0 α j → tR (txT T N) lk lz C nn mo 0 d j = some r → XGq P N T lk C LW Tn (rho 4 0 d) d j m h r (xtb (f_BookR P nn mo α (rB P N h j v)) fun u g => some (some u, g)) := fun mo α hmo hp tt => by
    obtain ⟨x1, h1, v1, m1, e1, R1, B1, N1, O1⟩ := IH mo 0 α d j h m v r (F1 mo hmo) E Z G hmj hp tt
    rw [e1, xtb_s]
    refine ⟨x1, h1, v1, m1, rfl, R1, B1, N1.rk ?_, O1⟩
    unfold rho
    rw [if_neg (by omega), if_neg (by omega), if_neg (by omega), if_neg (by omega)]
    omega
  unfold f_Book_primary
  unfold tPr at ht
  rw [H.k4]
  have c4 := kd_num H.lt G.1
  have c40 : (tok T N j).1 = (40 : Int32) ↔ kdT T N j = 40 := H.ch (c := 40) G (by omega) (by omega)
  have c123 : (tok T N j).1 = (123 : Int32) ↔ kdT T N j = 123 := H.ch (c := 123) G (by omega) (by omega)
  by_cases k4 : kdT T N j = 4
  · rw [if_pos (show (txT T N).kd j = 4 from k4)] at ht
    rw [if_pos (c4.mpr k4)]
    obtain ⟨x1, h1, v1, m1, e1, R1⟩ := lit_G (C := C) (LW := LW) (Tn := Tn) E (by omega) G k4 v ht rh
    rw [e1, xtb_s]
    exact ⟨x1, h1, v1, m1, rfl, R1⟩
  rw [if_neg (show ¬ (txT T N).kd j = 4 from k4)] at ht
  rw [if_neg (fun z => k4 (c4.mp z))]
  by_cases k40 : kdT T N j = 40
  · rw [if_pos (show (txT T N).kd j = 40 from k40)] at ht
    rw [if_pos (c40.mpr k40)]
    obtain ⟨u1, g1, ht⟩ := obn ht
    obtain ⟨⟨j3, w3, D3⟩, t3, ht⟩ := obn ht
    obtain ⟨u6, g6, ht⟩ := obn ht
    obtain rfl := Option.some.inj ht
    obtain ⟨hd, G1, v1, e1⟩ := psG H G (by omega) (by omega) v g1
    have E2 := E.dep (d2 := d + 1) (by omega)
    have F2 : Fq nn 0 0 (d + 1) := by unfold Fq rkq; rw [if_pos rfl]; omega
    obtain ⟨x3, h3, v3, m3, e3, R3, B3, N3, O3⟩ := IH 0 0 0 (d + 1) (j + 1) _ m v1 _ F2 E2 (Z.dep (nI (d + 1))) G1 (by omega) (preg0 (Or.inl rfl)) t3
    have e3 : f_BookR P nn 0 0 (rB P N (mv_si h P 8 (nI (d + 1))) (j + 1) v1) = some (some (nI x3), rB P N h3 j3 v3) := e3
    have R3 : XRq P N T lk true (d + 1) (j + 1) j3 m m3 (mv_si h P 8 (nI (d + 1))) h3 x3 w3 := R3
    have N3 : ND P h3 Tn m C LW (x3 + 1) (rho 0 0 (d + 1)) x3 w3 D3 := N3
    obtain ⟨k6, -, G6, v6, e6⟩ := nG R3.es.hb R3.gk (c := 41) (k := 41) (by omega) (R3.es.hb.ch (c := 41) R3.gk (by omega) (by omega)) v3 g6
    rw [e1, xtb_s, dUp H hd, xk_s, e3, xtb_s, e6, xtb_s, dDn R3.es.hb, xk_s]
    have hc3 := R3.cnt
    have hj3 := R3.jj
    have rh2 : rho 0 0 (d + 1) ≤ rho 4 0 d := by
      unfold rho
      rw [if_pos rfl, if_neg (by omega), if_neg (by omega)]
      omega
    have N3' : ND P (mv_si h3 P 8 (nI d)) Tn m C LW (x3 + 1) (rho 4 0 d) x3 w3 D3 := (N3.rk rh2).sd P 8 (nI d)
    exact ⟨x3, mv_si h3 P 8 (nI d), v6, m3, rfl, ⟨R3.es.dep (by omega), R3.fr.dep H.dp, by show j < j3 + 1; omega, G6, by show m3 + j ≤ m + (j3 + 1); omega, R3.mm, R3.xm, R3.wx, R3.w2, R3.ps⟩, B3, N3', O3⟩
  rw [if_neg (show ¬ (txT T N).kd j = 40 from k40)] at ht
  rw [if_neg (fun z => k40 (c40.mp z))]
  by_cases k123 : kdT T N j = 123
  · rw [if_pos (show (txT T N).kd j = 123 from k123)] at ht
    rw [if_pos (c123.mpr k123)]
    exact call 8 0 (by omega) ⟨⟨by omega, fun z => by omega, fun z => by omega, fun z => by omega, fun z => by omega, fun _ => k123⟩, fun z => by omega⟩ ht
  rw [if_neg (show ¬ (txT T N).kd j = 123 from k123)] at ht
  rw [if_neg (fun z => k123 (c123.mp z))]
  have w148 : f_Book_is P (rB P N h j v) 148 = some (b01 (decide (kdT T N j = 211)), rB P N h j v) := is_S H G (i := 11) (wds (148, 11) (by decide)) (by decide) v
  have w149 : f_Book_is P (rB P N h j v) 149 = some (b01 (decide (kdT T N j = 212)), rB P N h j v) := is_S H G (i := 12) (wds (149, 12) (by decide)) (by decide) v
  have w150 : f_Book_is P (rB P N h j v) 150 = some (b01 (decide (kdT T N j = 213)), rB P N h j v) := is_S H G (i := 13) (wds (150, 13) (by decide)) (by decide) v
  have w151 : f_Book_is P (rB P N h j v) 151 = some (b01 (decide (kdT T N j = 214)), rB P N h j v) := is_S H G (i := 14) (wds (151, 14) (by decide)) (by decide) v
  have w152 : f_Book_is P (rB P N h j v) 152 = some (b01 (decide (kdT T N j = 215)), rB P N h j v) := is_S H G (i := 15) (wds (152, 15) (by decide)) (by decide) v
  have w153 : f_Book_is P (rB P N h j v) 153 = some (b01 (decide (kdT T N j = 216)), rB P N h j v) := is_S H G (i := 16) (wds (153, 16) (by decide)) (by decide) v
  rw [w148, xhb_s]
  by_cases k211 : kdT T N j = 211
  · rw [if_pos (show (txT T N).kd j = 211 ∨ (txT T N).kd j = 212 from Or.inl k211)] at ht
    rw [if_neg (b01_dp k211)]
    exact call 6 1 (by omega) ⟨⟨by omega, fun z => by omega, fun z => by omega, fun z => Or.inl k211, fun z => by omega, fun z => by omega⟩, fun _ => Or.inl ⟨k211, rfl⟩⟩ ht
  rw [if_pos (b01_dn k211), w149, xhb_s]
  by_cases k212 : kdT T N j = 212
  · rw [if_pos (show (txT T N).kd j = 211 ∨ (txT T N).kd j = 212 from Or.inr k212)] at ht
    rw [if_neg (b01_dp k212)]
    exact call 6 0 (by omega) ⟨⟨by omega, fun z => by omega, fun z => by omega, fun z => Or.inr k212, fun z => by omega, fun z => by omega⟩, fun _ => Or.inr ⟨k212, rfl⟩⟩ ht
  rw [if_neg (show ¬ ((txT T N).kd j = 211 ∨ (txT T N).kd j = 212) from fun z => z.elim k211 k212)] at ht
  rw [if_pos (b01_dn k212), w150, xhb_s]
  have c7 : ∀ ko k, (ko, k) ∈ OPK → 213 ≤ k → k ≤ 216 → kdT T N j = k → XGq P N T lk C LW Tn (rho 4 0 d) d j m h r (xtb (f_BookR P nn 7 (nI ko) (rB P N h j v)) fun u g => some (some u, g)) := fun ko k h1 h2 h3 e => by
    rw [if_pos (show 213 ≤ (txT T N).kd j ∧ (txT T N).kd j ≤ 216 by show 213 ≤ kdT T N j ∧ kdT T N j ≤ 216; omega)] at ht
    exact call 7 (nI ko) (by omega) ⟨⟨by omega, fun z => by omega, fun z => by omega, fun z => by omega, fun _ => ⟨ko, rfl, by rw [e]; exact h1, by omega⟩, fun z => by omega⟩, fun z => by omega⟩ ht
  by_cases k213 : kdT T N j = 213
  · rw [if_neg (b01_dp k213)]; exact c7 1000 213 (by decide) (by omega) (by omega) k213
  rw [if_pos (b01_dn k213), w151, xhb_s]
  by_cases k214 : kdT T N j = 214
  · rw [if_neg (b01_dp k214)]; exact c7 1001 214 (by decide) (by omega) (by omega) k214
  rw [if_pos (b01_dn k214), w152, xhb_s]
  by_cases k215 : kdT T N j = 215
  · rw [if_neg (b01_dp k215)]; exact c7 1002 215 (by decide) (by omega) (by omega) k215
  rw [if_pos (b01_dn k215), w153, xhb_s]
  by_cases k216 : kdT T N j = 216
  · rw [if_neg (b01_dp k216)]; exact c7 1003 216 (by decide) (by omega) (by omega) k216
  rw [if_neg (show ¬ (213 ≤ (txT T N).kd j ∧ (txT T N).kd j ≤ 216) by show ¬ (213 ≤ kdT T N j ∧ kdT T N j ≤ 216); omega)] at ht
  have k3 : kdT T N j = 3 := by
    by_cases k3 : kdT T N j = 3
    · exact k3
    · rw [if_neg (show ¬ (txT T N).kd j = 3 from k3)] at ht; cases ht
  rw [if_pos (show (txT T N).kd j = 3 from k3)] at ht
  rw [if_pos (b01_dn k216), H.k4]
  have c3 := kd_nm H.lt G.1
  have er : f_Book_reserved P (rB P N h j v) = some (b01 (decide (isR T N j)), rB P N h j v) := by
    unfold rB
    rw [reserved_r H.n H.n2, H.t]
  obtain ⟨k1, r1⟩ := c3.mpr k3
  rw [if_pos k1, er, xhb_s, if_pos (b01_dn r1)]
  exact call 5 0 (by omega) ⟨⟨by omega, fun z => by omega, fun _ => k3, fun z => by omega, fun z => by omega, fun z => by omega⟩, fun z => by omega⟩ ht
end TOGG
/-- an EXPR that the reference reads on a good road: its node stands for what T says -/
theorem xG (P N : Nat) (T : Nat → Nat) (lk : List Nat → Nat × Nat) (lz : LZ) (C LW : List Nat) (Tn : Nat) : ∀ nn, IHg P N T lk C LW Tn lz nn := by
  intro nn
  induction nn with
  | zero => intro mo a α d j h m v r F; unfold Fq at F; omega
  | succ nn IH =>
    intro mo a α d j h m v r F E Z G hmj hp ht
    obtain ⟨⟨hmo, p1, p5, p6, p7, p8⟩, q6⟩ := hp
    have ze : ∀ {mo a}, ¬ mo = 1 → Fq (nn + 1) mo a d → Fq (nn + 1) mo 0 d := fun h1 F => by
      unfold Fq rkq at *
      rw [if_neg h1] at *
      exact F
    have rz : ∀ {mo a}, ¬ mo = 1 → rho mo a d = rho mo 0 d := fun h1 => by
      unfold rho
      rw [if_neg h1, if_neg h1]
    match mo, hmo with
    | 0, _ => rw [rz (by decide)]; exact ex_G IH E Z G hmj (ze (by decide) F) v ht
    | 1, _ =>
      obtain ⟨ea, ha⟩ := p1 rfl
      rw [ea]
      exact bi_G IH E Z G hmj ha F v ht
    | 2, _ => rw [rz (by decide)]; exact un_G IH E Z G hmj (ze (by decide) F) v ht
    | 3, _ => rw [rz (by decide)]; exact po_G IH E Z G hmj (ze (by decide) F) v ht
    | 4, _ => rw [rz (by decide)]; exact pr_G IH E Z G hmj (ze (by decide) F) v ht
    | 5, _ => rw [rz (by decide)]; exact nm_G IH E Z G hmj (p5 rfl) (ze (by decide) F) v ht
    | 6, _ => rw [rz (by decide)]; exact wi_G IH E Z G hmj (q6 rfl) (ze (by decide) F) v ht
    | 7, _ =>
      obtain ⟨ko, ea, h1, h2⟩ := p7 rfl
      rw [ea, rz (by decide)]
      exact ca_G IH E Z G hmj h1 h2 (ze (by decide) F) v ht
    | 8, _ => rw [rz (by decide)]; exact to_G IH E Z G hmj (p8 rfl) (ze (by decide) F) v ht
