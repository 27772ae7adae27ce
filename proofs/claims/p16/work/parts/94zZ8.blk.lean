/-! good roads: statements, blocks, ifs -/
theorem GSq.sd {P lo hi : Nat} {h : mv_H} (o k : Nat) (y : Int32) : GSq P lo hi h (mv_si h o k y) := ⟨⟨fun _ _ _ _ => ⟨rfl, rfl, rfl, rfl, rfl, rfl⟩, fun _ _ _ _ => rfl, fun _ _ _ _ => rfl⟩, fun _ _ _ _ _ => rfl, fun _ _ _ => rfl, fun _ _ => rfl⟩
theorem SN.ns {P T : Nat} {h : mv_H} {C : List Nat} {n u : Nat} {LW : List Nat} {lo x : Nat} {D : DnS} {LW' : List Nat} {hi : Nat} (s : SN P h T C n u LW lo x D LW' hi) : ¬ XSq P h x := by
  cases n with
  | zero => exact s.elim
  | succ n =>
  obtain ⟨-, s⟩ := s
  unfold XSq
  rcases s with s | s | s | s | s
  · obtain ⟨y, w, k, Dy, a1, -⟩ := s; rw [a1]; decide
  · obtain ⟨t, y, w, k, Dy, a1, -⟩ := s; rw [a1]; decide
  · obtain ⟨t, y, z, w, wz, k, Dy, Dz, a1, -⟩ := s; rw [a1]; decide
  · obtain ⟨k, a1, -⟩ := s; rw [a1]; decide
  · obtain ⟨-, L, y, n, Dy, D1, LW1, m1, D2, ⟨s1, -⟩, -⟩ := s; rw [s1]; decide
/-- what follows a statement's node is set -/
theorem GSq.fo {P hi l0 : Nat} {y : Int32} {h h' : mv_H} (g : GSq P 0 hi h h') (hl : ¬ XSq P h l0) {lo hi2 x : Nat} (h2 : hi2 ≤ hi) (hx : x = l0 ∨ hi2 ≤ l0) : FSq P lo hi2 x h (mv_sa h' (P + 22) l0 y) := by
  have e : ∀ o k, ¬ (o = P + 22 ∧ k = l0) → mv_a (mv_sa h' (P + 22) l0 y) o k = mv_a h' o k := fun o k q => san9 h' _ q
  refine ⟨⟨fun k _ hk hX => ?_, fun k _ hk hX => ?_, fun o k q hk => ?_⟩, fun o k q _ hk => ?_, fun k _ hk hkx => ?_, fun k hk => ?_⟩
  · obtain ⟨a1, a2, a3, a4, a5, a6⟩ := g.1.1 k (Nat.zero_le _) (by omega) hX
    exact ⟨by rw [e _ _ (by omega)]; exact a1, by rw [e _ _ (by omega)]; exact a2, by rw [e _ _ (by omega)]; exact a3, by rw [e _ _ (by omega)]; exact a4, by rw [e _ _ (by omega)]; exact a5, a6⟩
  · rw [e _ _ (fun z => hl (by rw [← z.2]; exact hX))]
    exact g.1.2.1 k (Nat.zero_le _) (by omega) hX
  · rw [e _ _ (by omega)]; exact g.1.2.2 o k q hk
  · rw [e _ _ (by omega)]; exact g.2.1 o k q (Nat.zero_le _) (by omega)
  · rw [e _ _ (by omega)]; exact g.2.2.1 k (Nat.zero_le _) (by omega)
  · rw [e _ _ (by omega)]; exact g.2.2.2 k hk
section STMG
variable {P N : Nat} {T : Nat → Nat} {C : List Nat} {Tn nn : Nat}
def IHt (P N : Nat) (T : Nat → Nat) (C : List Nat) (Tn nn : Nat) : Prop := ∀ (mo : Nat) (lk : LK) (lz : LZ) (le : Nat) (LW : List Nat) (d : Nat) (h : mv_H) (m j : Nat) (v : Int64) (r : VS), Fs nn mo d → mo ≤ 2 → SQg P N T C Tn lk lz le LW d h m j → (mo = 2 → kdT T N j = 209) → tS (txT T N) C nn mo lk lz le d j = some r → (mo = 0 → BOg P N T C Tn nn LW lk lz d j m h r (f_BookS P nn mo (rB P N h j v))) ∧ (¬ mo = 0 → SOg P N T C Tn nn LW d j m h r (f_BookS P nn mo (rB P N h j v)))
theorem stm_G (IH : IHt P N T C Tn nn) {lk : LK} {lz : LZ} {le : Nat} {LW : List Nat} {d m j : Nat} {h : mv_H} (F : Fs (nn + 1) 1 d) (Q : SQg P N T C Tn lk lz le LW d h m j) (v : Int64) {r : VS} (ht : tSm (txT T N) C (tS (txT T N) C nn) lk lz le d j = some r) : SOg P N T C Tn (nn + 1) LW d j m h r (f_Book_statement P (f_BookS P nn) (rB P N h j v)) := by
  have Q' := Q
  obtain ⟨Q, Z, hLW⟩ := Q
  have E := Q.es
  have H := E.hb
  have hmj := Q.mj
  have n10 := Q.n10
  unfold Fs at F
  rw [if_neg (by omega), if_pos rfl] at F
  have w147 : f_Book_is P (rB P N h j v) 147 = some (b01 (decide (kdT T N j = 207)), rB P N h j v) := is_S H Q.gk (i := 7) (wds (147, 7) (by decide)) (by decide) v
  have w154 : f_Book_is P (rB P N h j v) 154 = some (b01 (decide (kdT T N j = 208)), rB P N h j v) := is_S H Q.gk (i := 8) (wds (154, 8) (by decide)) (by decide) v
  have w155 : f_Book_is P (rB P N h j v) 155 = some (b01 (decide (kdT T N j = 209)), rB P N h j v) := is_S H Q.gk (i := 9) (wds (155, 9) (by decide)) (by decide) v
  unfold f_Book_statement
  unfold tSm at ht
  rw [w147, xhb_s]
  by_cases k207 : kdT T N j = 207
  · rw [if_pos (show (txT T N).kd j = 207 from k207)] at ht
    rw [if_neg (b01_dp k207)]
    obtain ⟨x, h', v', m', LW', e1, R1⟩ := lts_G nn Q' k207 v ht
    rw [e1, xtb_s]
    exact ⟨x, h', v', m', LW', rfl, R1⟩
  rw [if_neg (show ¬ (txT T N).kd j = 207 from k207)] at ht
  rw [if_pos (b01_dn k207), w154, xhb_s]
  by_cases k208 : kdT T N j = 208
  · rw [if_pos (show (txT T N).kd j = 208 from k208)] at ht
    rw [if_neg (b01_dp k208)]
    exact trp_G nn Q' k208 v ht
  rw [if_neg (show ¬ (txT T N).kd j = 208 from k208)] at ht
  rw [if_pos (b01_dn k208), w155, xhb_s]
  by_cases k209 : kdT T N j = 209
  · rw [if_pos (show (txT T N).kd j = 209 from k209)] at ht
    rw [if_neg (b01_dp k209)]
    obtain ⟨x, h', v', m', LW', e1, R1, R2, R3, R4, R5⟩ := (IH 2 lk lz le LW d h m j v r (by unfold Fs; rw [if_neg (by omega), if_neg (by omega)]; omega) (by omega) Q' (fun _ => k209) ht).2 (by decide)
    rw [e1, xtb_s]
    exact ⟨x, h', v', m', LW', rfl, R1, R2, R3, SN.up nn (usD d) (nn + 1) (usD d) (by omega) (Nat.le_refl _) _ _ _ _ _ _ R4, R5⟩
  rw [if_neg (show ¬ (txT T N).kd j = 209 from k209)] at ht
  rw [if_pos (b01_dn k209)]
  unfold tAs at ht
  obtain ⟨u2, g2, ht⟩ := obn ht
  obtain ⟨k2, G2, hd, v2, e2⟩ := nmG E Q.gk v g2
  have E2 := E.nmK j
  have H2 := E2.hb
  have e49 : mv_i (rB P N (nmK P N T h j) (j + 1) v2) P 49 = nI (pos T N j) := (rB_o _ _ (by omega)).trans (nmK_49 _)
  have e50 : mv_i (rB P N (nmK P N T h j) (j + 1) v2) P 50 = nI (bp T N (j + 1)) := (rB_o _ _ (by omega)).trans (nmK_50 _)
  rw [e2, xtb_s, e49, e50, H2.k4]
  have hch : (tok T N (j + 1)).1 = (91 : Int32) ↔ kdT T N (j + 1) = 91 := H2.ch (c := 91) G2 (by omega) (by omega)
  have i35 : mv_i (nmK P N T h j) P 35 = mv_i h P 35 := nmK_i (by omega) _
  have Q2 : SQq P N T lk le true d (nmK P N T h j) m (j + 1) := Q.x (fun w => w) E2 i35 (nmK_i (by omega) _) (nmK_fr 0 j) G2 (by omega) (by omega)
  have B2 : NB P m h (nmK P N T h j) := ⟨fun _ _ _ _ _ => rfl, fun _ _ => rfl⟩
  by_cases c : kdT T N (j + 1) = 91
  rotate_left
  · rw [if_neg (show ¬ (txT T N).kd (j + 1) = 91 from c)] at ht
    rw [if_neg (fun z => c (hch.mp z))]
    unfold f_Book_statement_100
    rw [if_pos rfl]
    exact as2_G (f_BookS P nn) nn Q2 (Z.nmK j) hLW (by omega) Q.gk k2 (nmK_fr _ _) B2 i35 (by omega) (Nat.le_refl _) (f := false) (-1) dN (fun q => by cases q) v2 ht
  rw [if_pos (show (txT T N).kd (j + 1) = 91 from c)] at ht
  rw [if_pos (hch.mpr c)]
  obtain ⟨u3, g3, ht⟩ := obn ht
  obtain ⟨⟨j4, w4, D4⟩, t4, ht⟩ := obn ht
  obtain ⟨u5, g5, ht⟩ := obn ht
  unfold f_Book_statement_100
  obtain ⟨-, G3, v3, e3⟩ := psG H2 G2 (by omega) (by omega) v2 g3
  rw [if_neg (show ¬ (1 : Int32) = 0 by decide), e3, xtb_s, dUp H2 hd, xk_s]
  have E3 := E2.dep (d2 := d + 1) (by omega)
  have Z3 := (Z.nmK j).dep (nI (d + 1))
  obtain ⟨x4, h4, v4, m4, e4, R4, B4, N4, O4⟩ := xG P N T lk lz C LW Tn 868 0 0 0 (d + 1) (j + 2) _ m v3 _ (F868 (by omega)) E3 Z3 G3 (by omega) (preg0 (Or.inl rfl)) t4
  have e4 : f_BookR P 868 0 0 (rB P N (mv_si (nmK P N T h j) P 8 (nI (d + 1))) (j + 1 + 1) v3) = some (some (nI x4), rB P N h4 j4 v4) := e4
  have R4 : XRq P N T lk true (d + 1) (j + 2) j4 m m4 (mv_si (nmK P N T h j) P 8 (nI (d + 1))) h4 x4 w4 := R4
  have N4 : ND P h4 Tn m C LW (x4 + 1) (rho 0 0 (d + 1)) x4 w4 D4 := N4
  have E4 := R4.es
  have H4 := E4.hb
  obtain ⟨k5, -, G5, v5, e5⟩ := nG H4 R4.gk (c := 93) (k := 93) (by omega) (H4.ch (c := 93) R4.gk (by omega) (by omega)) v4 g5
  rw [e4, xtb_s, e5, xtb_s, dDn H4, xk_s]
  have hc4 := R4.cnt
  have hj4 := R4.jj
  have hm4 := R4.mm
  have xm4 := R4.xm
  have X5 := R4.fr.dep H2.dp
  have Q5 : SQq P N T lk le true d (mv_si h4 P 8 (nI d)) m4 (j4 + 1) := Q2.x (L := 0) (fun w => w) (E4.dep (by omega)) X5.L.1 X5.L.2.1 X5.s G5 (by omega) (by omega)
  have Z5 : ZQ P N T lz C LW Tn (mv_si h4 P 8 (nI d)) := (Z3.fr R4.fr H.p).dep (nI d)
  have N5 : ND P (mv_si h4 P 8 (nI d)) Tn 0 C LW (x4 + 1) 633 x4 w4 D4 := ((N4.lo (Nat.zero_le _)).rk (by unfold rho; rw [if_pos rfl]; omega)).sd P 8 (nI d)
  exact as2_G (f_BookS P nn) nn Q5 Z5 hLW (by omega) Q.gk k2 ((nmK_fr _ _).trans X5.s (Nat.le_refl _)) (NB.trans (h1 := h4) B4 (NB.refl P m4 h4) hm4) (X5.L.1.trans i35) (by omega) (by omega) (f := true) (nI x4) D4 (fun _ => ⟨x4, w4, rfl, xm4, N5⟩) v5 ht
theorem kl_G (IH : IHt P N T C Tn nn) {lk0 : LK} {lz0 : LZ} {le0 : Nat} {LW0 : List Nat} {d m0 j0 : Nat} {h0 : mv_H} (Q0 : SQg P N T C Tn lk0 lz0 le0 LW0 d h0 m0 j0) (hd : d ≤ 60) (F1 : Fs nn 1 (d + 1)) : ∀ (k kk : Nat) (lk : LK) (lz : LZ) (le j m : Nat) (LW : List Nat) (h : mv_H) (v : Int64) (x2 x3 : Int32) (D : DnS) (L : List Nat) (r : VS), SQg P N T C Tn lk lz le LW (d + 1) h m j → PxL LW0 LW → SFr P (mv_i h0 P 35).toNatClampNeg (mv_si h0 P 8 (nI (d + 1))) h → NB P m0 h0 h → j0 < j → m + j0 ≤ m0 + j → m0 ≤ m → (mv_i h0 P 35).toNatClampNeg ≤ (mv_i h P 35).toNatClampNeg → SG P h (SN P h Tn C nn (usD (d + 1))) L LW0 m0 x2 D LW m (-1) → ((L = [] ∧ x3 = -1) ∨ ∃ M l0, L = M ++ [l0] ∧ x3 = nI l0 ∧ l0 < m ∧ m0 ≤ l0 ∧ ¬ XSq P h l0) → 32768 - j < kk → tKL (txT T N) (tS (txT T N) C nn) d lk0 lz0 k lk lz le j D = some r →
    BOg P N T C Tn (nn + 1) LW0 lk0 lz0 d j0 m0 h0 r (f_Book_block_25 P (f_BookS P nn) kk (nI (mv_i h0 P 35).toNatClampNeg) x2 x3 (rB P N h j v)) := by
  intro k
  induction k with
  | zero => intro kk lk lz le j m LW h v x2 x3 D L r _ _ _ _ _ _ _ _ _ _ _ ht; cases ht
  | succ k ih =>
    intro kk lk lz le j m LW h v x2 x3 D L r Q hpx Fr B hj hc hmm hLL hG hx h2 ht
    obtain ⟨kk, rfl⟩ : ∃ q, kk = q + 1 := ⟨kk - 1, by omega⟩
    show BOg P N T C Tn (nn + 1) LW0 lk0 lz0 d j0 m0 h0 r (fF_Book_block_25 P (f_BookS P nn) (f_Book_block_25 P (f_BookS P nn) kk) (nI (mv_i h0 P 35).toNatClampNeg) x2 x3 (rB P N h j v))
    have Q' := Q
    obtain ⟨Q, Z, hLW⟩ := Q
    obtain ⟨Q0, Z0, hLW0⟩ := Q0
    have E := Q.es
    have H := E.hb
    have hP := H.p
    have n10 := Q.n10
    have hjb0 := gk_n E Q.gk
    have hmj := Q.mj
    have hch : (tok T N j).1 = (125 : Int32) ↔ kdT T N j = 125 := H.ch (c := 125) Q.gk (by omega) (by omega)
    have ht : (if kdT T N j = 125 then (gd (ps (txT T N) (d + 1) j)).bind fun _ => some (j + 1, (lk0, lz0), le, D) else (tS (txT T N) C nn 1 lk lz le (d + 1) j).bind fun r => tKL (txT T N) (tS (txT T N) C nn) d lk0 lz0 k r.2.1.1 r.2.1.2 r.2.2.1 r.1 (zSq D r.2.2.2)) = some r := ht
    unfold fF_Book_block_25
    rw [H.k4]
    by_cases c : kdT T N j = 125
    · rw [if_pos c] at ht
      rw [if_pos (hch.mpr c)]
      obtain ⟨u3, g3, ht⟩ := obn ht
      obtain rfl := Option.some.inj ht
      have g3' : ndq (txT T N) (d + 1) j 125 = some u3 := by
        unfold ndq
        rw [show (txT T N).kd j = 125 from c, Nat.beq_refl, Bool.true_and]
        exact g3
      obtain ⟨k3, -, G3, v3, e3⟩ := nG H Q.gk (c := 125) (k := 125) (by omega) hch v g3'
      rw [e3, xtb_s, dDn H, xk_s, rB_si (by omega), xk_s]
      have F2 : SFr P (mv_i h0 P 35).toNatClampNeg h0 (mv_si h P 8 (nI d)) := Fr.dep Q0.es.hb.dp
      have gs : GSq P m0 m h (mv_si (mv_si h P 8 (nI d)) P 35 (nI (mv_i h0 P 35).toNatClampNeg)) := ⟨⟨fun _ _ _ _ => ⟨rfl, rfl, rfl, rfl, rfl, rfl⟩, fun _ _ _ _ => rfl, fun _ _ _ _ => rfl⟩, fun _ _ _ _ _ => rfl, fun _ _ _ => rfl, fun _ _ => rfl⟩
      have B3 : NB P m0 h0 (mv_si (mv_si h P 8 (nI d)) P 35 (nI (mv_i h0 P 35).toNatClampNeg)) := B
      generalize hh3 : mv_si (mv_si h P 8 (nI d)) P 35 (nI (mv_i h0 P 35).toNatClampNeg) = h3 at gs B3
      have i3 : ∀ k, ¬ k = 35 → mv_i h3 P k = mv_i (mv_si h P 8 (nI d)) P k := fun k hk => by rw [← hh3]; exact mv_u_ne (mv_i (mv_si h P 8 (nI d))) _ (by omega)
      have a3 : ∀ o, mv_a h3 o = mv_a h o := fun o => by rw [← hh3]; rfl
      have z35 : mv_i h3 P 35 = mv_i h0 P 35 := by
        rw [← hh3]
        exact (mv_u_same (mv_i (mv_si h P 8 (nI d))) P 35 _).trans Q0.es.ro.l0.symm
      have F3 : SFr P (mv_i h0 P 35).toNatClampNeg h0 h3 := by
        rw [← hh3]
        exact ⟨fun o k q => (mv_u_ne (mv_i (mv_si h P 8 (nI d))) _ (by omega)).trans (F2.i o k q), F2.l, F2.r, F2.a, F2.q, F2.b⟩
      have j8 : ∀ k, ¬ k = 35 → ¬ k = 8 → mv_i h3 P k = mv_i h P k := fun k h1 h2 => (i3 k h1).trans (mv_u_ne (mv_i h) _ (by omega))
      have R0 := Q0.es.ro
      have rows : ∀ o i, P + 14 ≤ o → o ≤ P + 17 → i < (mv_i h0 P 35).toNatClampNeg → mv_a h3 o i = mv_a h0 o i := fun o i h1 h2 h3' => F3.q o i h1 h2 h3'
      have E3 : ESq P N T lk0 true d h3 m := ⟨⟨by rw [F3.i P 2 (by omega)]; exact Q0.es.hb.n, H.n2, by rw [F3.ckq hP]; exact Q0.es.hb.t, by rw [F3.i P 8 (by omega)]; exact Q0.es.hb.dp, by omega, hP⟩, by rw [j8 38 (by omega) (by omega)]; exact E.fa, by rw [j8 48 (by omega) (by omega)]; exact E.nd, by
          unfold ROq
          rw [z35, F3.i P 17 (by omega), F3.i P 30 (by omega), F3.i P 29 (by omega), F3.a (P + 1) (by omega), F3.a (P + 2) (by omega), F3.a (P + 3) (by omega), F3.a (P + 10) (by omega)]
          refine ⟨R0.l0, R0.l1, fun i hi => ?_, fun i hi => ?_, R0.t0, R0.t1, R0.t2, R0.t3, R0.e0, R0.e1, R0.o0, R0.o1, R0.b0, R0.b1⟩
          · rw [rows (P + 14) i (by omega) (by omega) hi, rows (P + 15) i (by omega) (by omega) hi]; exact R0.l2 i hi
          · rw [rows (P + 16) i (by omega) (by omega) hi]; exact R0.l3 i hi, fun w q e q1 q2 => by
          have old := Q0.es.ev rfl q e q1 q2
          rw [← old]
          unfold lkQ
          rw [F3.ckq hP, F3.a 71 (by omega), z35, F3.i P 17 (by omega), F3.i P 30 (by omega), F3.i P 29 (by omega), F3.a (P + 1) (by omega), F3.a (P + 2) (by omega), F3.a (P + 3) (by omega), F3.a (P + 10) (by omega), F3.a (P + 13) (by omega), F3.a (P + 6) (by omega)]
          exact lkZ_cg (fun i hi => ⟨rows (P + 14) i (by omega) (by omega) hi, rows (P + 15) i (by omega) (by omega) hi, rows (P + 16) i (by omega) (by omega) hi⟩) q e, Q0.es.lp, fun i hi => by rw [a3]; exact E.wd i hi⟩
      obtain ⟨lr, hl1, hl2, hl3⟩ := Q.le0
      have Q3 : SQq P N T lk0 le true d h3 m (j + 1) := ⟨E3, n10, F3.b7 hP Q0.b7, ⟨lr, by rw [j8 36 (by omega) (by omega)]; exact hl1, by omega, hl3⟩, by rw [z35]; have := Q0.ln; omega, G3, by omega, by rw [F3.i P 17 (by omega), F3.a (P + 6) (by omega)]; exact Q0.f6⟩
      have Z3 : ZQ P N T lz0 C (padL LW0 LW) Tn h3 := by
        refine ⟨by rw [F3.i P 17 (by omega)]; exact Z0.1, fun q e h1 h2 => ?_⟩
        have z := Z0.2 q e h1 h2
        have el : lfz P h3 q e = lfz P h0 q e := by
          unfold lfz
          rw [z35, F3.a 71 (by omega)]
          exact fstm_cg _ 0 (fun k _ hk => by simp only [rows (P + 14) k (by omega) (by omega) (by omega), rows (P + 15) k (by omega) (by omega) (by omega)])
        have et : tfz P h3 q e = tfz P h0 q e := by
          unfold tfz
          rw [F3.a 71 (by omega), F3.i P 17 (by omega), F3.a (P + 1) (by omega), F3.a (P + 2) (by omega)]
        have ec : cfz P N h3 q = cfz P N h0 q := by
          unfold cfz
          rw [F3.ckq hP, F3.i P 30 (by omega), F3.i P 29 (by omega), F3.a (P + 10) (by omega), F3.a (P + 13) (by omega)]
        rw [el, et, ec, F3.ckq hP]
        cases cl : lfz P h0 q e with
        | none => rw [cl] at z; exact z
        | some i =>
          rw [cl] at z
          obtain ⟨z1, z2, z3, z4⟩ := z
          have hi := fsz_lt cl
          show lz0 (tn T q (e - q)) < 64 ∧ mv_a h3 (P + 17) i = nI (lz0 (tn T q (e - q))) ∧ (padL LW0 LW)[lz0 (tn T q (e - q))]? = some (mv_a h3 (P + 16) i).toNatClampNeg ∧ (mv_a h3 (P + 16) i).toNatClampNeg ≤ 64
          rw [rows (P + 17) i (by omega) (by omega) hi, rows (P + 16) i (by omega) (by omega) hi]
          exact ⟨z1, z2, PxL.inn ⟨_, rfl⟩ z3, z4⟩
      have hB : BKq P h3 (SN P h3 Tn C (nn + 1) (usD (d + 1))) LW0 m0 x2 D LW m := (BKq.fr ⟨L, hG⟩ gs).up (by omega) (Nat.le_refl _)
      exact ⟨rfl, x2, h3, v3, m, LW, rfl, ⟨Q3, F3, by show j0 < j + 1; omega, by show m + j0 ≤ m0 + (j + 1); omega, hmm, by rw [z35]; omega, by rw [z35]; show 5 * _ + j0 ≤ 5 * _ + (j + 1); omega⟩, z35, ⟨Z3, hLW, hpx⟩, B3, hB⟩
    · rw [if_neg c] at ht
      rw [if_neg (fun z => c (hch.mp z))]
      obtain ⟨r1, t1, ht⟩ := obn ht
      obtain ⟨x, h', v', m', LW', e1, R1, ⟨Z1, hLW1, px1⟩, B1, S1, O1⟩ := (IH 1 lk lz le LW (d + 1) h m j v r1 F1 (by omega) Q' (fun w => by omega) t1).2 (by decide)
      rw [e1, xtb_s]
      have hj' := R1.jj
      have hc' := R1.cnt
      have hm' := R1.mm
      have hl' := R1.lm
      have hmj' := R1.sq.mj
      have hjb' := gk_n R1.sq.es R1.sq.gk
      have FF : SFr P (mv_i h0 P 35).toNatClampNeg (mv_si h0 P 8 (nI (d + 1))) h' := Fr.trans R1.fr hLL
      have hpx' : PxL LW0 LW' := by
        obtain ⟨l1, rfl⟩ := hpx
        obtain ⟨l2, rfl⟩ := px1
        exact ⟨l1 ++ l2, by rw [List.append_assoc]⟩
      have xlt := S1.lt
      have gh : GSq P 0 m h h' := B1.g (Nat.le_refl _) R1.fr
      unfold f_Book_block_58
      rcases hx with ⟨rfl, rfl⟩ | ⟨M, l0, rfl, rfl, hl0, hl1, hl2⟩
      · obtain ⟨rfl, rfl, rfl, rfl⟩ := hG
        rw [if_neg (show ¬ (0 : Int32) ≤ -1 by decide)]
        refine ih kk r1.2.1.1 r1.2.1.2 r1.2.2.1 r1.1 m' LW' h' v' (nI x) (nI x) (zSq zSk r1.2.2.2) [x] r ⟨R1.sq, Z1, hLW1⟩ hpx' FF (B.trans B1 hmm) (by omega) (by omega) (by omega) (by omega) ⟨rfl, r1.2.2.2, LW', m', zSk, S1, by rw [zSq_l, zSq_r], ⟨O1, rfl, rfl, rfl⟩⟩ (Or.inr ⟨[], x, rfl, rfl, xlt.2.1, by omega, S1.ns⟩) (by omega) ht
      · rw [if_pos (show (0 : Int32) ≤ nI l0 from (nIle (a := 0) (by omega) (by omega)).mpr (by omega)), xvi_n (by omega) (by decide), cond_true, cln (by omega), rB_sa (by omega), xk_s]
        have Q4 := R1.sq.fo2 (o := P + 22) (by omega) l0 (nI x)
        have V := R1.sq.es.fo2 (o := P + 22) (by omega) l0 (nI x)
        have B4 : NB P m0 h0 (mv_sa h' (P + 22) l0 (nI x)) := ⟨fun o k q1 q2 q3 => by rw [san9 h' _ (by omega), B1.1 o k q1 q2 (by omega)]; exact B.1 o k q1 q2 q3, fun k q => (B1.2 k (by omega)).trans (B.2 k q)⟩
        have nl0 : ¬ XSq P h' l0 := fun q => hl2 (by unfold XSq at q ⊢; rw [← B1.1 (P + 18) l0 (by omega) (by omega) hl0]; exact q)
        have hS4 : SN P (mv_sa h' (P + 22) l0 (nI x)) Tn C nn (usD (d + 1)) LW m x r1.2.2.2 LW' m' := by
          refine SN.fr nn (usD (d + 1)) LW m x r1.2.2.2 LW' m' S1 ⟨⟨fun k _ _ hX => ⟨san9 h' _ (by omega), san9 h' _ (by omega), san9 h' _ (by omega), san9 h' _ (by omega), san9 h' _ (by omega), rfl⟩, fun k _ _ hX => san9 h' _ (fun z => nl0 (by rw [← z.2]; exact hX)), fun o k q _ => san9 h' _ (by omega)⟩, fun o k q _ _ => san9 h' _ (by omega), fun k a b _ => san9 h' _ (by omega), fun k _ => san9 h' _ (by omega)⟩
        have G4 := SG.sn (P := P) (h := h) (h' := mv_sa h' (P + 22) l0 (nI x)) (S := SN P h Tn C nn (usD (d + 1))) (S' := SN P (mv_sa h' (P + 22) l0 (nI x)) Tn C nn (usD (d + 1))) (x := x) (l0 := l0) (m1 := m) (m2 := m') (Dx := r1.2.2.2) (LW1 := LW) (LW2 := LW') (fun LW lo x D LW' hi s => ⟨s.lt.1, s.lt.2.1⟩) (fun LW lo x D LW' hi q1 q2 s => SN.fr nn (usD (d + 1)) LW lo x D LW' hi s (gh.fo hl2 q1 q2)) (fun k hk hkl => by rw [san9 h' _ (fun z => hkl z.2)]; exact B1.1 (P + 22) k (by omega) (by omega) hk) (mv_u_same _ _ _ _) (by rw [san9 h' _ (by omega)]; exact O1) hS4 hG
        refine ih kk r1.2.1.1 r1.2.1.2 r1.2.2.1 r1.1 m' LW' _ v' x2 (nI x) (zSq D r1.2.2.2) ((M ++ [l0]) ++ [x]) r ⟨Q4, Z1.fr V.2 hP, hLW1⟩ hpx' (FF.trans V.2.s (Nat.le_refl _)) B4 (by omega) (by omega) (by omega) (by rw [V.2.L.1]; omega) G4.1 (Or.inr ⟨M ++ [l0], x, rfl, rfl, xlt.2.1, by omega, ?_⟩) (by omega) ht
        exact hS4.ns
theorem blk_G (IH : IHt P N T C Tn nn) {lk : LK} {lz : LZ} {le : Nat} {LW : List Nat} {d m j : Nat} {h : mv_H} (F : Fs (nn + 1) 0 d) (Q : SQg P N T C Tn lk lz le LW d h m j) (v : Int64) {r : VS} (ht : tBk (txT T N) (tS (txT T N) C nn) lk lz le d j = some r) : BOg P N T C Tn (nn + 1) LW lk lz d j m h r (f_Book_block P (f_BookS P nn) (rB P N h j v)) := by
  have Q' := Q
  obtain ⟨Q, Z, hLW⟩ := Q
  have E := Q.es
  have H := E.hb
  have hmj := Q.mj
  unfold Fs at F
  rw [if_pos rfl] at F
  unfold f_Book_block
  unfold tBk at ht
  obtain ⟨u3, g3, ht⟩ := obn ht
  obtain ⟨k3, hd, G3, v3, e3⟩ := nG H Q.gk (c := 123) (k := 123) (by omega) (H.ch (c := 123) Q.gk (by omega) (by omega)) v g3
  rw [e3, xtb_s, dUp H hd, xk_s]
  have i35 : mv_i (mv_si h P 8 (nI (d + 1))) P 35 = mv_i h P 35 := mv_u_ne (mv_i h) _ (by omega)
  have i36 : mv_i (mv_si h P 8 (nI (d + 1))) P 36 = mv_i h P 36 := mv_u_ne (mv_i h) _ (by omega)
  have i17 : mv_i (mv_si h P 8 (nI (d + 1))) P 17 = mv_i h P 17 := mv_u_ne (mv_i h) _ (by omega)
  have Q2 : SQq P N T lk le true (d + 1) (mv_si h P 8 (nI (d + 1))) m (j + 1) := ⟨E.dep (by omega), Q.n10, Q.b7, (by obtain ⟨lr, h1, h2, h3⟩ := Q.le0; exact ⟨lr, by rw [i36]; exact h1, by omega, h3⟩), by rw [i35]; have := Q.ln; omega, G3, by omega, by rw [i17]; exact Q.f6⟩
  have e35 : mv_i (rB P N (mv_si h P 8 (nI (d + 1))) (j + 1) v3) P 35 = nI (mv_i h P 35).toNatClampNeg := (rB_o _ _ (by omega)).trans (i35.trans E.ro.l0)
  rw [e35]
  exact kl_G IH Q' hd (by unfold Fs; rw [if_neg (by omega), if_pos rfl]; omega) 200000 200000 lk lz le (j + 1) m LW _ v3 (-1) (-1) zSk [] r ⟨Q2, Z.dep (nI (d + 1)), hLW⟩ ⟨[], (List.append_nil _).symm⟩ (SFr.refl _ _ _) ⟨fun _ _ _ _ _ => rfl, fun _ _ => rfl⟩ (by omega) (by omega) (Nat.le_refl _) (by rw [i35]; omega) ⟨rfl, rfl, rfl, rfl⟩ (Or.inl ⟨rfl, rfl⟩) (by omega) ht
end STMG
