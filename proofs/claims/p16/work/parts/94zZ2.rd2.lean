/-! good roads: a literal -/
theorem nJ_ft {x w : Nat} (hx : x < 18446744073709551616) (h : x < 2 ^ w) : FTq w (nJ x) := by
  unfold FTq
  have e2 : (nJ x).toBitVec.toNat = x % 2 ^ 64 := by
    show (BitVec.ofNat 64 x).toNat = _
    rw [BitVec.toNat_ofNat]
  rw [e2, Nat.mod_eq_of_lt hx]
  exact h
section LITG
variable {P N : Nat} {T : Nat → Nat} {lk : List Nat → Nat × Nat} {C LW : List Nat} {Tn d m : Nat} {h : mv_H}
theorem lit121x (E : ESq P N T lk true d h m) (hm : m < 33000) {w : Nat} (hw : w ≤ 40000) (j : Nat) (v u : Int64) : f_Book_literal_121 P u (nI w) 0 0 0 1 (rB P N h j v) = some (some (nI m), rB P N (mv_sb (ndH P m 1 0 0 0 w h) (P + 24) m u) j v) := by
  unfold f_Book_literal_121
  rw [(nNx E hm 1 0 0 0 hw j v).1, xhb_s, xvi_n hm (by decide), cond_true, cln (by omega), rB_sb, xk_s]
theorem lit_G (E : ESq P N T lk true d h m) (hm : m < 33000) {j : Nat} (G : gkT T N j) (hk : kdT T N j = 4) (v : Int64) {r : VD} (ht : tLit (txT T N) d j = some r) {rr : Nat} (hr : 0 < rr) : XGq P N T lk C LW Tn rr d j m h r (f_Book_literal P (rB P N h j v)) := by
  have H := E.hb
  unfold tLit at ht
  obtain ⟨z, s, ht⟩ := obn ht
  obtain rfl := Option.some.inj ht
  unfold sLit at s
  obtain ⟨u1, g1, s⟩ := obn s
  obtain ⟨u2, g2, s⟩ := obn s
  obtain ⟨u3, g3, s⟩ := obn s
  obtain ⟨en, hn⟩ := E.num G hk v
  obtain ⟨-, G1, v1, e1⟩ := psG H G (by omega) (by omega) v g1
  obtain ⟨k2, -, G2, v2, e2⟩ := nG H G1 (c := 39) (k := 39) (by omega) (H.ch (c := 39) G1 (by omega) (by omega)) v1 g2
  obtain ⟨k3, -, G3, v3, e3⟩ := nG H G2 (c := 4) (k := 2) (by omega) (kd_num H.lt G2.1) v2 g3
  obtain ⟨en3, hn3⟩ := E.num G2 k3 v2
  have en3 : mv_l (rB P N h (j + 1 + 1) v2) P 9 = nJ ((txT T N).nu (j + 2)) := en3
  have hn3 : (txT T N).nu (j + 2) < 18446744073709551616 := hn3
  clear g1 g2 g3
  generalize (txT T N).nu j = A at *
  generalize (txT T N).nu (j + 2) = B0 at *
  have c : 1 ≤ A ∧ A ≤ 64 ∧ B0 < 2 ^ A := by
    by_cases c : 1 ≤ A ∧ A ≤ 64 ∧ B0 < 2 ^ A
    · exact c
    · rw [if_neg c] at s; cases s
  rw [if_pos c] at s
  obtain rfl := Option.some.inj s
  have e81 : f_Book_literal_81 P (nJ (A)) (nJ (B0)) (mv_i (rB P N h (j + 1 + 1) v2) P 5) (b01 true) (rB P N h (j + 3) v3) = some (some (nI m), rB P N (mv_sb (ndH P m 1 0 0 0 (A) h) (P + 24) m (nJ (B0))) (j + 3) v3) := by
    unfold f_Book_literal_81 f_Book_literal_86 f_Book_literal_105
    rw [if_neg (show ¬ b01 true = 0 by decide), if_neg n10, if_neg n10, nJi (by omega)]
    exact lit121x E hm (by omega) (j + 3) v3 _
  have efin : f_Book_literal P (rB P N h j v) = some (some (nI m), rB P N (mv_sb (ndH P m 1 0 0 0 (A) h) (P + 24) m (nJ (B0))) (j + 3) v3) := by
    unfold f_Book_literal
    rw [en, e1, xtb_s, e2, xtb_s, e3, xtb_s, en3, show (1 : Int64) = nJ 1 from rfl, show (64 : Int64) = nJ 64 from rfl, in_S _ hn (by omega) (by omega), xhb_s, decide_eq_true (⟨c.1, c.2.1⟩ : 1 ≤ A ∧ A ≤ 64), if_neg (show ¬ b01 true = 0 by decide)]
    unfold f_Book_literal_58
    rw [if_neg (show ¬ b01 true = 0 by decide), show (64 : Int64) = nJ 64 from rfl, nJi (by omega), xJ_shr]
    by_cases c2 : A = 64
    · rw [if_pos ((lc_eq (by omega) (by omega)).mpr c2)]
      exact e81
    · rw [if_neg (fun w => c2 ((lc_eq (by omega) (by omega)).mp w))]
      have hs := sh_0 hn3 (w := A) (by omega)
      rw [if_pos (hs.mpr c.2.2)]
      exact e81
  have V := (nNx E hm 1 0 0 0 (w := A) (by omega) (j + 3) v3).2.vb (P + 24) m rfl (nJ (B0))
  have b24 : mv_b (mv_sb (ndH P m 1 0 0 0 A h) (P + 24) m (nJ B0)) (P + 24) m = nJ B0 := mv_u_same _ _ _ _
  have b25 : ∀ k, k < m → mv_b (mv_sb (ndH P m 1 0 0 0 A h) (P + 24) m (nJ B0)) (P + 24) k = mv_b h (P + 24) k := fun k hk => sbn9 (ndH P m 1 0 0 0 A h) _ (by omega)
  have a2 : ∀ o k, mv_a (mv_sb (ndH P m 1 0 0 0 A h) (P + 24) m (nJ B0)) o k = mv_a (ndH P m 1 0 0 0 A h) o k := fun _ _ => rfl
  have XX : XFr P m h (mv_sb (ndH P m 1 0 0 0 A h) (P + 24) m (nJ B0)) := XFr.trans (h1 := ndH P m 1 0 0 0 A h) ndH_X V.2 (by omega)
  have V1 := V.1
  clear V
  generalize mv_sb (ndH P m 1 0 0 0 A h) (P + 24) m (nJ B0) = h2 at *
  have r18 : mv_a h2 (P + 18) m = 1 := by rw [a2]; exact ndH_18
  have r22 : mv_a h2 (P + 22) m = -1 := by rw [a2]; exact ndH_22
  have r23 : mv_a h2 (P + 23) m = nI A := by rw [a2]; exact ndH_23
  have hB2 : NB P m h h2 := ⟨fun o k q1 q2 q3 => by rw [a2]; exact ndH_o o k (by omega), b25⟩
  have hN : ND P h2 Tn m C LW (m + 1) rr m A (dLit (nJ B0)) := ⟨⟨r23, by omega, by omega, hm, hr, Nat.le_refl _⟩, Or.inl ⟨r18, by rw [b24]; exact nJ_ft hn3 c.2.2, by rw [b24]⟩⟩
  exact ⟨m, h2, v3, m + 1, efin, ⟨V1, XX, by show j < j + 3; omega, G3, by show m + 1 + j ≤ m + (j + 3); omega, by omega, by omega, r23, by show A ≤ 40000; omega, fun _ => by show 0 < A; omega⟩, hB2, hN, r22⟩
end LITG
/-! two, chosen -/
theorem two_G {P N : Nat} {T : Nat → Nat} {lk : List Nat → Nat × Nat} {d m : Nat} {h : mv_H} (E : ESq P N T lk true d h m) (hm : m < 33000) {ko k : Nat} (hp : (ko, k) ∈ OPK) (a : Int32) {x y wx wy w : Nat} (hx : x < m) (hy : y < m) (ex : mv_a h (P + 23) x = nI wx) (ey : mv_a h (P + 23) y = nI wy) (kx : wx ≤ 64) (ky : wy ≤ 64) (bx : 0 < wx) (by' : 0 < wy) (ht : tw k wx wy = some w) (j : Nat) (v : Int64) : f_Book_two P (rB P N h j v) (nI ko) a (nI x) (nI y) = some (nI m, rB P N (ndH P m 7 (nI x) (nI y) (nI ko) w h) j v) ∧ ESq P N T lk true d (ndH P m 7 (nI x) (nI y) (nI ko) w h) (m + 1) ∧ 0 < w ∧ w ≤ 64 := by
  have ex' : mv_a (rB P N h j v) (P + 23) x = nI wx := ex
  have ey' : mv_a (rB P N h j v) (P + 23) y = nI wy := ey
  have sh := OPK_sh (rB P N h j v) _ hp
  have as0 := OPK_as (rB P N h j v) _ hp
  have hk : k = 131 ∨ k = 132 ∨ k = 216 ∨ wx = wy := by
    by_cases c : k = 131 ∨ k = 132 ∨ k = 216 ∨ wx = wy
    · exact c
    · unfold tw at ht; rw [if_neg c] at ht; cases ht
  have etw : tw k wx wy = some (if lvq k = 4 ∨ lvq k = 5 ∨ k = 213 then 1 else wx) := if_pos hk
  rw [etw] at ht
  have hw := Option.some.inj ht
  have e54 : f_Book_two_54 P (nI ko) a (nI x) (nI y) 1 (rB P N h j v) = some (nI m, rB P N (ndH P m 7 (nI x) (nI y) (nI ko) w h) j v) := by
    unfold f_Book_two_54 f_Book_two_59 f_Book_two_77 f_Book_two_110
    by_cases q : lvq k = 4 ∨ lvq k = 5 ∨ k = 213
    · rw [if_pos q] at hw
      rw [if_neg (by decide), if_neg (by decide), if_neg (by decide), as0, xhb_s, decide_eq_true q, if_neg (show ¬ b01 true = 0 by decide), ← hw]
      show xhb (f_Book_node P (rB P N h j v) 7 (nI x) (nI y) (nI ko) (nI 1)) _ = _
      rw [(nNx E hm 7 (nI x) (nI y) (nI ko) (w := 1) (by omega) j v).1]; rfl
    · rw [if_neg q] at hw
      rw [if_neg (by decide), if_neg (by decide), if_neg (by decide), as0, xhb_s, decide_eq_false q, if_pos (show b01 false = 0 from rfl), xvi_n (by omega) (by decide), cln (by omega), ex', cond_true, ← hw]
      show xhb (f_Book_node P (rB P N h j v) 7 (nI x) (nI y) (nI ko) (nI wx)) _ = _
      rw [(nNx E hm 7 (nI x) (nI y) (nI ko) (w := wx) (by omega) j v).1]; rfl
  have hw2 : 0 < w ∧ w ≤ 64 := by
    rw [← hw]
    split <;> omega
  refine ⟨?_, (nNx E hm 7 (nI x) (nI y) (nI ko) (w := w) (by omega) j v).2, hw2⟩
  unfold f_Book_two
  rw [xvi_n (by omega) (by decide), xvi_n (by omega) (by decide), cln (by omega), cln (by omega), ex', ey']
  simp only [cond_true]
  rw [if_neg (fun z => absurd ((nle_0 (by omega)).mp z) (by omega)), if_neg (fun z => absurd ((nle_0 (by omega)).mp z) (by omega))]
  unfold f_Book_two_24
  rw [if_neg (by decide), sh, xhb_s]
  by_cases c3 : k = 131 ∨ k = 132 ∨ k = 216
  · rw [decide_eq_true c3, if_neg (show ¬ b01 true = 0 by decide)]
    exact e54
  · rw [decide_eq_false c3, if_pos (show b01 false = 0 from rfl), xvi_n (by omega) (by decide), xvi_n (by omega) (by decide), cln (by omega), cln (by omega), ex', ey']
    simp only [cond_true]
    rw [if_pos (show nI wx = nI wy by rw [show wx = wy by omega])]
    exact e54
theorem chosen_G {P N : Nat} {T : Nat → Nat} {lk : List Nat → Nat × Nat} {d m : Nat} {h : mv_H} (E : ESq P N T lk true d h m) (hm : m < 33000) (a : Int32) {x y z wy : Nat} (hx : x < m) (hy : y < m) (hz : z < m) (ex : mv_a h (P + 23) x = nI 1) (ey : mv_a h (P + 23) y = nI wy) (ez : mv_a h (P + 23) z = nI wy) (ky : wy ≤ 64) (by' : 0 < wy) (j : Nat) (v : Int64) : f_Book_chosen P (rB P N h j v) a (nI x) (nI y) (nI z) = some (nI m, rB P N (ndH P m 9 (nI x) (nI y) (nI z) wy h) j v) := by
  have ex' : mv_a (rB P N h j v) (P + 23) x = nI 1 := ex
  have ey' : mv_a (rB P N h j v) (P + 23) y = nI wy := ey
  have ez' : mv_a (rB P N h j v) (P + 23) z = nI wy := ez
  have n1 : ¬ nI 1 ≤ 0 := by decide
  have ny : ¬ nI wy ≤ 0 := fun q => absurd ((nle_0 (by omega)).mp q) (by omega)
  unfold f_Book_chosen
  rw [xvi_n (by omega) (by decide), xvi_n (by omega) (by decide), xvi_n (by omega) (by decide), cln (by omega), cln (by omega), cln (by omega), ex', ey', ez']
  simp only [cond_true]
  rw [if_neg n1, if_neg ny, if_neg ny]
  unfold f_Book_chosen_33
  rw [if_neg (by decide), xvi_n (by omega) (by decide), xvi_n (by omega) (by decide), xvi_n (by omega) (by decide), cln (by omega), cln (by omega), cln (by omega), ex', ey', ez']
  simp only [cond_true]
  rw [if_pos (show nI 1 = 1 from rfl), if_pos trivial]
  unfold f_Book_chosen_71 f_Book_chosen_89 f_Book_chosen_111
  rw [if_neg (by decide), if_neg (by decide), if_neg (by decide), xvi_n (by omega) (by decide), cln (by omega), ey', cond_true]
  show xhb (f_Book_node P (rB P N h j v) 9 (nI x) (nI y) (nI z) (nI wy)) _ = _
  rw [(nNx E hm 9 (nI x) (nI y) (nI z) (w := wy) (by omega) j v).1]; rfl
/-! EXPR, binary -/
theorem ND.wd {P Tn lo : Nat} {h : mv_H} {C LW : List Nat} {n r x w : Nat} {D : DnE} (N : ND P h Tn lo C LW n r x w D) : mv_a h (P + 23) x = nI w ∧ 0 < w ∧ w ≤ 64 ∧ 0 < r ∧ lo ≤ x := by
  cases n with
  | zero => exact N.elim
  | succ n => exact ⟨N.1.1, N.1.2.1, N.1.2.2.1, N.1.2.2.2.2⟩
section EXG
variable {P N : Nat} {T : Nat → Nat} {lk : List Nat → Nat × Nat} {lz : LZ} {C LW : List Nat} {Tn nn : Nat}
theorem ex_G (IH : IHg P N T lk C LW Tn lz nn) {d m j : Nat} {h : mv_H} (E : ESq P N T lk true d h m) (Z : ZQ P N T lz C LW Tn h) (G : gkT T N j) (hmj : m ≤ j) (F : Fq (nn + 1) 0 0 d) (v : Int64) {r : VD} (ht : tEx (txT T N) (tR (txT T N) lk lz C nn) d j = some r) : XGq P N T lk C LW Tn (rho 0 0 d) d j m h r (f_Book_expression P (f_BookR P nn) (rB P N h j v)) := by
  have hP := E.hb.p
  unfold tEx at ht
  obtain ⟨⟨j1, w1, D1⟩, t1, ht⟩ := obn ht
  unfold Fq rkq at F
  rw [if_pos rfl] at F
  obtain ⟨x1, h1, v1, m1, e1, R1, B1, N1, O1⟩ := IH 1 0 0 d j h m v _ (by unfold Fq rkq; rw [if_neg (by omega), if_pos rfl]; omega) E Z G hmj (preg1 (by omega)) t1
  have e1 : f_BookR P nn 1 0 (rB P N h j v) = some (some (nI x1), rB P N h1 j1 v1) := e1
  have R1 : XRq P N T lk true d j j1 m m1 h h1 x1 w1 := R1
  have N1 : ND P h1 Tn m C LW (x1 + 1) (rho 1 0 d) x1 w1 D1 := N1
  have H1 := R1.es.hb
  have hch : (tok T N j1).1 = (63 : Int32) ↔ kdT T N j1 = 63 := H1.ch (c := 63) R1.gk (by omega) (by omega)
  have rh : rho 1 0 d + 1 = rho 0 0 d := by
    unfold rho
    rw [if_neg (by omega), if_pos rfl, if_pos rfl]
    omega
  unfold f_Book_expression
  rw [e1, xtb_s, H1.k4]
  by_cases c : kdT T N j1 = 63
  rotate_left
  · rw [if_neg (show ¬ (txT T N).kd ((j1, w1, D1) : VD).1 = 63 from c)] at ht
    obtain rfl := Option.some.inj ht
    rw [if_neg (fun w => c (hch.mp w))]
    exact ⟨x1, h1, v1, m1, rfl, R1, B1, N1.rk (by omega), O1⟩
  rw [if_pos (show (txT T N).kd ((j1, w1, D1) : VD).1 = 63 from c)] at ht
  rw [if_pos (hch.mpr c)]
  obtain ⟨u2, g2, ht⟩ := obn ht
  obtain ⟨⟨j3, w3, D3⟩, t3, ht⟩ := obn ht
  obtain ⟨u4, g4, ht⟩ := obn ht
  obtain ⟨⟨j5, w5, D5⟩, t5, ht⟩ := obn ht
  have cw : w1 = 1 ∧ w3 = w5 := by
    by_cases q : w1 = 1 ∧ w3 = w5
    · exact q
    · rw [if_neg (show ¬ (((j1, w1, D1) : VD).2.1 = 1 ∧ ((j3, w3, D3) : VD).2.1 = ((j5, w5, D5) : VD).2.1) from q)] at ht; cases ht
  rw [if_pos (show (((j1, w1, D1) : VD).2.1 = 1 ∧ ((j3, w3, D3) : VD).2.1 = ((j5, w5, D5) : VD).2.1) from cw)] at ht
  obtain rfl := Option.some.inj ht
  obtain ⟨hd, G2, v2, e2⟩ := psG H1 R1.gk (by omega) (by omega) v1 g2
  rw [e2, xtb_s, dUp H1 hd, xk_s]
  have E2 := R1.es.dep (d2 := d + 1) (by omega)
  have F2 : Fq nn 0 0 (d + 1) := by unfold Fq rkq; rw [if_pos rfl]; omega
  have hc1 := R1.cnt
  have hj1 := R1.jj
  have Z1 := (Z.fr R1.fr hP).dep (nI (d + 1))
  obtain ⟨x3, h3, v3, m3, e3, R3, B3, N3, O3⟩ := IH 0 0 0 (d + 1) (j1 + 1) _ m1 v2 _ F2 E2 Z1 G2 (by omega) (preg0 (Or.inl rfl)) t3
  have e3 : f_BookR P nn 0 0 (rB P N (mv_si h1 P 8 (nI (d + 1))) (j1 + 1) v2) = some (some (nI x3), rB P N h3 j3 v3) := e3
  have R3 : XRq P N T lk true (d + 1) (j1 + 1) j3 m1 m3 (mv_si h1 P 8 (nI (d + 1))) h3 x3 w3 := R3
  obtain ⟨k4, -, G4, v4, e4⟩ := nG R3.es.hb R3.gk (c := 58) (k := 58) (by omega) (R3.es.hb.ch (c := 58) R3.gk (by omega) (by omega)) v3 g4
  rw [e3, xtb_s, e4, xtb_s]
  have hc3 := R3.cnt
  have hj3 := R3.jj
  obtain ⟨x5, h5, v5, m5, e5, R5, B5, N5, O5⟩ := IH 0 0 0 (d + 1) (j3 + 1) h3 m3 v4 _ F2 R3.es (Z1.fr R3.fr hP) G4 (by omega) (preg0 (Or.inl rfl)) t5
  have e5 : f_BookR P nn 0 0 (rB P N h3 (j3 + 1) v4) = some (some (nI x5), rB P N h5 j5 v5) := e5
  have R5 : XRq P N T lk true (d + 1) (j3 + 1) j5 m3 m5 h3 h5 x5 w5 := R5
  rw [e5, xtb_s, dDn R5.es.hb, xk_s]
  have hc5 := R5.cnt
  have hj5 := R5.jj
  have E6 := R5.es.dep (d2 := d) (by omega)
  have R35 := R3.tr R5 (by omega)
  have X6 := R35.fr.dep H1.dp
  have h5m : m5 < 33000 := by have := gk_le R5.es R5.gk; omega
  have m13 := R3.mm
  have m35 := R5.mm
  have xm1 := R1.xm
  have xm3 := R3.xm
  have xm5 := R5.xm
  have B35 : NB P m1 h1 (mv_si h5 P 8 (nI d)) := B3.trans B5 (by omega)
  have N1' : ND P (mv_si h5 P 8 (nI d)) Tn m C LW (x1 + 1) (rho 1 0 d) x1 w1 D1 := N1.fr (B35.nf X6) (by omega)
  have N3' : ND P (mv_si h5 P 8 (nI d)) Tn m1 C LW (x3 + 1) (rho 0 0 (d + 1)) x3 w3 D3 := ND.sd (N3.fr (B5.nf R5.fr) (by omega)) P 8 (nI d)
  have N5' : ND P (mv_si h5 P 8 (nI d)) Tn m3 C LW (x5 + 1) (rho 0 0 (d + 1)) x5 w5 D5 := ND.sd N5 P 8 (nI d)
  have hw3 := N3'.wd
  rw [cw.1] at N1'
  rw [← cw.2] at N5'
  have rh2 : rho 0 0 (d + 1) ≤ rho 0 0 d - 1 := by
    unfold rho
    rw [if_pos rfl, if_pos rfl]
    omega
  rw [chosen_G E6 h5m (mv_i (rB P N h1 j1 v1) P 5) (show x1 < m5 by omega) (show x3 < m5 by omega) xm5 N1'.wd.1 hw3.1 N5'.wd.1 hw3.2.2.1 hw3.2.1 j5 v5, xhb_s]
  have E7 := (nNx E6 h5m 9 (nI x1) (nI x3) (nI x5) (w := w3) (by omega) j5 v5).2
  refine ⟨m5, _, v5, m5 + 1, rfl, R1.nd X6 E7 ndH_X (by omega) R5.gk (by show j1 ≤ j5; omega) (by show m5 + 1 + j1 ≤ m1 + j5; omega) ndH_23 (by show w3 ≤ 40000; omega) (fun _ => hw3.2.1), (B1.trans B35 R1.mm).trans ndH_B (by have := R1.mm; omega), ⟨⟨ndH_23, hw3.2.1, hw3.2.2.1, h5m, by rw [← rh]; omega, by have := R1.mm; omega⟩, Or.inr (Or.inr (Or.inr (Or.inr (Or.inr (Or.inr (Or.inr (Or.inr (Or.inl ⟨x1, x3, x5, D1, D3, D5, ndH_18, ndH_19, ndH_20, ndH_21, by omega, by omega, xm5, ((N1'.rk (by omega)).le (by omega)).nd (by omega), (((N3'.lo R1.mm).rk rh2).le (by omega)).nd (by omega), (((N5'.lo (by have := R1.mm; omega)).rk rh2).le (by omega)).nd (by omega), rfl⟩))))))))⟩, ndH_22⟩
theorem bl_G (IH : IHg P N T lk C LW Tn lz nn) {d a : Nat} (ha : a < 8) (F : Fq nn 1 (a + 1) d) {j0 m0 : Nat} {h0 : mv_H} (hP : 74 ≤ P) (hm0 : m0 ≤ j0) (Z : ZQ P N T lz C LW Tn h0) : ∀ (k kk j w x m : Nat) (D : DnE) (h : mv_H) (v : Int64) (r : VD), XRq P N T lk true d j0 j m0 m h0 h x w → NB P m0 h0 h → ND P h Tn m0 C LW (x + 1) (rho 1 a d) x w D → mv_a h (P + 22) x = -1 → 32768 - j < kk → tBL (txT T N) (tR (txT T N) lk lz C nn) a d k j w D = some r →
    XGq P N T lk C LW Tn (rho 1 a d) d j0 m0 h0 r (f_Book_binary_19 P (f_BookR P nn) kk (nI a) (nI x) (rB P N h j v)) := by
  intro k
  induction k with
  | zero => intro kk j w x m D h v r _ _ _ _ _ ht; cases ht
  | succ k ih =>
    intro kk j w x m D h v r R B N0 O0 h2 ht
    obtain ⟨kk, rfl⟩ : ∃ q, kk = q + 1 := ⟨kk - 1, by omega⟩
    show XGq P N T lk C LW Tn (rho 1 a d) d j0 m0 h0 r (fF_Book_binary_19 P (f_BookR P nn) (f_Book_binary_19 P (f_BookR P nn) kk) (nI a) (nI x) (rB P N h j v))
    have H := R.es.hb
    obtain ⟨u, eu, hu, ho⟩ := lv_S H.lt R.gk.1 (rB P N h j v)
    have ht : (if lvq (kdT T N j) = a + 1 then (gd (ps (txT T N) d j)).bind fun _ => (tR (txT T N) lk lz C nn 1 (a + 1) d (j + 1)).bind fun y => (tw (kdT T N j) w y.2.1).bind fun z => tBL (txT T N) (tR (txT T N) lk lz C nn) a d k y.1 z (d2 (kdT T N j) (nJ w) D y.2.2) else some (j, w, D)) = some r := ht
    unfold fF_Book_binary_19
    rw [H.k4, eu, xhb_s]
    by_cases c : lvq (kdT T N j) = a + 1
    rotate_left
    · rw [if_neg c] at ht
      obtain rfl := Option.some.inj ht
      rw [if_neg (fun q => c ((hu a (by omega)).mp q))]
      exact ⟨x, h, v, m, rfl, R, B, N0, O0⟩
    rw [if_pos c] at ht
    rw [if_pos ((hu a (by omega)).mpr c)]
    obtain ⟨u2, g2, ht⟩ := obn ht
    obtain ⟨⟨j3, w3, D3⟩, t3, ht⟩ := obn ht
    obtain ⟨w4, t4, ht⟩ := obn ht
    have t4 : tw (kdT T N j) w w3 = some w4 := t4
    have ht : tBL (txT T N) (tR (txT T N) lk lz C nn) a d k j3 w4 (d2 (kdT T N j) (nJ w) D D3) = some r := ht
    obtain ⟨ko, eko, hko⟩ := ho (by omega)
    have hk1 : ¬ kdT T N j = 1 := fun e => by rw [e] at c; exact absurd c (by show ¬ 0 = a + 1; omega)
    have hk2 : ¬ kdT T N j = 2 := fun e => by rw [e] at c; exact absurd c (by show ¬ 0 = a + 1; omega)
    obtain ⟨hd, G2, v2, e2⟩ := psG H R.gk hk1 hk2 v g2
    have hc := R.cnt
    have hj := R.jj
    have hmm := R.mm
    obtain ⟨x3, h3, v3, m3, e3, R3, B3, N3, O3⟩ := IH 1 (a + 1) (nI (a + 1)) d (j + 1) h m v2 _ F R.es (Z.fr R.fr hP) G2 (by omega) (preg1 (by omega)) t3
    have e3 : f_BookR P nn 1 (nI (a + 1)) (rB P N h (j + 1) v2) = some (some (nI x3), rB P N h3 j3 v3) := e3
    have R3 : XRq P N T lk true d (j + 1) j3 m m3 h h3 x3 w3 := R3
    have N3 : ND P h3 Tn m C LW (x3 + 1) (rho 1 (a + 1) d) x3 w3 D3 := N3
    rw [e2, xtb_s, nI1 (by omega), e3, xtb_s]
    have hc3 := R3.cnt
    have hj3 := R3.jj
    have hm3 := R3.mm
    have hjb := gk_le R3.es R3.gk
    have h3m : m3 < 33000 := by omega
    have xm := R.xm
    have N0' : ND P h3 Tn m0 C LW (x + 1) (rho 1 a d) x w D := N0.fr (B3.nf R3.fr) (by omega)
    have w0 := N0'.wd
    have w3' := N3.wd
    obtain ⟨e4, E4, hw4, hw5⟩ := two_G R3.es h3m hko (mv_i (rB P N h j v) P 5) (show x < m3 by omega) R3.xm w0.1 w3'.1 w0.2.2.1 w3'.2.2.1 w0.2.1 w3'.2.1 t4 j3 v3
    rw [H.k4, eko, e4, xhb_s]
    have R4 : XRq P N T lk true d j0 j3 m0 (m3 + 1) h0 (ndH P m3 7 (nI x) (nI x3) (nI ko) w4 h3) m3 w4 := R.nd R3.fr E4 ndH_X hm3 R3.gk (by omega) (by omega) ndH_23 (by omega) (fun _ => hw4)
    have rh : rho 1 (a + 1) d ≤ rho 1 a d - 1 := by
      unfold rho
      rw [if_neg (by omega), if_pos rfl, if_neg (by omega), if_pos rfl]
      omega
    have x3m := R3.xm
    refine ih kk j3 w4 m3 (m3 + 1) (d2 (kdT T N j) (nJ w) D D3) _ v3 r R4 ((B.trans B3 hmm).trans ndH_B (by omega)) ⟨⟨ndH_23, hw4, hw5, h3m, w0.2.2.2.1, by omega⟩, Or.inr (Or.inr (Or.inr (Or.inr (Or.inr (Or.inr (Or.inl ⟨x, x3, w, w3, D, D3, ko, kdT T N j, ndH_18, ndH_19, ndH_20, ndH_21, hko, by omega, x3m, (N0'.le (by omega)).nd (by omega), (((N3.lo hmm).rk rh).le (by omega)).nd x3m, t4, rfl⟩))))))⟩ ndH_22 (by omega) ht
theorem bi_G (IH : IHg P N T lk C LW Tn lz nn) {d m j : Nat} {h : mv_H} (E : ESq P N T lk true d h m) (Z : ZQ P N T lz C LW Tn h) (G : gkT T N j) (hmj : m ≤ j) {a : Nat} (ha : a ≤ 8) (F : Fq (nn + 1) 1 a d) (v : Int64) {r : VD} (ht : tBi (txT T N) (tR (txT T N) lk lz C nn) a d j = some r) : XGq P N T lk C LW Tn (rho 1 a d) d j m h r (f_Book_binary P (f_BookR P nn) (rB P N h j v) (nI a)) := by
  unfold tBi at ht
  unfold f_Book_binary
  unfold Fq rkq at F
  rw [if_neg (by omega), if_pos rfl] at F
  by_cases c : a = 8
  · rw [if_pos c] at ht
    rw [if_pos (show nI a = 8 by rw [c]; rfl)]
    obtain ⟨x1, h1, v1, m1, e1, R1, B1, N1, O1⟩ := IH 2 0 0 d j h m v _ (by unfold Fq rkq; rw [if_neg (by omega), if_neg (by omega), if_pos rfl]; omega) E Z G hmj (preg0 (Or.inr (Or.inl rfl))) ht
    rw [e1, xtb_s]
    have rh : rho 2 0 d ≤ rho 1 a d := by
      unfold rho
      rw [if_neg (by omega), if_neg (by omega), if_neg (by omega), if_pos rfl]
      omega
    exact ⟨x1, h1, v1, m1, rfl, R1, B1, N1.rk rh, O1⟩
  · rw [if_neg c] at ht
    obtain ⟨⟨j1, w1, D1⟩, t1, ht⟩ := obn ht
    rw [if_neg (show ¬ nI a = 8 from fun w => c ((nIinj (b := 8) (by omega) (by omega)).mp w)), nI1 (by omega)]
    have F1 : Fq nn 1 (a + 1) d := by unfold Fq rkq; rw [if_neg (by omega), if_pos rfl]; omega
    obtain ⟨x1, h1, v1, m1, e1, R1, B1, N1, O1⟩ := IH 1 (a + 1) (nI (a + 1)) d j h m v _ F1 E Z G hmj (preg1 (by omega)) t1
    rw [e1, xtb_s]
    have rh : rho 1 (a + 1) d ≤ rho 1 a d := by
      unfold rho
      rw [if_neg (by omega), if_pos rfl, if_neg (by omega), if_pos rfl]
      omega
    exact bl_G IH (by omega) F1 E.hb.p hmj Z 200000 200000 j1 w1 x1 m1 D1 h1 v1 r R1 B1 (N1.rk rh) O1 (by omega) ht
end EXG
