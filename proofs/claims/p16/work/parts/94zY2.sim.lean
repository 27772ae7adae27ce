/-! the reference at work: simple -/
theorem sim_V {P T : Nat} {C LW : List Nat} {e : E0q} {l : Nat → Int64} {r : Nat → Nat → Int64} {kR : Nat → Int32 → mv_H → Option (Int64 × mv_H)} {n rr x w s : Nat} {D : DnE} {h : mv_H} (K : KOk P T C LW e l r kR (rr - 1)) (KR : KRw P T C LW e l r kR (rr - 1)) (N : ND P h T 0 C LW n rr x w D) (n7 : ¬ mv_a h (P + 18) x = 7) (n8 : ¬ mv_a h (P + 18) x = 8) (E : ENq P T C LW e l r h) (hs : mv_i h P 62 = nI s) (hx : s + x < 33000) : EvO P s w (D e l r) h (mv_i h P 53) (f_Book_simple P kR h (nI x)) := by
  have FT := N.ft E.2
  cases n with
  | zero => exact N.elim
  | succ n =>
  obtain ⟨⟨w1, w2, w3, w4, w5⟩, N⟩ := N
  have hv : xvi (nI x) 33000 = true := xvi_n w4 (by decide)
  have hc : (nI x).toNatClampNeg = x := cln (by omega)
  have u0 : ∀ k : Int32, mv_a h (P + 18) x = k → f_Book_simple P kR h (nI x) = if (k).toInt = 1 then (some ((mv_b h (P + 24) x), h)) else (if (k).toInt = 2 then (xhb (f_Book_read_0 P h (mv_a h (P + 19) x) (0 : Int32)) fun u8 g7 => some (u8, g7)) else (if (k).toInt = 3 then (xhb (kR 0 (mv_a h (P + 20) x) h) fun u12 g11 => xhb (f_Book_cell P g11 (mv_a h (P + 19) x) u12) fun u14 g13 => some (u14, g13)) else (if (k).toInt = 4 then (xhb (f_Book_field P h (mv_i h P 63) (mv_a h (P + 19) x) (mv_l h P 52)) fun u17 g16 => some (u17, g16)) else (if (k).toInt = 5 then (bif xvi (mv_a h (P + 19) x) 4100 then some ((mv_b h (P + 26) ((mv_a h (P + 19) x)).toNatClampNeg), h) else none) else (if (k).toInt = 6 then (xhb (kR 0 (mv_a h (P + 19) x) h) fun u23 g22 => xhb (f_Book_unaryValue g22 (mv_a h (P + 20) x) u23 (mv_a g22 (P + 23) x)) fun u26 g25 => some (u26, g25)) else (if (k).toInt = 7 then (f_Book_simple_245 P kR (nI x) h) else (if (k).toInt = 8 then (f_Book_simple_245 P kR (nI x) h) else (if (k).toInt = 9 then (xhb (kR 0 (mv_a h (P + 19) x) h) fun u29 g28 => if (lg_cmp u29 (0 : Int64)) = (0 : Int32) then (xhb (kR 0 (mv_a g28 (P + 21) x) g28) fun u32 g31 => some (u32, g31)) else (xhb (kR 0 (mv_a g28 (P + 20) x) g28) fun u35 g34 => some (u35, g34))) else (if (k).toInt = 10 then (xhb (kR 2 (mv_a h (P + 19) x) h) fun u38 g37 => some (u38, g37)) else (if (k).toInt = 11 then (xhb (kR 0 (mv_a h (P + 19) x) h) fun u41 g40 => bif xvi (mv_a g40 (P + 19) x) 33000 then xhb (f_Book_signed g40 u41 (mv_a g40 (P + 23) ((mv_a g40 (P + 19) x)).toNatClampNeg)) fun u45 g44 => xhb (f_Book_cut g44 u45 (mv_a g44 (P + 23) x)) fun u48 g47 => some (u48, g47) else none) else (f_Book_simple_245 P kR (nI x) h))))))))))) := fun k hk => by
    unfold f_Book_simple
    simp only [hv, hc, cond_true, hk]
  rcases N with N | N | N | N | N | N | N | N | N | N | N | N
  · obtain ⟨a1, a2, rfl⟩ := N
    rw [u0 _ a1, if_pos (by decide)]
    exact ⟨_, h, rfl, EFr.refl _ _ _, a2, TrO.val _ _⟩
  · obtain ⟨t, a1, a2, a3, b3, rfl, a5, a6⟩ := N
    obtain ⟨-, -, ⟨k, k1, k2⟩, ⟨t1, t2⟩, rd, -⟩ := E.1
    have e0 := rd_V (i := 0) k1 k2 a3 (by omega) (fun q => absurd a6 q)
    rw [u0 _ a1, if_neg (by decide), if_pos (by decide), a2, show (0 : Int32) = nI 0 from rfl, e0, xhb_s, rd t 0 b3 (ncl_p e t)]
    exact ⟨_, h, rfl, EFr.refl _ _ _, FT _ rfl, TrO.val _ _⟩
  · obtain ⟨t, y, wy, Dy, a1, a2, a3, b3, a4, a5, a6, rfl, a8, a9⟩ := N
    obtain ⟨v, g, e1, f1, g1, t1⟩ := K n y wy Dy h s a6 E hs (by omega)
    have hc2 : ¬ (e.2 t).2.1 = 0 := fun q => a9 ((E.1.2.2.2.1.2 t b3).2.2.1.mpr q)
    obtain ⟨g2, e2, f2, t2⟩ := cel_V (E.1.fr f1.w) b3 hc2 v
    rw [u0 _ a1, if_neg (by decide), if_neg (by decide), if_pos (by decide), a4, e1, xhb_s, a2, e2, xhb_s]
    refine ⟨_, g2, rfl, f1.trans (f2 s), ?_, t1.bnd t2⟩
    by_cases q : v.toBitVec.toNat < (e.2 t).2.1
    · rw [if_pos q]
      exact E.2.1 t _ w b3 (ncl_c q) a8 w3
    · rw [if_neg q]
      exact Nat.two_pow_pos w
  · obtain ⟨c, a1, a2, a3, rfl, a5⟩ := N
    obtain ⟨ew, -, -, -, -, ⟨c1, c2, o, cb, c3, c4, c5, c6, c7⟩⟩ := E.1
    have e0 := fd_V c1 c3 c2 c5 c6 (fun k hk => c7 c k a3 hk) e.1
    rw [u0 _ a1, if_neg (by decide), if_neg (by decide), if_neg (by decide), if_pos (by decide), a2, c4, ew, e0, xhb_s]
    exact ⟨_, h, rfl, EFr.refl _ _ _, FT _ rfl, TrO.val _ _⟩
  · obtain ⟨i, a1, a2, a3, a4, rfl⟩ := N
    rw [u0 _ a1, if_neg (by decide), if_neg (by decide), if_neg (by decide), if_neg (by decide), if_pos (by decide), a2, xvi_n (show i < 4100 by omega) (by decide), cond_true, cln (by omega), E.1.2.1 i a3]
    exact ⟨_, h, rfl, EFr.refl _ _ _, FT _ rfl, TrO.val _ _⟩
  · obtain ⟨y, Dy, k, a1, a2, a3, a4, a5, a6, rfl⟩ := N
    obtain ⟨v, g, e1, f1, g1, t1⟩ := K n y w Dy h s a6 E hs (by omega)
    have ew : mv_a g (P + 23) x = nI w := by rw [f1.2.2.2.2 (P + 23) x (by omega)]; exact w1
    have eu : f_Book_unaryValue g (nI k) v (nI w) = some (u1 (sgK k) (mkI (nI w)) v, g) := by
      unfold f_Book_unaryValue
      rcases a5 with rfl | rfl | rfl
      · rw [if_pos (by decide), cutW g _ w3, xhb_s]; rfl
      · rw [if_neg (by decide), cutW g _ w3, xhb_s]; rfl
      · rw [if_neg (by decide), cutW g _ w3, xhb_s]; rfl
    rw [u0 _ a1, if_neg (by decide), if_neg (by decide), if_neg (by decide), if_neg (by decide), if_neg (by decide), if_pos (by decide), a2, e1, xhb_s, ew, a4, eu, xhb_s]
    refine ⟨_, g, rfl, f1, ?_, t1.one _⟩
    refine u1_ft w3 v ?_
    unfold sgK
    split
    · omega
    · split <;> omega
  · obtain ⟨y, z, wy, wz, Dy, Dz, ko, k, a1, -⟩ := N
    exact absurd a1 n7
  · obtain ⟨y, wy, Dy, hi, lo, a1, -⟩ := N
    exact absurd a1 n8
  · obtain ⟨y, z, u, Dy, Dz, Du, a1, a2, a3, a4, a5, a6, a7, a8, a9, a10, rfl⟩ := N
    obtain ⟨v, g, e1, f1, g1, t1⟩ := K n y 1 Dy h s a8 E hs (by omega)
    have hs2 : mv_i g P 62 = nI s := by rw [f1.2.2.2.1 P 62 (by omega)]; exact hs
    have E2 := E.fr f1.w
    rw [u0 _ a1, if_neg (by decide), if_neg (by decide), if_neg (by decide), if_neg (by decide), if_neg (by decide), if_neg (by decide), if_neg (by decide), if_neg (by decide), if_pos (by decide), a2, e1, xhb_s, f1.2.2.2.2 (P + 21) x (by omega), f1.2.2.2.2 (P + 20) x (by omega), a3, a4]
    by_cases q : v = 0
    · obtain ⟨v2, g2, e2, f2, g3, t2⟩ := K n u w Du g s (a10.fr (f1.w.nf (m := x)) a7) E2 hs2 (by omega)
      rw [if_pos ((lg_cmp_eq _ _).mpr q), e2, xhb_s]
      refine ⟨v2, g2, rfl, f1.trans f2, g3, t1.bnd (f := fun c => if c = 0 then Du e l r else Dz e l r) ?_⟩
      show TrO _ _ (if v = 0 then Du e l r else Dz e l r) _
      rw [if_pos q]; exact t2
    · obtain ⟨v2, g2, e2, f2, g3, t2⟩ := K n z w Dz g s (a9.fr (f1.w.nf (m := x)) a6) E2 hs2 (by omega)
      rw [if_neg (fun y => q ((lg_cmp_eq _ _).mp y)), e2, xhb_s]
      refine ⟨v2, g2, rfl, f1.trans f2, g3, t1.bnd (f := fun c => if c = 0 then Du e l r else Dz e l r) ?_⟩
      show TrO _ _ (if v = 0 then Du e l r else Dz e l r) _
      rw [if_neg q]; exact t2
  · obtain ⟨p, L, a1, a2, a3, a4, a5⟩ := N
    obtain ⟨v, g, e1, f1, g1, t1⟩ := KR n p L w D h s a3 (fun q hq => ⟨by have := (a4 q hq).1; omega, (a4 q hq).2⟩) a5 w3 E hs
    rw [u0 _ a1, if_neg (by decide), if_neg (by decide), if_neg (by decide), if_neg (by decide), if_neg (by decide), if_neg (by decide), if_neg (by decide), if_neg (by decide), if_neg (by decide), if_pos (by decide), a2, e1, xhb_s]
    exact ⟨v, g, rfl, f1, g1, t1⟩
  · obtain ⟨y, wy, Dy, a1, a2, a3, a4, a5, rfl⟩ := N
    obtain ⟨v, g, e1, f1, g1, t1⟩ := K n y wy Dy h s a5 E hs (by omega)
    have hwy : mv_a g (P + 23) y = nI wy := by
      rw [f1.2.2.2.2 (P + 23) y (by omega)]
      cases n with
      | zero => exact a5.elim
      | succ n => exact a5.1.1
    have ea : mv_a g (P + 19) x = nI y := by rw [f1.2.2.2.2 (P + 19) x (by omega)]; exact a2
    have ew : mv_a g (P + 23) x = nI w := by rw [f1.2.2.2.2 (P + 23) x (by omega)]; exact w1
    have eu : u1 310 (wPk wy w) v = ((v <<< ((((64 : Int32) - nI wy)).toInt64 &&& 63)) >>> ((((64 : Int32) - nI wy)).toInt64 &&& 63)) &&& mkI (nI w) := by
      unfold u1
      rw [if_neg (by decide), if_neg (by decide), if_pos rfl, wPk8 (by omega) w3, wPkl (by omega) w3]
    rw [u0 _ a1, if_neg (by decide), if_neg (by decide), if_neg (by decide), if_neg (by decide), if_neg (by decide), if_neg (by decide), if_neg (by decide), if_neg (by decide), if_neg (by decide), if_neg (by decide), if_pos (by decide), a2, e1, xhb_s, ea, xvi_n (show y < 33000 by omega) (by decide), cond_true, cln (by omega), hwy]
    unfold f_Book_signed
    rw [xhb_s, ew, cutW g _ w3, xhb_s, ← eu]
    exact ⟨_, g, rfl, f1, u310_ft (by omega) w3 v, t1.one _⟩
  · obtain ⟨y, wy, a1, a2, a3, a4, a5⟩ := N
    obtain ⟨v, g, e1, f1, g1, t1⟩ := K n y wy D h s a5 E hs (by omega)
    rw [u0 _ a1, if_neg (by decide), if_neg (by decide), if_neg (by decide), if_neg (by decide), if_neg (by decide), if_neg (by decide), if_neg (by decide), if_neg (by decide), if_neg (by decide), if_neg (by decide), if_neg (by decide)]
    unfold f_Book_simple_245
    rw [hv, cond_true, hc, a2, e1, xhb_s]
    exact ⟨v, g, rfl, f1, g1.le a4, t1⟩
/-! a row -/
def nxR : List (Nat × Nat × DnE) → Int32
  | [] => -1
  | p :: _ => nI p.1
theorem RowOK.nx {P : Nat} {h : mv_H} {p : Nat × Nat × DnE} {L : List (Nat × Nat × DnE)} (R : RowOK P h (p :: L)) : mv_a h (P + 22) p.1 = nxR L ∧ (L = [] ∨ RowOK P h L) := by
  cases L with
  | nil => exact ⟨R, Or.inl rfl⟩
  | cons q M => exact ⟨R.1, Or.inr R.2⟩
theorem nI_n0 {p : Nat} (h : p < 2147483648) : ¬ nI p < 0 := fun q => by
  have := Int32.lt_iff_toInt_lt.mp q
  rw [nIi h] at this
  have : (p : Int) < 0 := this
  omega
theorem jn_le : ∀ (M : List (Nat × Nat × DnE)) (a : Nat) (A : DnE), a ≤ (joinL M a A).1 := by
  intro M
  induction M with
  | nil => intro a A; exact Nat.le_refl _
  | cons m M ihM => intro a A; exact Nat.le_trans (Nat.le_add_right a m.2.1) (ihM _ _)
theorem u309_e (a u : Int64) {w : Nat} (hw : w ≤ 64) : u2 309 (nJ w) a u = (a <<< ((nI w).toInt64 &&& 63)) ||| u := by
  unfold u2
  rw [if_pos rfl, nJi (by omega)]
theorem row_lp {P T : Nat} {C LW : List Nat} {e : E0q} {l : Nat → Int64} {r : Nat → Nat → Int64} {kR : Nat → Int32 → mv_H → Option (Int64 × mv_H)} {n rr s : Nat} (K : KOk P T C LW e l r kR rr) (t0 : Int32) : ∀ (L : List (Nat × Nat × DnE)) (nn wa w : Nat) (Da D : DnE) (a : Int64) (h : mv_H), (L = [] ∨ RowOK P h L) → (∀ q, q ∈ L → s + q.1 < 33000 ∧ ND P h T 0 C LW n rr q.1 q.2.1 q.2.2) → joinL L wa Da = (w, D) → w ≤ 64 → 0 < wa → 66 ≤ nn + wa → ENq P T C LW e l r h → mv_i h P 62 = nI s → FTq wa a → TrO t0 (mv_i h P 53) (Da e l r) a → EvO P s w (D e l r) h t0 (f_Book_row_5 P kR nn a (nxR L) h) := by
  intro L
  induction L with
  | nil =>
    intro nn wa w Da D a h _ _ ej hw h0 hn E hs fa ta
    have ej : (wa, Da) = (w, D) := ej
    cases ej
    obtain ⟨nn, rfl⟩ : ∃ q, nn = q + 1 := ⟨nn - 1, by omega⟩
    refine ⟨a, h, ?_, EFr.refl _ _ _, fa, ta⟩
    show fF_Book_row_5 P kR (f_Book_row_5 P kR nn) a (-1) h = _
    unfold fF_Book_row_5
    rw [if_pos (by decide)]
  | cons p L ih =>
    intro nn wa w Da D a h hR hN ej hw h0 hn E hs fa ta
    have hR : RowOK P h (p :: L) := by
      rcases hR with q | q
      · cases q
      · exact q
    have ej : joinL L (wa + p.2.1) (d2 309 (nJ p.2.1) Da p.2.2) = (w, D) := ej
    have hle : wa + p.2.1 ≤ w := by
      have := jn_le L (wa + p.2.1) (d2 309 (nJ p.2.1) Da p.2.2)
      rw [ej] at this
      exact this
    obtain ⟨nn, rfl⟩ : ∃ q, nn = q + 1 := ⟨nn - 1, by omega⟩
    obtain ⟨p1, p2⟩ := hN p (List.mem_cons_self ..)
    obtain ⟨u, g, e1, f1, g1, t1⟩ := K n p.1 p.2.1 p.2.2 h s p2 E hs p1
    have hp : mv_a h (P + 23) p.1 = nI p.2.1 ∧ 0 < p.2.1 := by
      cases n with
      | zero => exact p2.elim
      | succ n => exact ⟨p2.1.1, p2.1.2.1⟩
    have ew : mv_a g (P + 23) p.1 = nI p.2.1 := by rw [f1.2.2.2.2 (P + 23) p.1 (by omega)]; exact hp.1
    have n64 : ¬ nI p.2.1 = (64 : Int32) := fun q => by
      have := (nIinj (a := p.2.1) (b := 64) (by omega) (by omega)).mp q
      omega
    have hnx := hR.nx
    have ef : mv_a g (P + 22) p.1 = nxR L := by rw [f1.2.2.2.2 (P + 22) p.1 (by omega)]; exact hnx.1
    have e2 : f_Book_row_5 P kR (nn + 1) a (nxR (p :: L)) h = f_Book_row_5 P kR nn (u2 309 (nJ p.2.1) a u) (nxR L) g := by
      show fF_Book_row_5 P kR (f_Book_row_5 P kR nn) a (nI p.1) h = _
      unfold fF_Book_row_5 f_Book_row_47
      rw [if_neg (nI_n0 (by omega)), e1, xhb_s, xvi_n (show p.1 < 33000 by omega) (by decide), cond_true, cond_true, cond_true, cln (by omega), ew, if_neg n64, ef, u309_e a u (by omega)]
      rfl
    rw [e2]
    have R2 : L = [] ∨ RowOK P g L := by
      rcases hnx.2 with q | q
      · exact Or.inl q
      · exact Or.inr (q.fr (m := 40000) f1.w.nf (fun q hq => ⟨Nat.zero_le _, by have := (hN q (List.mem_cons_of_mem _ hq)).1; omega, (hN q (List.mem_cons_of_mem _ hq)).2.xs⟩))
    obtain ⟨v, g', x1, x2, x3, x4⟩ := ih nn (wa + p.2.1) w (d2 309 (nJ p.2.1) Da p.2.2) D (u2 309 (nJ p.2.1) a u) g R2 (fun q hq => ⟨(hN q (List.mem_cons_of_mem _ hq)).1, (hN q (List.mem_cons_of_mem _ hq)).2.fr (m := 40000) f1.w.nf (by have := (hN q (List.mem_cons_of_mem _ hq)).1; omega)⟩) ej hw (by omega) (by omega) (E.fr f1.w) (by rw [f1.2.2.2.1 P 62 (by omega)]; exact hs) (u309_ft h0 (by omega) fa g1) (ta.two (u2 309 (nJ p.2.1)) t1)
    exact ⟨v, g', x1, f1.trans x2, x3, x4⟩
theorem row_V {P T : Nat} {C LW : List Nat} {e : E0q} {l : Nat → Int64} {r : Nat → Nat → Int64} {kR : Nat → Int32 → mv_H → Option (Int64 × mv_H)} {rr : Nat} (K : KOk P T C LW e l r kR rr) {n s w : Nat} {p : Nat × Nat × DnE} {L : List (Nat × Nat × DnE)} {D : DnE} {h : mv_H} (hR : RowOK P h (p :: L)) (hN : ∀ q, q ∈ p :: L → s + q.1 < 33000 ∧ ND P h T 0 C LW n rr q.1 q.2.1 q.2.2) (ej : joinL L p.2.1 p.2.2 = (w, D)) (hw : w ≤ 64) (E : ENq P T C LW e l r h) (hs : mv_i h P 62 = nI s) : EvO P s w (D e l r) h (mv_i h P 53) (f_Book_row P kR h (nI p.1)) := by
  obtain ⟨p1, p2⟩ := hN p (List.mem_cons_self ..)
  obtain ⟨u, g, e1, f1, g1, t1⟩ := K n p.1 p.2.1 p.2.2 h s p2 E hs p1
  have hp : mv_a h (P + 23) p.1 = nI p.2.1 ∧ 0 < p.2.1 ∧ p.2.1 ≤ 64 := by
    cases n with
    | zero => exact p2.elim
    | succ n => exact ⟨p2.1.1, p2.1.2.1, p2.1.2.2.1⟩
  have ew : mv_a g (P + 23) p.1 = nI p.2.1 := by rw [f1.2.2.2.2 (P + 23) p.1 (by omega)]; exact hp.1
  have hnx := hR.nx
  have ef : mv_a g (P + 22) p.1 = nxR L := by rw [f1.2.2.2.2 (P + 22) p.1 (by omega)]; exact hnx.1
  have z0 : ((0 : Int64) <<< ((nI p.2.1).toInt64 &&& 63)) ||| u = u := by
    apply Int64.toBitVec_inj.mp
    simp
  have e2 : f_Book_row P kR h (nI p.1) = f_Book_row_5 P kR 199999 u (nxR L) g := by
    show fF_Book_row_5 P kR (f_Book_row_5 P kR 199999) 0 (nI p.1) h = _
    unfold fF_Book_row_5 f_Book_row_47
    rw [if_neg (nI_n0 (by omega)), e1, xhb_s, xvi_n (show p.1 < 33000 by omega) (by decide), cond_true, cond_true, cond_true, cln (by omega), ew, ef, z0, cond_true, ite_self]
  rw [e2]
  have R2 : L = [] ∨ RowOK P g L := by
    rcases hnx.2 with q | q
    · exact Or.inl q
    · exact Or.inr (q.fr (m := 40000) f1.w.nf (fun q hq => ⟨Nat.zero_le _, by have := (hN q (List.mem_cons_of_mem _ hq)).1; omega, (hN q (List.mem_cons_of_mem _ hq)).2.xs⟩))
  obtain ⟨v, g', x1, x2, x3, x4⟩ := row_lp K (mv_i h P 53) L 199999 p.2.1 w p.2.2 D u g R2 (fun q hq => ⟨(hN q (List.mem_cons_of_mem _ hq)).1, (hN q (List.mem_cons_of_mem _ hq)).2.fr (m := 40000) f1.w.nf (by have := (hN q (List.mem_cons_of_mem _ hq)).1; omega)⟩) ej hw hp.2.1 (by omega) (E.fr f1.w) (by rw [f1.2.2.2.1 P 62 (by omega)]; exact hs) g1 t1
  exact ⟨v, g', x1, f1.trans x2, x3, x4⟩
