/-! the reference at work: the spine -/
theorem ND.s7 {P T : Nat} {h : mv_H} {C LW : List Nat} {n rr x w : Nat} {D : DnE} (N : ND P h T 0 C LW (n + 1) rr x w D) (q : mv_a h (P + 18) x = 7) : ∃ y z wy wz Dy Dz ko k, mv_a h (P + 19) x = nI y ∧ mv_a h (P + 20) x = nI z ∧ mv_a h (P + 21) x = nI ko ∧ (ko, k) ∈ OPK ∧ y < x ∧ z < x ∧ ND P h T 0 C LW n rr y wy Dy ∧ ND P h T 0 C LW n (rr - 1) z wz Dz ∧ tw k wy wz = some w ∧ D = d2 k (nJ wy) Dy Dz := by
  obtain ⟨-, N⟩ := N
  rcases N with N | N | N | N | N | N | N | N | N | N | N | N
  · obtain ⟨a1, -⟩ := N; rw [a1] at q; exact absurd q (by decide)
  · obtain ⟨t, a1, -⟩ := N; rw [a1] at q; exact absurd q (by decide)
  · obtain ⟨t, y, wy, Dy, a1, -⟩ := N; rw [a1] at q; exact absurd q (by decide)
  · obtain ⟨c, a1, -⟩ := N; rw [a1] at q; exact absurd q (by decide)
  · obtain ⟨i, a1, -⟩ := N; rw [a1] at q; exact absurd q (by decide)
  · obtain ⟨y, Dy, k, a1, -⟩ := N; rw [a1] at q; exact absurd q (by decide)
  · obtain ⟨y, z, wy, wz, Dy, Dz, ko, k, a1, a2⟩ := N; exact ⟨y, z, wy, wz, Dy, Dz, ko, k, a2⟩
  · obtain ⟨y, wy, Dy, hi, lo, a1, -⟩ := N; rw [a1] at q; exact absurd q (by decide)
  · obtain ⟨y, z, v, Dy, Dz, Dv, a1, -⟩ := N; rw [a1] at q; exact absurd q (by decide)
  · obtain ⟨p, l, a1, -⟩ := N; rw [a1] at q; exact absurd q (by decide)
  · obtain ⟨y, wy, Dy, a1, -⟩ := N; rw [a1] at q; exact absurd q (by decide)
  · obtain ⟨y, wy, a1, -⟩ := N; rw [a1] at q; exact absurd q (by decide)
theorem ND.s8 {P T : Nat} {h : mv_H} {C LW : List Nat} {n rr x w : Nat} {D : DnE} (N : ND P h T 0 C LW (n + 1) rr x w D) (q : mv_a h (P + 18) x = 8) : ∃ y wy Dy hi lo, mv_a h (P + 19) x = nI y ∧ mv_a h (P + 21) x = nI lo ∧ y < x ∧ lo ≤ hi ∧ hi < wy ∧ w = hi - lo + 1 ∧ ND P h T 0 C LW n rr y wy Dy ∧ D = d1 308 (wPk lo w) Dy := by
  obtain ⟨-, N⟩ := N
  rcases N with N | N | N | N | N | N | N | N | N | N | N | N
  · obtain ⟨a1, -⟩ := N; rw [a1] at q; exact absurd q (by decide)
  · obtain ⟨t, a1, -⟩ := N; rw [a1] at q; exact absurd q (by decide)
  · obtain ⟨t, y, wy, Dy, a1, -⟩ := N; rw [a1] at q; exact absurd q (by decide)
  · obtain ⟨c, a1, -⟩ := N; rw [a1] at q; exact absurd q (by decide)
  · obtain ⟨i, a1, -⟩ := N; rw [a1] at q; exact absurd q (by decide)
  · obtain ⟨y, Dy, k, a1, -⟩ := N; rw [a1] at q; exact absurd q (by decide)
  · obtain ⟨y, z, wy, wz, Dy, Dz, ko, k, a1, a2⟩ := N; rw [a1] at q; exact absurd q (by decide)
  · obtain ⟨y, wy, Dy, hi, lo, a1, a2⟩ := N; exact ⟨y, wy, Dy, hi, lo, a2⟩
  · obtain ⟨y, z, v, Dy, Dz, Dv, a1, -⟩ := N; rw [a1] at q; exact absurd q (by decide)
  · obtain ⟨p, l, a1, -⟩ := N; rw [a1] at q; exact absurd q (by decide)
  · obtain ⟨y, wy, Dy, a1, -⟩ := N; rw [a1] at q; exact absurd q (by decide)
  · obtain ⟨y, wy, a1, -⟩ := N; rw [a1] at q; exact absurd q (by decide)
/-- a node laid on the spine -/
def pshS (P s x : Nat) (h : mv_H) : mv_H := mv_si (mv_sa h (P + 31) s (nI x)) P 62 (nI (s + 1))
theorem psh_a {P s x : Nat} {h : mv_H} (o k : Nat) (q : ¬ (o = P + 31 ∧ k = s)) : mv_a (pshS P s x h) o k = mv_a h o k := mv_u_ne (mv_a h) _ q
theorem psh_w {P s x : Nat} {h : mv_H} : EFw P h (pshS P s x h) := ⟨rfl, rfl, fun o k q => sin9 (mv_sa h (P + 31) s (nI x)) _ (fun z => q ⟨z.1, Or.inr z.2⟩), fun o k q => psh_a o k (fun z => q z.1)⟩
theorem psh_29 {P s x b : Nat} {h : mv_H} {kR : Nat → Int32 → mv_H → Option (Int64 × mv_H)} {k7 : Int32 → Int32 → mv_H → Option (Int64 × mv_H)} (hs : mv_i h P 62 = nI s) (hx : s + x < 33000) : f_Book_eval_29 P kR k7 (nI b) (nI x) h = k7 (nI b) (mv_a h (P + 19) x) (pshS P s x h) := by
  unfold f_Book_eval_29
  rw [hs, xvi_n (show s < 33000 by omega) (by decide), cond_true, cln (by omega), xk_s, xk_s, xvi_n (show x < 33000 by omega) (by decide), cond_true, cln (by omega), show mv_i (mv_sa h (P + 31) s (nI x)) P 62 = mv_i h P 62 from rfl, hs, nI1 (by omega)]
  have e : mv_a (mv_si (mv_sa h (P + 31) s (nI x)) P 62 (nI (s + 1))) (P + 19) x = mv_a h (P + 19) x := psh_a (P + 19) x (by omega)
  rw [e]
  rfl
theorem psh_66 {P s x b m : Nat} {h : mv_H} {v : Int64} {kR : Nat → Int32 → mv_H → Option (Int64 × mv_H)} (h62 : mv_i h P 62 = nI (s + 1)) (h31 : mv_a h (P + 31) s = nI x) (hb : b ≤ s) (hx : x < 33000) (hs : s < 33000) : f_Book_eval_66 P kR (m + 1) (nI b) v h = if mv_a h (P + 18) x = (8 : Int32) then (xhb (f_Book_cut (mv_si h P 62 (nI s)) (((v).toUInt64 >>> (((mv_a h (P + 21) x)).toInt64.toUInt64 &&& Int64.toUInt64 63)).toInt64) (mv_a h (P + 23) x)) fun u18 g17 => f_Book_eval_66 P kR m (nI b) u18 g17) else (xhb (kR 0 (mv_a h (P + 20) x) (mv_si h P 62 (nI s))) fun u7 g6 => bif xvi (mv_a g6 (P + 19) x) 33000 then xhb (f_Book_apply P g6 (mv_a h (P + 21) x) v u7 (mv_a g6 (P + 23) ((mv_a g6 (P + 19) x)).toNatClampNeg)) fun u11 g10 => xhb (f_Book_cut g10 u11 (mv_a g10 (P + 23) x)) fun u14 g13 => f_Book_eval_66 P kR m (nI b) u14 g13 else none) := by
  have hv : xvi (nI x) 33000 = true := xvi_n hx (by decide)
  have hc : (nI x).toNatClampNeg = x := cln (by omega)
  have hvs : xvi (nI s) 33000 = true := xvi_n hs (by decide)
  have hcs : (nI s).toNatClampNeg = s := cln (by omega)
  have n0 : ¬ nI (s + 1) ≤ nI b := fun q => by have := (nIle (by omega) (by omega)).mp q; omega
  have es : nI (s + 1) - (1 : Int32) = nI s := nIsub (a := s + 1) (b := 1) (by omega) (by omega)
  have ea : ∀ o k, mv_a (mv_si h P 62 (nI s)) o k = mv_a h o k := fun _ _ => rfl
  show fF_Book_eval_66 P kR (f_Book_eval_66 P kR m) (nI b) v h = _
  unfold fF_Book_eval_66
  rw [h62, if_neg n0, es, xk_s]
  simp only [mv_si_s, ea, hvs, hcs, h31, hv, hc, cond_true]
theorem spn_V {P T : Nat} {C LW : List Nat} {e : E0q} {l : Nat → Int64} {r : Nat → Nat → Int64} {kR : Nat → Int32 → mv_H → Option (Int64 × mv_H)} {rr : Nat} (K : KOk P T C LW e l r kR (rr - 1)) (KS : KSm P T C LW e l r kR rr) : ∀ (n x w nn s b : Nat) (D : DnE) (h : mv_H), ND P h T 0 C LW n rr x w D → ENq P T C LW e l r h → mv_i h P 62 = nI s → s + x < 33000 → b ≤ s → x < nn → ∃ v h' m, f_Book_eval_7 P kR nn (nI b) (nI x) h = f_Book_eval_66 P kR m (nI b) v h' ∧ 200000 ≤ m + x ∧ EFr P s h h' ∧ FTq w v ∧ TrO (mv_i h P 53) (mv_i h' P 53) (D e l r) v := by
  intro n
  induction n with
  | zero => intro x w nn s b D h N; exact N.elim
  | succ n ih =>
    intro x w nn s b D h N E hs hx hb hn
    obtain ⟨nn, rfl⟩ : ∃ q, nn = q + 1 := ⟨nn - 1, by omega⟩
    have hv : xvi (nI x) 33000 = true := xvi_n (show x < 33000 by omega) (by decide)
    have hc : (nI x).toNatClampNeg = x := cln (by omega)
    have hw := N.1.1
    have hw3 := N.1.2.2.1
    have P62 : mv_i (pshS P s x h) P 62 = nI (s + 1) := mv_si_s _ _ _ _
    have P53 : mv_i (pshS P s x h) P 53 = mv_i h P 53 := (sin9 (mv_sa h (P + 31) s (nI x)) _ (by omega)).trans rfl
    have P31 : mv_a (pshS P s x h) (P + 31) s = nI x := mv_u_same _ _ _ _
    by_cases q7 : mv_a h (P + 18) x = 7
    · obtain ⟨y, z, wy, wz, Dy, Dz, ko, k, a2, a3, a4, a5, a6, a7, a8, a9, a10, rfl⟩ := N.s7 q7
      have hy : 0 < wy ∧ wy ≤ 64 ∧ mv_a h (P + 23) y = nI wy := by
        cases n with
        | zero => exact a8.elim
        | succ n => exact ⟨a8.1.2.1, a8.1.2.2.1, a8.1.1⟩
      have e0 : f_Book_eval_7 P kR (nn + 1) (nI b) (nI x) h = f_Book_eval_7 P kR nn (nI b) (nI y) (pshS P s x h) := by
        show fF_Book_eval_7 P kR (f_Book_eval_7 P kR nn) (nI b) (nI x) h = _
        unfold fF_Book_eval_7
        rw [hv, cond_true, hc, if_pos q7, psh_29 hs hx, a2]
      obtain ⟨v1, h2, m, x1, x2, f2, g2, t2⟩ := ih y wy nn (s + 1) b Dy (pshS P s x h) (a8.fr (psh_w.nf (m := x)) a6) (E.fr psh_w) P62 (by omega) (by omega) (by omega)
      obtain ⟨m, rfl⟩ : ∃ q, m = q + 1 := ⟨m - 1, by omega⟩
      have r2 : ∀ o k, ¬ o = P + 31 → mv_a h2 o k = mv_a h o k := fun o k q => by rw [f2.2.2.2.2 o k (fun z => q z.1), psh_a o k (fun z => q z.1)]
      have h62 : mv_i h2 P 62 = nI (s + 1) := by rw [f2.2.2.2.1 P 62 (by omega)]; exact P62
      have h31 : mv_a h2 (P + 31) s = nI x := by rw [f2.2.2.2.2 (P + 31) s (by omega)]; exact P31
      have g1w : EFw P h (mv_si h2 P 62 (nI s)) := ⟨by show h2.2.1 = h.2.1; rw [f2.1]; rfl, by show mv_b h2 = mv_b h; rw [f2.2.2.1]; rfl, fun o k q => by rw [sin9 h2 _ (fun z => q ⟨z.1, Or.inr z.2⟩), f2.2.2.2.1 o k (fun z => q ⟨z.1, Or.inl z.2⟩), psh_w.2.2.1 o k q], fun o k q => r2 o k q⟩
      obtain ⟨v2, g3, e3, f3, k3, t3⟩ := K n z wz Dz (mv_si h2 P 62 (nI s)) s (a9.fr (g1w.nf (m := x)) a7) (E.fr g1w) (mv_si_s _ _ _ _) (by omega)
      have r3 : ∀ o k, ¬ o = P + 31 → mv_a g3 o k = mv_a h o k := fun o k q => by rw [f3.2.2.2.2 o k (fun z => q z.1)]; exact r2 o k q
      obtain ⟨-, -, u, c1, c2, c3⟩ := two_c P g3 a5 hy.1 hy.2.1 a10 g2 k3
      refine ⟨u2 k (nJ wy) v1 v2, g3, m, ?_, by omega, ?_, c3, ?_⟩
      · rw [e0, x1, psh_66 h62 h31 hb (by omega) (by omega), r2 (P + 18) x (by omega), q7, if_neg (by decide), r2 (P + 20) x (by omega), a3, e3, xhb_s, r3 (P + 19) x (by omega), a2, xvi_n (show y < 33000 by omega) (by decide), cond_true, cln (by omega), r2 (P + 21) x (by omega), a4, r3 (P + 23) y (by omega), hy.2.2, c1, xhb_s, r3 (P + 23) x (by omega), hw, cutW g3 _ hw3, xhb_s, c2]
      · refine ⟨f3.1.trans g1w.1, ?_, f3.2.2.1.trans g1w.2.1, ?_, ?_⟩
        · rw [f3.2.1]; show mv_r h2 = mv_r h; rw [f2.2.1]; rfl
        · intro o k q
          rw [f3.2.2.2.1 o k q]
          by_cases c : o = P ∧ k = 62
          · rw [c.1, c.2, mv_si_s, hs]
          · rw [sin9 h2 _ c, f2.2.2.2.1 o k q, psh_w.2.2.1 o k (by omega)]
        · intro o k q
          rw [f3.2.2.2.2 o k q]
          show mv_a h2 o k = _
          rw [f2.2.2.2.2 o k (by omega), psh_a o k (by omega)]
      · have t3 : TrO (mv_i h2 P 53) (mv_i g3 P 53) (Dz e l r) v2 := by
          rw [sin9 h2 _ (by omega)] at t3; exact t3
        rw [P53] at t2
        exact t2.two (u2 k (nJ wy)) t3
    by_cases q8 : mv_a h (P + 18) x = 8
    · obtain ⟨y, wy, Dy, hi, lo, a2, a4, a6, b1, b2, b3, a8, rfl⟩ := N.s8 q8
      have hy : wy ≤ 64 := by
        cases n with
        | zero => exact a8.elim
        | succ n => exact a8.1.2.2.1
      have e0 : f_Book_eval_7 P kR (nn + 1) (nI b) (nI x) h = f_Book_eval_7 P kR nn (nI b) (nI y) (pshS P s x h) := by
        show fF_Book_eval_7 P kR (f_Book_eval_7 P kR nn) (nI b) (nI x) h = _
        unfold fF_Book_eval_7
        rw [hv, cond_true, hc, if_neg q7, cond_true, if_pos q8, psh_29 hs hx, a2]
      obtain ⟨v1, h2, m, x1, x2, f2, g2, t2⟩ := ih y wy nn (s + 1) b Dy (pshS P s x h) (a8.fr (psh_w.nf (m := x)) a6) (E.fr psh_w) P62 (by omega) (by omega) (by omega)
      obtain ⟨m, rfl⟩ : ∃ q, m = q + 1 := ⟨m - 1, by omega⟩
      have r2 : ∀ o k, ¬ o = P + 31 → mv_a h2 o k = mv_a h o k := fun o k q => by rw [f2.2.2.2.2 o k (fun z => q z.1), psh_a o k (fun z => q z.1)]
      have h62 : mv_i h2 P 62 = nI (s + 1) := by rw [f2.2.2.2.1 P 62 (by omega)]; exact P62
      have h31 : mv_a h2 (P + 31) s = nI x := by rw [f2.2.2.2.2 (P + 31) s (by omega)]; exact P31
      have eu : u1 308 (wPk lo w) v1 = ((v1.toUInt64 >>> ((nI lo).toInt64.toUInt64 &&& Int64.toUInt64 63)).toInt64) &&& mkI (nI w) := by
        unfold u1
        rw [if_neg (by decide), if_pos rfl, wPk8 (by omega) hw3, wPkl (by omega) hw3]
      refine ⟨u1 308 (wPk lo w) v1, mv_si h2 P 62 (nI s), m, ?_, by omega, ?_, u308_ft (by omega) hw3 v1, ?_⟩
      · rw [e0, x1, psh_66 h62 h31 hb (by omega) (by omega), r2 (P + 18) x (by omega), if_pos q8, r2 (P + 21) x (by omega), a4, r2 (P + 23) x (by omega), hw, cutW _ _ hw3, xhb_s, eu]
      · refine ⟨by show h2.2.1 = h.2.1; rw [f2.1]; rfl, by show mv_r h2 = mv_r h; rw [f2.2.1]; rfl, by show mv_b h2 = mv_b h; rw [f2.2.2.1]; rfl, ?_, ?_⟩
        · intro o k q
          by_cases c : o = P ∧ k = 62
          · rw [c.1, c.2, mv_si_s, hs]
          · rw [sin9 h2 _ c, f2.2.2.2.1 o k q, psh_w.2.2.1 o k (by omega)]
        · intro o k q
          show mv_a h2 o k = _
          rw [f2.2.2.2.2 o k (by omega), psh_a o k (by omega)]
      · rw [P53] at t2
        rw [sin9 h2 _ (by omega)]
        exact t2.one (u1 308 (wPk lo w))
    · obtain ⟨v, g, e1, f1, g1, t1⟩ := KS (n + 1) x w D h s N q7 q8 E hs hx
      refine ⟨v, g, 200000, ?_, by omega, f1, g1, t1⟩
      show fF_Book_eval_7 P kR (f_Book_eval_7 P kR nn) (nI b) (nI x) h = _
      unfold fF_Book_eval_7
      rw [hv, cond_true, hc, if_neg q7, cond_true, if_neg q8, e1, xhb_s]
theorem evl_V {P T : Nat} {C LW : List Nat} {e : E0q} {l : Nat → Int64} {r : Nat → Nat → Int64} {kR : Nat → Int32 → mv_H → Option (Int64 × mv_H)} {rr : Nat} (K : KOk P T C LW e l r kR (rr - 1)) (KS : KSm P T C LW e l r kR rr) {n x w s : Nat} {D : DnE} {h : mv_H} (N : ND P h T 0 C LW n rr x w D) (E : ENq P T C LW e l r h) (hs : mv_i h P 62 = nI s) (hx : s + x < 33000) : EvO P s w (D e l r) h (mv_i h P 53) (f_Book_eval P kR h (nI x)) := by
  obtain ⟨v, h', m, e1, e2, f, g, t⟩ := spn_V K KS n x w 200000 s s D h N E hs hx (Nat.le_refl _) (by omega)
  obtain ⟨m, rfl⟩ : ∃ q, m = q + 1 := ⟨m - 1, by omega⟩
  refine ⟨v, h', ?_, f, g, t⟩
  unfold f_Book_eval
  rw [hs, e1]
  show fF_Book_eval_66 P kR (f_Book_eval_66 P kR m) (nI s) v h' = _
  unfold fF_Book_eval_66
  rw [f.2.2.2.1 P 62 (by omega), hs, if_pos (Int32.le_refl _)]
/-! the reference's evaluation -/
theorem fBE_0 (P nn : Nat) (a : Int32) (h : mv_H) : f_BookE P (nn + 1) 0 a h = f_Book_eval P (f_BookE P nn) h a := by rw [f_BookE]; rfl
theorem fBE_1 (P nn : Nat) (a : Int32) (h : mv_H) : f_BookE P (nn + 1) 1 a h = f_Book_simple P (f_BookE P nn) h a := by rw [f_BookE]; rfl
theorem fBE_2 (P nn : Nat) (a : Int32) (h : mv_H) : f_BookE P (nn + 1) 2 a h = f_Book_row P (f_BookE P nn) h a := by rw [f_BookE]; rfl
theorem evE (P T : Nat) (C LW : List Nat) (e : E0q) (l : Nat → Int64) (r : Nat → Nat → Int64) : ∀ (k rr : Nat), (3 * rr ≤ k → KOk P T C LW e l r (f_BookE P k) rr) ∧ (3 * rr ≤ k + 1 → KSm P T C LW e l r (f_BookE P k) rr) ∧ (3 * rr + 1 ≤ k → KRw P T C LW e l r (f_BookE P k) rr) := by
  intro k
  have z : ∀ {n x w : Nat} {D : DnE} {h : mv_H}, ¬ ND P h T 0 C LW n 0 x w D := fun {n} => by
    intro x w D h N
    cases n with
    | zero => exact N.elim
    | succ n => exact absurd N.1.2.2.2.2.1 (by omega)
  induction k with
  | zero =>
    intro rr
    refine ⟨fun q => ?_, fun q => ?_, fun q => by omega⟩
    · have : rr = 0 := by omega
      subst this
      intro n x w D h s N
      exact absurd N z
    · have : rr = 0 := by omega
      subst this
      intro n x w D h s N
      exact absurd N z
  | succ k ih =>
    intro rr
    refine ⟨fun q => ?_, fun q => ?_, fun q => ?_⟩
    · intro n x w D h s N E hs hx
      rw [fBE_0]
      exact evl_V ((ih (rr - 1)).1 (by omega)) ((ih rr).2.1 (by omega)) N E hs hx
    · intro n x w D h s N n7 n8 E hs hx
      rw [fBE_1]
      by_cases q0 : rr = 0
      · subst q0
        exact absurd N z
      exact sim_V ((ih (rr - 1)).1 (by omega)) ((ih (rr - 1)).2.2 (by omega)) N n7 n8 E hs hx
    · intro n p L w D h s hR hN ej hw E hs
      rw [fBE_2]
      exact row_V ((ih rr).1 (by omega)) hR hN ej hw E hs
/-- what node x is worth, reckoned -/
theorem evX {P T : Nat} {C LW : List Nat} {e : E0q} {l : Nat → Int64} {r : Nat → Nat → Int64} {n rr x w : Nat} {D : DnE} {h : mv_H} (N : ND P h T 0 C LW n rr x w D) (hr : rr ≤ 633) (E : ENq P T C LW e l r h) (hs : mv_i h P 62 = 0) : EvO P 0 w (D e l r) h (mv_i h P 53) (f_BookE P 1900 0 (nI x) h) := by
  have hx : x < 33000 := by
    cases n with
    | zero => exact N.elim
    | succ n => exact N.1.2.2.2.1
  exact (evE P T C LW e l r 1900 rr).1 (by omega) n x w D h 0 N E hs (by omega)
