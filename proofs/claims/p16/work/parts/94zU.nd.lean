/-! the reference's nodes: node x, w wide, stands for D. Rows: sort P+18, a P+19, b P+20, c P+21, follow P+22, width P+23, value P+24, chained P+25 -/
def RowOK (P : Nat) (h : mv_H) : List (Nat × Nat × DnE) → Prop
  | [] => False
  | p :: l => match l with
    | [] => mv_a h (P + 22) p.1 = -1
    | q :: _ => mv_a h (P + 22) p.1 = nI q.1 ∧ RowOK P h l
def joinL : List (Nat × Nat × DnE) → Nat → DnE → Nat × DnE
  | [], w, D => (w, D)
  | p :: l, w, D => joinL l (w + p.2.1) (d2 309 (nJ p.2.1) D p.2.2)
def ND (P : Nat) (h : mv_H) (T lo : Nat) (C LW : List Nat) : Nat → Nat → Nat → Nat → DnE → Prop
  | 0, _, _, _, _ => False
  | n + 1, r, x, w, D => (mv_a h (P + 23) x = nI w ∧ 0 < w ∧ w ≤ 64 ∧ x < 33000 ∧ 0 < r ∧ lo ≤ x) ∧ (
    (mv_a h (P + 18) x = 1 ∧ FTq w (mv_b h (P + 24) x) ∧ D = dLit (mv_b h (P + 24) x)) ∨
    (∃ t, mv_a h (P + 18) x = 2 ∧ mv_a h (P + 19) x = nI t ∧ t < 64 ∧ t < T ∧ D = dReg t ∧ mv_a h (P + 3) t = nI w ∧ mv_a h (P + 6) t = 0) ∨
    (∃ t y wy Dy, mv_a h (P + 18) x = 3 ∧ mv_a h (P + 19) x = nI t ∧ t < 64 ∧ t < T ∧ mv_a h (P + 20) x = nI y ∧ y < x ∧ ND P h T lo C LW n (r - 1) y wy Dy ∧ D = dCel t Dy ∧ mv_a h (P + 3) t = nI w ∧ ¬ mv_a h (P + 6) t = 0) ∨
    (∃ c, mv_a h (P + 18) x = 4 ∧ mv_a h (P + 19) x = nI c ∧ c < 128 ∧ D = dFld (nJ (mskC C c)) ∧ w = cntL c C) ∨
    (∃ i, mv_a h (P + 18) x = 5 ∧ mv_a h (P + 19) x = nI i ∧ i < 64 ∧ LW[i]? = some w ∧ D = dLet i) ∨
    (∃ y Dy k, mv_a h (P + 18) x = 6 ∧ mv_a h (P + 19) x = nI y ∧ y < x ∧ mv_a h (P + 20) x = nI k ∧ (k = 45 ∨ k = 126 ∨ k = 33) ∧ ND P h T lo C LW n (r - 1) y w Dy ∧ D = d1 (sgK k) (mkI (nI w)) Dy) ∨
    (∃ y z wy wz Dy Dz ko k, mv_a h (P + 18) x = 7 ∧ mv_a h (P + 19) x = nI y ∧ mv_a h (P + 20) x = nI z ∧ mv_a h (P + 21) x = nI ko ∧ (ko, k) ∈ OPK ∧ y < x ∧ z < x ∧ ND P h T lo C LW n r y wy Dy ∧ ND P h T lo C LW n (r - 1) z wz Dz ∧ tw k wy wz = some w ∧ D = d2 k (nJ wy) Dy Dz) ∨
    (∃ y wy Dy hi l0, mv_a h (P + 18) x = 8 ∧ mv_a h (P + 19) x = nI y ∧ mv_a h (P + 21) x = nI l0 ∧ y < x ∧ l0 ≤ hi ∧ hi < wy ∧ w = hi - l0 + 1 ∧ ND P h T lo C LW n r y wy Dy ∧ D = d1 308 (wPk l0 w) Dy) ∨
    (∃ y z v Dy Dz Dv, mv_a h (P + 18) x = 9 ∧ mv_a h (P + 19) x = nI y ∧ mv_a h (P + 20) x = nI z ∧ mv_a h (P + 21) x = nI v ∧ y < x ∧ z < x ∧ v < x ∧ ND P h T lo C LW n (r - 1) y 1 Dy ∧ ND P h T lo C LW n (r - 1) z w Dz ∧ ND P h T lo C LW n (r - 1) v w Dv ∧ D = dCh Dy Dz Dv) ∨
    (∃ p l, mv_a h (P + 18) x = 10 ∧ mv_a h (P + 19) x = nI p.1 ∧ RowOK P h (p :: l) ∧ (∀ q, q ∈ p :: l → q.1 < x ∧ ND P h T lo C LW n (r - 1) q.1 q.2.1 q.2.2) ∧ joinL l p.2.1 p.2.2 = (w, D)) ∨
    (∃ y wy Dy, mv_a h (P + 18) x = 11 ∧ mv_a h (P + 19) x = nI y ∧ y < x ∧ wy ≤ w ∧ ND P h T lo C LW n (r - 1) y wy Dy ∧ D = d1 310 (wPk wy w) Dy) ∨
    (∃ y wy, mv_a h (P + 18) x = 12 ∧ mv_a h (P + 19) x = nI y ∧ y < x ∧ wy ≤ w ∧ ND P h T lo C LW n (r - 1) y wy D))
/-- an EXPR's node -/
def XSq (P : Nat) (h : mv_H) (k : Nat) : Prop := mv_a h (P + 18) k ≤ (12 : Int32)
/-- EXPRS' nodes below a bound stand as they were -/
def NFr (P lo m : Nat) (h h' : mv_H) : Prop := (∀ k, lo ≤ k → k < m → XSq P h k → mv_a h' (P + 18) k = mv_a h (P + 18) k ∧ mv_a h' (P + 19) k = mv_a h (P + 19) k ∧ mv_a h' (P + 20) k = mv_a h (P + 20) k ∧ mv_a h' (P + 21) k = mv_a h (P + 21) k ∧ mv_a h' (P + 23) k = mv_a h (P + 23) k ∧ mv_b h' (P + 24) k = mv_b h (P + 24) k) ∧ (∀ k, lo ≤ k → k + 1 < m → XSq P h k → mv_a h' (P + 22) k = mv_a h (P + 22) k) ∧ ∀ o k, (o = P + 3 ∨ o = P + 6) → k < 64 → mv_a h' o k = mv_a h o k
theorem RowOK.fr {P lo m : Nat} {h h' : mv_H} (f : NFr P lo m h h') : ∀ {l : List (Nat × Nat × DnE)}, RowOK P h l → (∀ q, q ∈ l → lo ≤ q.1 ∧ q.1 + 1 < m ∧ XSq P h q.1) → RowOK P h' l := by
  intro l
  induction l with
  | nil => intro R _; exact R
  | cons p l ih =>
    intro R hb
    have hp := hb p (List.mem_cons_self ..)
    cases l with
    | nil =>
      show mv_a h' (P + 22) p.1 = -1
      rw [f.2.1 p.1 hp.1 hp.2.1 hp.2.2]; exact R
    | cons q l =>
      have R : mv_a h (P + 22) p.1 = nI q.1 ∧ RowOK P h (q :: l) := R
      show mv_a h' (P + 22) p.1 = nI q.1 ∧ RowOK P h' (q :: l)
      rw [f.2.1 p.1 hp.1 hp.2.1 hp.2.2]
      exact ⟨R.1, ih R.2 (fun q' hq => hb q' (List.mem_cons_of_mem _ hq))⟩
theorem ND.xs {P T lo : Nat} {h : mv_H} {C LW : List Nat} {n r x w : Nat} {D : DnE} (N : ND P h T lo C LW n r x w D) : XSq P h x := by
  cases n with
  | zero => exact N.elim
  | succ n =>
  obtain ⟨-, N⟩ := N
  unfold XSq
  rcases N with N | N | N | N | N | N | N | N | N | N | N | N
  · obtain ⟨a1, -⟩ := N; rw [a1]; decide
  · obtain ⟨t, a1, -⟩ := N; rw [a1]; decide
  · obtain ⟨t, y, wy, Dy, a1, -⟩ := N; rw [a1]; decide
  · obtain ⟨c, a1, -⟩ := N; rw [a1]; decide
  · obtain ⟨i, a1, -⟩ := N; rw [a1]; decide
  · obtain ⟨y, Dy, k, a1, -⟩ := N; rw [a1]; decide
  · obtain ⟨y, z, wy, wz, Dy, Dz, ko, k, a1, -⟩ := N; rw [a1]; decide
  · obtain ⟨y, wy, Dy, hi, l0, a1, -⟩ := N; rw [a1]; decide
  · obtain ⟨y, z, v, Dy, Dz, Dv, a1, -⟩ := N; rw [a1]; decide
  · obtain ⟨p, l, a1, -⟩ := N; rw [a1]; decide
  · obtain ⟨y, wy, Dy, a1, -⟩ := N; rw [a1]; decide
  · obtain ⟨y, wy, a1, -⟩ := N; rw [a1]; decide
theorem ND.lx {P T lo : Nat} {h : mv_H} {C LW : List Nat} {n r x w : Nat} {D : DnE} (N : ND P h T lo C LW n r x w D) : lo ≤ x := by
  cases n with
  | zero => exact N.elim
  | succ n => exact N.1.2.2.2.2.2
theorem ND.fr {P m : Nat} {h h' : mv_H} {T lo : Nat} {C LW : List Nat} (f : NFr P lo m h h') : ∀ {n r x w : Nat} {D : DnE}, ND P h T lo C LW n r x w D → x < m → ND P h' T lo C LW n r x w D := by
  intro n
  induction n with
  | zero => intro r x w D N _; exact N
  | succ n ih =>
    intro r x w D N hx
    obtain ⟨f18, f19, f20, f21, f23, f24⟩ := f.1 x N.lx hx N.xs
    obtain ⟨N0, N⟩ := N
    refine ⟨by rw [f23]; exact N0, ?_⟩
    rw [f18, f19, f20, f21, f24]
    rcases N with N | N | N | N | N | N | N | N | N | N | N | N
    · exact Or.inl N
    · obtain ⟨t, a1, a2, a3, b3, a4, a5, a6⟩ := N
      exact Or.inr (Or.inl ⟨t, a1, a2, a3, b3, a4, by rw [f.2.2 (P + 3) t (by omega) a3]; exact a5, by rw [f.2.2 (P + 6) t (by omega) a3]; exact a6⟩)
    · obtain ⟨t, y, wy, Dy, a1, a2, a3, b3, a4, a5, a6, a7, a8, a9⟩ := N
      exact Or.inr (Or.inr (Or.inl ⟨t, y, wy, Dy, a1, a2, a3, b3, a4, a5, ih a6 (by omega), a7, by rw [f.2.2 (P + 3) t (by omega) a3]; exact a8, by rw [f.2.2 (P + 6) t (by omega) a3]; exact a9⟩))
    · exact Or.inr (Or.inr (Or.inr (Or.inl N)))
    · exact Or.inr (Or.inr (Or.inr (Or.inr (Or.inl N))))
    · obtain ⟨y, Dy, k, a1, a2, a3, a4, a5, a6, a7⟩ := N
      exact Or.inr (Or.inr (Or.inr (Or.inr (Or.inr (Or.inl ⟨y, Dy, k, a1, a2, a3, a4, a5, ih a6 (by omega), a7⟩)))))
    · obtain ⟨y, z, wy, wz, Dy, Dz, ko, k, a1, a2, a3, a4, a5, a6, a7, a8, a9, a10⟩ := N
      exact Or.inr (Or.inr (Or.inr (Or.inr (Or.inr (Or.inr (Or.inl ⟨y, z, wy, wz, Dy, Dz, ko, k, a1, a2, a3, a4, a5, a6, a7, ih a8 (by omega), ih a9 (by omega), a10⟩))))))
    · obtain ⟨y, wy, Dy, hi, l0, a1, a2, a3, a4, a5, a6, a7, a8, a9⟩ := N
      exact Or.inr (Or.inr (Or.inr (Or.inr (Or.inr (Or.inr (Or.inr (Or.inl ⟨y, wy, Dy, hi, l0, a1, a2, a3, a4, a5, a6, a7, ih a8 (by omega), a9⟩)))))))
    · obtain ⟨y, z, v, Dy, Dz, Dv, a1, a2, a3, a4, a5, a6, a7, a8, a9, a10, a11⟩ := N
      exact Or.inr (Or.inr (Or.inr (Or.inr (Or.inr (Or.inr (Or.inr (Or.inr (Or.inl ⟨y, z, v, Dy, Dz, Dv, a1, a2, a3, a4, a5, a6, a7, ih a8 (by omega), ih a9 (by omega), ih a10 (by omega), a11⟩))))))))
    · obtain ⟨p, l, a1, a2, a3, a4, a5⟩ := N
      exact Or.inr (Or.inr (Or.inr (Or.inr (Or.inr (Or.inr (Or.inr (Or.inr (Or.inr (Or.inl ⟨p, l, a1, a2, a3.fr f (fun q hq => ⟨(a4 q hq).2.lx, by have := (a4 q hq).1; omega, (a4 q hq).2.xs⟩), fun q hq => ⟨(a4 q hq).1, ih (a4 q hq).2 (by have := (a4 q hq).1; omega)⟩, a5⟩)))))))))
    · obtain ⟨y, wy, Dy, a1, a2, a3, a4, a5, a6⟩ := N
      exact Or.inr (Or.inr (Or.inr (Or.inr (Or.inr (Or.inr (Or.inr (Or.inr (Or.inr (Or.inr (Or.inl ⟨y, wy, Dy, a1, a2, a3, a4, ih a5 (by omega), a6⟩))))))))))
    · obtain ⟨y, wy, a1, a2, a3, a4, a5⟩ := N
      exact Or.inr (Or.inr (Or.inr (Or.inr (Or.inr (Or.inr (Or.inr (Or.inr (Or.inr (Or.inr (Or.inr ⟨y, wy, a1, a2, a3, a4, ih a5 (by omega)⟩))))))))))
/-- more fuel -/
theorem ND.up {P : Nat} {h : mv_H} {T lo : Nat} {C LW : List Nat} : ∀ {n r x w : Nat} {D : DnE}, ND P h T lo C LW n r x w D → ND P h T lo C LW (n + 1) r x w D := by
  intro n
  induction n with
  | zero => intro r x w D N; exact N.elim
  | succ n ih =>
    intro r x w D N
    obtain ⟨N0, N⟩ := N
    refine ⟨N0, ?_⟩
    rcases N with N | N | N | N | N | N | N | N | N | N | N | N
    · exact Or.inl N
    · exact Or.inr (Or.inl N)
    · obtain ⟨t, y, wy, Dy, a1, a2, a3, b3, a4, a5, a6, a7⟩ := N
      exact Or.inr (Or.inr (Or.inl ⟨t, y, wy, Dy, a1, a2, a3, b3, a4, a5, ih a6, a7⟩))
    · exact Or.inr (Or.inr (Or.inr (Or.inl N)))
    · exact Or.inr (Or.inr (Or.inr (Or.inr (Or.inl N))))
    · obtain ⟨y, Dy, k, a1, a2, a3, a4, a5, a6, a7⟩ := N
      exact Or.inr (Or.inr (Or.inr (Or.inr (Or.inr (Or.inl ⟨y, Dy, k, a1, a2, a3, a4, a5, ih a6, a7⟩)))))
    · obtain ⟨y, z, wy, wz, Dy, Dz, ko, k, a1, a2, a3, a4, a5, a6, a7, a8, a9, a10⟩ := N
      exact Or.inr (Or.inr (Or.inr (Or.inr (Or.inr (Or.inr (Or.inl ⟨y, z, wy, wz, Dy, Dz, ko, k, a1, a2, a3, a4, a5, a6, a7, ih a8, ih a9, a10⟩))))))
    · obtain ⟨y, wy, Dy, hi, l0, a1, a2, a3, a4, a5, a6, a7, a8, a9⟩ := N
      exact Or.inr (Or.inr (Or.inr (Or.inr (Or.inr (Or.inr (Or.inr (Or.inl ⟨y, wy, Dy, hi, l0, a1, a2, a3, a4, a5, a6, a7, ih a8, a9⟩)))))))
    · obtain ⟨y, z, v, Dy, Dz, Dv, a1, a2, a3, a4, a5, a6, a7, a8, a9, a10, a11⟩ := N
      exact Or.inr (Or.inr (Or.inr (Or.inr (Or.inr (Or.inr (Or.inr (Or.inr (Or.inl ⟨y, z, v, Dy, Dz, Dv, a1, a2, a3, a4, a5, a6, a7, ih a8, ih a9, ih a10, a11⟩))))))))
    · obtain ⟨p, l, a1, a2, a3, a4, a5⟩ := N
      exact Or.inr (Or.inr (Or.inr (Or.inr (Or.inr (Or.inr (Or.inr (Or.inr (Or.inr (Or.inl ⟨p, l, a1, a2, a3, fun q hq => ⟨(a4 q hq).1, ih (a4 q hq).2⟩, a5⟩)))))))))
    · obtain ⟨y, wy, Dy, a1, a2, a3, a4, a5, a6⟩ := N
      exact Or.inr (Or.inr (Or.inr (Or.inr (Or.inr (Or.inr (Or.inr (Or.inr (Or.inr (Or.inr (Or.inl ⟨y, wy, Dy, a1, a2, a3, a4, ih a5, a6⟩))))))))))
    · obtain ⟨y, wy, a1, a2, a3, a4, a5⟩ := N
      exact Or.inr (Or.inr (Or.inr (Or.inr (Or.inr (Or.inr (Or.inr (Or.inr (Or.inr (Or.inr (Or.inr ⟨y, wy, a1, a2, a3, a4, ih a5⟩))))))))))
/-- more rank -/
theorem ND.rk {P : Nat} {h : mv_H} {T lo : Nat} {C LW : List Nat} : ∀ {n r r2 x w : Nat} {D : DnE}, ND P h T lo C LW n r x w D → r ≤ r2 → ND P h T lo C LW n r2 x w D := by
  intro n
  induction n with
  | zero => intro r r2 x w D N _; exact N.elim
  | succ n ih =>
    intro r r2 x w D N hr
    obtain ⟨N0, N⟩ := N
    refine ⟨⟨N0.1, N0.2.1, N0.2.2.1, N0.2.2.2.1, by have := N0.2.2.2.2.1; omega, N0.2.2.2.2.2⟩, ?_⟩
    rcases N with N | N | N | N | N | N | N | N | N | N | N | N
    · exact Or.inl N
    · exact Or.inr (Or.inl N)
    · obtain ⟨t, y, wy, Dy, a1, a2, a3, b3, a4, a5, a6, a7⟩ := N
      exact Or.inr (Or.inr (Or.inl ⟨t, y, wy, Dy, a1, a2, a3, b3, a4, a5, ih a6 (by omega), a7⟩))
    · exact Or.inr (Or.inr (Or.inr (Or.inl N)))
    · exact Or.inr (Or.inr (Or.inr (Or.inr (Or.inl N))))
    · obtain ⟨y, Dy, k, a1, a2, a3, a4, a5, a6, a7⟩ := N
      exact Or.inr (Or.inr (Or.inr (Or.inr (Or.inr (Or.inl ⟨y, Dy, k, a1, a2, a3, a4, a5, ih a6 (by omega), a7⟩)))))
    · obtain ⟨y, z, wy, wz, Dy, Dz, ko, k, a1, a2, a3, a4, a5, a6, a7, a8, a9, a10⟩ := N
      exact Or.inr (Or.inr (Or.inr (Or.inr (Or.inr (Or.inr (Or.inl ⟨y, z, wy, wz, Dy, Dz, ko, k, a1, a2, a3, a4, a5, a6, a7, ih a8 (by omega), ih a9 (by omega), a10⟩))))))
    · obtain ⟨y, wy, Dy, hi, l0, a1, a2, a3, a4, a5, a6, a7, a8, a9⟩ := N
      exact Or.inr (Or.inr (Or.inr (Or.inr (Or.inr (Or.inr (Or.inr (Or.inl ⟨y, wy, Dy, hi, l0, a1, a2, a3, a4, a5, a6, a7, ih a8 (by omega), a9⟩)))))))
    · obtain ⟨y, z, v, Dy, Dz, Dv, a1, a2, a3, a4, a5, a6, a7, a8, a9, a10, a11⟩ := N
      exact Or.inr (Or.inr (Or.inr (Or.inr (Or.inr (Or.inr (Or.inr (Or.inr (Or.inl ⟨y, z, v, Dy, Dz, Dv, a1, a2, a3, a4, a5, a6, a7, ih a8 (by omega), ih a9 (by omega), ih a10 (by omega), a11⟩))))))))
    · obtain ⟨p, l, a1, a2, a3, a4, a5⟩ := N
      exact Or.inr (Or.inr (Or.inr (Or.inr (Or.inr (Or.inr (Or.inr (Or.inr (Or.inr (Or.inl ⟨p, l, a1, a2, a3, fun q hq => ⟨(a4 q hq).1, ih (a4 q hq).2 (by omega)⟩, a5⟩)))))))))
    · obtain ⟨y, wy, Dy, a1, a2, a3, a4, a5, a6⟩ := N
      exact Or.inr (Or.inr (Or.inr (Or.inr (Or.inr (Or.inr (Or.inr (Or.inr (Or.inr (Or.inr (Or.inl ⟨y, wy, Dy, a1, a2, a3, a4, ih a5 (by omega), a6⟩))))))))))
    · obtain ⟨y, wy, a1, a2, a3, a4, a5⟩ := N
      exact Or.inr (Or.inr (Or.inr (Or.inr (Or.inr (Or.inr (Or.inr (Or.inr (Or.inr (Or.inr (Or.inr ⟨y, wy, a1, a2, a3, a4, ih a5 (by omega)⟩))))))))))
/-- a lower bound -/
theorem ND.lo {P : Nat} {h : mv_H} {T lo lo2 : Nat} {C LW : List Nat} (hr : lo2 ≤ lo) : ∀ {n r x w : Nat} {D : DnE}, ND P h T lo C LW n r x w D → ND P h T lo2 C LW n r x w D := by
  intro n
  induction n with
  | zero => intro r x w D N; exact N.elim
  | succ n ih =>
    intro r x w D N
    obtain ⟨N0, N⟩ := N
    refine ⟨⟨N0.1, N0.2.1, N0.2.2.1, N0.2.2.2.1, N0.2.2.2.2.1, by have := N0.2.2.2.2.2; omega⟩, ?_⟩
    rcases N with N | N | N | N | N | N | N | N | N | N | N | N
    · exact Or.inl N
    · exact Or.inr (Or.inl N)
    · obtain ⟨t, y, wy, Dy, a1, a2, a3, b3, a4, a5, a6, a7⟩ := N
      exact Or.inr (Or.inr (Or.inl ⟨t, y, wy, Dy, a1, a2, a3, b3, a4, a5, ih a6, a7⟩))
    · exact Or.inr (Or.inr (Or.inr (Or.inl N)))
    · exact Or.inr (Or.inr (Or.inr (Or.inr (Or.inl N))))
    · obtain ⟨y, Dy, k, a1, a2, a3, a4, a5, a6, a7⟩ := N
      exact Or.inr (Or.inr (Or.inr (Or.inr (Or.inr (Or.inl ⟨y, Dy, k, a1, a2, a3, a4, a5, ih a6, a7⟩)))))
    · obtain ⟨y, z, wy, wz, Dy, Dz, ko, k, a1, a2, a3, a4, a5, a6, a7, a8, a9, a10⟩ := N
      exact Or.inr (Or.inr (Or.inr (Or.inr (Or.inr (Or.inr (Or.inl ⟨y, z, wy, wz, Dy, Dz, ko, k, a1, a2, a3, a4, a5, a6, a7, ih a8, ih a9, a10⟩))))))
    · obtain ⟨y, wy, Dy, hi, l0, a1, a2, a3, a4, a5, a6, a7, a8, a9⟩ := N
      exact Or.inr (Or.inr (Or.inr (Or.inr (Or.inr (Or.inr (Or.inr (Or.inl ⟨y, wy, Dy, hi, l0, a1, a2, a3, a4, a5, a6, a7, ih a8, a9⟩)))))))
    · obtain ⟨y, z, v, Dy, Dz, Dv, a1, a2, a3, a4, a5, a6, a7, a8, a9, a10, a11⟩ := N
      exact Or.inr (Or.inr (Or.inr (Or.inr (Or.inr (Or.inr (Or.inr (Or.inr (Or.inl ⟨y, z, v, Dy, Dz, Dv, a1, a2, a3, a4, a5, a6, a7, ih a8, ih a9, ih a10, a11⟩))))))))
    · obtain ⟨p, l, a1, a2, a3, a4, a5⟩ := N
      exact Or.inr (Or.inr (Or.inr (Or.inr (Or.inr (Or.inr (Or.inr (Or.inr (Or.inr (Or.inl ⟨p, l, a1, a2, a3, fun q hq => ⟨(a4 q hq).1, ih (a4 q hq).2⟩, a5⟩)))))))))
    · obtain ⟨y, wy, Dy, a1, a2, a3, a4, a5, a6⟩ := N
      exact Or.inr (Or.inr (Or.inr (Or.inr (Or.inr (Or.inr (Or.inr (Or.inr (Or.inr (Or.inr (Or.inl ⟨y, wy, Dy, a1, a2, a3, a4, ih a5, a6⟩))))))))))
    · obtain ⟨y, wy, a1, a2, a3, a4, a5⟩ := N
      exact Or.inr (Or.inr (Or.inr (Or.inr (Or.inr (Or.inr (Or.inr (Or.inr (Or.inr (Or.inr (Or.inr ⟨y, wy, a1, a2, a3, a4, ih a5⟩))))))))))
theorem ND.le {P : Nat} {h : mv_H} {T lo : Nat} {C LW : List Nat} {n m r x w : Nat} {D : DnE} (N : ND P h T lo C LW n r x w D) (hm : n ≤ m) : ND P h T lo C LW m r x w D := by
  obtain ⟨k, rfl⟩ : ∃ k, m = n + k := ⟨m - n, by omega⟩
  clear hm
  induction k with
  | zero => exact N
  | succ k ih => exact ih.up
/-- lets more -/
theorem ND.ap {P : Nat} {h : mv_H} {T lo : Nat} {C LW : List Nat} (l : List Nat) : ∀ {n r x w : Nat} {D : DnE}, ND P h T lo C LW n r x w D → ND P h T lo C (LW ++ l) n r x w D := by
  intro n
  induction n with
  | zero => intro r x w D N; exact N
  | succ n ih =>
    intro r x w D N
    obtain ⟨N0, N⟩ := N
    refine ⟨N0, ?_⟩
    rcases N with N | N | N | N | N | N | N | N | N | N | N | N
    · exact Or.inl N
    · exact Or.inr (Or.inl N)
    · obtain ⟨t, y, wy, Dy, a1, a2, a3, b3, a4, a5, a6, a7⟩ := N
      exact Or.inr (Or.inr (Or.inl ⟨t, y, wy, Dy, a1, a2, a3, b3, a4, a5, ih a6, a7⟩))
    · exact Or.inr (Or.inr (Or.inr (Or.inl N)))
    · obtain ⟨i, a1, a2, a3, a4, a5⟩ := N
      refine Or.inr (Or.inr (Or.inr (Or.inr (Or.inl ⟨i, a1, a2, a3, ?_, a5⟩))))
      have hi : i < LW.length := by
        by_cases q : i < LW.length
        · exact q
        · rw [List.getElem?_eq_none (by omega)] at a4; cases a4
      rw [List.getElem?_append_left hi]
      exact a4
    · obtain ⟨y, Dy, k, a1, a2, a3, a4, a5, a6, a7⟩ := N
      exact Or.inr (Or.inr (Or.inr (Or.inr (Or.inr (Or.inl ⟨y, Dy, k, a1, a2, a3, a4, a5, ih a6, a7⟩)))))
    · obtain ⟨y, z, wy, wz, Dy, Dz, ko, k, a1, a2, a3, a4, a5, a6, a7, a8, a9, a10⟩ := N
      exact Or.inr (Or.inr (Or.inr (Or.inr (Or.inr (Or.inr (Or.inl ⟨y, z, wy, wz, Dy, Dz, ko, k, a1, a2, a3, a4, a5, a6, a7, ih a8, ih a9, a10⟩))))))
    · obtain ⟨y, wy, Dy, hi, l0, a1, a2, a3, a4, a5, a6, a7, a8, a9⟩ := N
      exact Or.inr (Or.inr (Or.inr (Or.inr (Or.inr (Or.inr (Or.inr (Or.inl ⟨y, wy, Dy, hi, l0, a1, a2, a3, a4, a5, a6, a7, ih a8, a9⟩)))))))
    · obtain ⟨y, z, v, Dy, Dz, Dv, a1, a2, a3, a4, a5, a6, a7, a8, a9, a10, a11⟩ := N
      exact Or.inr (Or.inr (Or.inr (Or.inr (Or.inr (Or.inr (Or.inr (Or.inr (Or.inl ⟨y, z, v, Dy, Dz, Dv, a1, a2, a3, a4, a5, a6, a7, ih a8, ih a9, ih a10, a11⟩))))))))
    · obtain ⟨p, l', a1, a2, a3, a4, a5⟩ := N
      exact Or.inr (Or.inr (Or.inr (Or.inr (Or.inr (Or.inr (Or.inr (Or.inr (Or.inr (Or.inl ⟨p, l', a1, a2, a3, fun q hq => ⟨(a4 q hq).1, ih (a4 q hq).2⟩, a5⟩)))))))))
    · obtain ⟨y, wy, Dy, a1, a2, a3, a4, a5, a6⟩ := N
      exact Or.inr (Or.inr (Or.inr (Or.inr (Or.inr (Or.inr (Or.inr (Or.inr (Or.inr (Or.inr (Or.inl ⟨y, wy, Dy, a1, a2, a3, a4, ih a5, a6⟩))))))))))
    · obtain ⟨y, wy, a1, a2, a3, a4, a5⟩ := N
      exact Or.inr (Or.inr (Or.inr (Or.inr (Or.inr (Or.inr (Or.inr (Or.inr (Or.inr (Or.inr (Or.inr ⟨y, wy, a1, a2, a3, a4, ih a5⟩))))))))))
