/-! the reference's Book: the nodes of an expression -/
abbrev nS (B : Nat) (τ : mv_H) (q : Nat) : Int := (mv_a τ (B + 18) q).toInt
abbrev nF (B : Nat) (τ : mv_H) (q : Nat) : Int := (mv_a τ (B + 22) q).toInt
/-- a child of the node q: a node of an expression, from lo on, its rank below r -/
def XC (B : Nat) (τ : mv_H) (ρ : Nat → Nat) (lo q r : Nat) (v : Int32) : Prop := ∃ m : Nat, v.toInt = m ∧ lo ≤ m ∧ m < q ∧ ρ m < r ∧ nS B τ m ≤ 12
/-- a row of children: all from the first on -/
def XL (B : Nat) (τ : mv_H) (ρ : Nat → Nat) (lo q r : Nat) (v : Int32) : Prop := ∃ m : Nat, v.toInt = m ∧ lo ≤ m ∧ m < q ∧ ∀ j, m ≤ j → j < q → nS B τ j ≤ 12 ∧ ρ j < r ∧ (nF B τ j = -1 ∨ ((j : Int) < nF B τ j ∧ nF B τ j < q))
/-- a good node of an expression -/
def XQ (B th : Nat) (τ : mv_H) (ρ : Nat → Nat) (lo q : Nat) : Prop :=
  (1 ≤ nS B τ q ∧ nS B τ q ≤ 12) ∧
  (nS B τ q = 2 → 0 ≤ (mv_a τ (B + 19) q).toInt ∧ (mv_a τ (B + 19) q).toInt < th) ∧
  (nS B τ q = 3 → (0 ≤ (mv_a τ (B + 19) q).toInt ∧ (mv_a τ (B + 19) q).toInt < th) ∧ XC B τ ρ lo q (ρ q) (mv_a τ (B + 20) q)) ∧
  (nS B τ q = 5 → 0 ≤ (mv_a τ (B + 19) q).toInt ∧ (mv_a τ (B + 19) q).toInt < 4100) ∧
  (nS B τ q = 6 ∨ nS B τ q = 11 ∨ nS B τ q = 12 → XC B τ ρ lo q (ρ q) (mv_a τ (B + 19) q)) ∧
  (nS B τ q = 7 → XC B τ ρ lo q (ρ q + 1) (mv_a τ (B + 19) q) ∧ XC B τ ρ lo q (ρ q) (mv_a τ (B + 20) q)) ∧
  (nS B τ q = 8 → XC B τ ρ lo q (ρ q + 1) (mv_a τ (B + 19) q)) ∧
  (nS B τ q = 9 → XC B τ ρ lo q (ρ q) (mv_a τ (B + 19) q) ∧ XC B τ ρ lo q (ρ q) (mv_a τ (B + 20) q) ∧ XC B τ ρ lo q (ρ q) (mv_a τ (B + 21) q)) ∧
  (nS B τ q = 10 → XL B τ ρ lo q (ρ q) (mv_a τ (B + 19) q))
theorem XC.fr {B lo lo' q r : Nat} {τ τ' : mv_H} {ρ ρ' : Nat → Nat} {v : Int32} (h : XC B τ ρ lo q r v) (hlo : lo' ≤ lo) (e : ∀ j, lo ≤ j → j < q → mv_a τ' (B + 18) j = mv_a τ (B + 18) j) (eρ : ∀ j, lo ≤ j → j < q → ρ' j = ρ j) : XC B τ' ρ' lo' q r v := by
  obtain ⟨m, a, b, c, d, f⟩ := h
  refine ⟨m, a, by omega, c, by rw [eρ m b c]; exact d, ?_⟩
  show (mv_a τ' (B + 18) m).toInt ≤ 12
  rw [e m b c]
  exact f
theorem XL.fr {B lo lo' q r : Nat} {τ τ' : mv_H} {ρ ρ' : Nat → Nat} {v : Int32} (h : XL B τ ρ lo q r v) (hlo : lo' ≤ lo) (e : ∀ j, lo ≤ j → j < q → mv_a τ' (B + 18) j = mv_a τ (B + 18) j) (e2 : ∀ j, lo ≤ j → j < q → mv_a τ' (B + 22) j = mv_a τ (B + 22) j) (eρ : ∀ j, lo ≤ j → j < q → ρ' j = ρ j) : XL B τ' ρ' lo' q r v := by
  obtain ⟨m, a, b, c, d⟩ := h
  refine ⟨m, a, by omega, c, fun j h1 h2 => ?_⟩
  show (mv_a τ' (B + 18) j).toInt ≤ 12 ∧ ρ' j < r ∧ ((mv_a τ' (B + 22) j).toInt = -1 ∨ ((j : Int) < (mv_a τ' (B + 22) j).toInt ∧ (mv_a τ' (B + 22) j).toInt < q))
  rw [e j (by omega) h2, e2 j (by omega) h2, eρ j (by omega) h2]
  exact d j h1 h2
theorem XQ.fr {B th th' lo lo' q : Nat} {τ τ' : mv_H} {ρ ρ' : Nat → Nat} (h : XQ B th τ ρ lo q) (hth : th ≤ th') (hlo : lo' ≤ lo) (hq : lo ≤ q) (e : ∀ o j, B + 18 ≤ o → o ≤ B + 21 → lo ≤ j → j ≤ q → mv_a τ' o j = mv_a τ o j) (e2 : ∀ j, lo ≤ j → j < q → mv_a τ' (B + 22) j = mv_a τ (B + 22) j) (eρ : ∀ j, lo ≤ j → j ≤ q → ρ' j = ρ j) : XQ B th' τ' ρ' lo' q := by
  have e0 := e (B + 18) q (by omega) (by omega) hq (Nat.le_refl _)
  have e1 := e (B + 19) q (by omega) (by omega) hq (Nat.le_refl _)
  have e3 := e (B + 20) q (by omega) (by omega) hq (Nat.le_refl _)
  have e4 := e (B + 21) q (by omega) (by omega) hq (Nat.le_refl _)
  have r0 := eρ q hq (Nat.le_refl _)
  have xc : ∀ (r : Nat) (v : Int32), XC B τ ρ lo q r v → XC B τ' ρ' lo' q r v := fun r v h => h.fr hlo (fun j a b => e _ j (by omega) (by omega) a (by omega)) (fun j a b => eρ j a (by omega))
  have xl : ∀ (r : Nat) (v : Int32), XL B τ ρ lo q r v → XL B τ' ρ' lo' q r v := fun r v h => h.fr hlo (fun j a b => e _ j (by omega) (by omega) a (by omega)) e2 (fun j a b => eρ j a (by omega))
  obtain ⟨h0, h2, h3, h5, h6, h7, h8, h9, h10⟩ := h
  have es : nS B τ' q = nS B τ q := congrArg Int32.toInt e0
  unfold XQ
  rw [es, e1, e3, e4, r0]
  exact ⟨h0, fun z => ⟨(h2 z).1, by have := (h2 z).2; omega⟩, fun z => ⟨⟨(h3 z).1.1, by have := (h3 z).1.2; omega⟩, xc _ _ (h3 z).2⟩, h5, fun z => xc _ _ (h6 z), fun z => ⟨xc _ _ (h7 z).1, xc _ _ (h7 z).2⟩, fun z => xc _ _ (h8 z), fun z => ⟨xc _ _ (h9 z).1, xc _ _ (h9 z).2.1, xc _ _ (h9 z).2.2⟩, fun z => xl _ _ (h10 z)⟩
/-- a stretch of good nodes -/
def XV (B th : Nat) (τ : mv_H) (ρ : Nat → Nat) (l0 lo hi R : Nat) : Prop := ∀ q, lo ≤ q → q < hi → XQ B th τ ρ l0 q ∧ ρ q ≤ R ∧ (nF B τ q = -1 ∨ ((q : Int) < nF B τ q ∧ nF B τ q < hi))
def XR (B th : Nat) (τ : mv_H) (lo hi R : Nat) : Prop := ∃ ρ, XV B th τ ρ lo lo hi R
theorem XV.fr {B th l0 l1 lo hi R : Nat} {τ τ' : mv_H} {ρ ρ' : Nat → Nat} (h : XV B th τ ρ l0 lo hi R) (hl : l0 ≤ lo) (hl1 : l1 ≤ l0) (e : ∀ o j, B + 18 ≤ o → o ≤ B + 22 → l0 ≤ j → j < hi → mv_a τ' o j = mv_a τ o j) (eρ : ∀ j, l0 ≤ j → j < hi → ρ' j = ρ j) : XV B th τ' ρ' l1 lo hi R := fun q a b => by
  obtain ⟨h1, h2, h3⟩ := h q a b
  refine ⟨h1.fr (Nat.le_refl _) hl1 (by omega) (fun o j a1 a2 a3 a4 => e o j a1 (by omega) a3 (by omega)) (fun j a1 a2 => e _ j (by omega) (by omega) a1 (by omega)) (fun j a1 a2 => eρ j a1 (by omega)), by rw [eρ q (by omega) b]; exact h2, ?_⟩
  show (mv_a τ' (B + 22) q).toInt = -1 ∨ ((q : Int) < (mv_a τ' (B + 22) q).toInt ∧ (mv_a τ' (B + 22) q).toInt < hi)
  rw [e _ q (by omega) (by omega) (by omega) b]
  exact h3
theorem XR.fr {B th lo hi R : Nat} {τ τ' : mv_H} (h : XR B th τ lo hi R) (e : ∀ o j, B + 18 ≤ o → o ≤ B + 22 → lo ≤ j → j < hi → mv_a τ' o j = mv_a τ o j) : XR B th τ' lo hi R := by
  obtain ⟨ρ, h⟩ := h
  exact ⟨ρ, h.fr (Nat.le_refl _) (Nat.le_refl _) e (fun _ _ _ => rfl)⟩
theorem XR.xf {B th lo hi R n : Nat} {τ τ' : mv_H} (h : XR B th τ lo hi R) (f : XF B n τ τ') (hn : hi ≤ n) : XR B th τ' lo hi R := h.fr (fun o j a b c d => f.2.2.2.1 o j (by omega))
theorem XR.up {B th lo hi R R' : Nat} {τ : mv_H} (h : XR B th τ lo hi R) (hR : R ≤ R') : XR B th τ lo hi R' := by
  obtain ⟨ρ, h⟩ := h
  exact ⟨ρ, fun q a b => ⟨(h q a b).1, by have := (h q a b).2.1; omega, (h q a b).2.2⟩⟩
theorem XR.merge {B th lo mid hi R1 R2 : Nat} {τ : mv_H} (h1 : XR B th τ lo mid R1) (h2 : XR B th τ mid hi R2) (hm : lo ≤ mid) : ∃ ρ, XV B th τ ρ lo lo mid R1 ∧ XV B th τ ρ lo mid hi R2 := by
  obtain ⟨r1, h1⟩ := h1
  obtain ⟨r2, h2⟩ := h2
  refine ⟨fun q => if q < mid then r1 q else r2 q, h1.fr (Nat.le_refl _) (Nat.le_refl _) (fun _ _ _ _ _ _ => rfl) (fun j a b => if_pos b), h2.fr (Nat.le_refl _) hm (fun _ _ _ _ _ _ => rfl) (fun j a b => if_neg (by omega))⟩
theorem XV.cat {B th l0 lo mid hi R R1 R2 : Nat} {τ : mv_H} {ρ : Nat → Nat} (h1 : XV B th τ ρ l0 lo mid R1) (h2 : XV B th τ ρ l0 mid hi R2) (hm : mid ≤ hi) (g1 : R1 ≤ R) (g2 : R2 ≤ R) : XV B th τ ρ l0 lo hi R := fun q a b => by
  by_cases z : q < mid
  · obtain ⟨x, y, w⟩ := h1 q a z
    exact ⟨x, by omega, by omega⟩
  · obtain ⟨x, y, w⟩ := h2 q (by omega) b
    exact ⟨x, by omega, w⟩
/-- a new node behind a good stretch -/
theorem XV.new {B th lo hi R : Nat} {τ : mv_H} {ρ : Nat → Nat} {s x y z w : Int32} (h : XV B th τ ρ lo lo hi R) (hlo : lo ≤ hi) (hn : (mv_i τ B 48).toNatClampNeg = hi)
    (hq : ∀ (υ : mv_H) (ρ' : Nat → Nat), (∀ o j, j < hi → mv_a υ o j = mv_a τ o j) → (∀ j, j < hi → ρ' j = ρ j) → ρ' hi = R → mv_a υ (B + 18) hi = s → mv_a υ (B + 19) hi = x → mv_a υ (B + 20) hi = y → mv_a υ (B + 21) hi = z → XQ B th υ ρ' lo hi) : XR B th (nd B τ s x y z w) lo (hi + 1) R := by
  refine ⟨fun j => if j = hi then R else ρ j, fun q a b => ?_⟩
  have hv := nd_v (s := s) (x := x) (y := y) (z := z) (w := w) hn
  by_cases e : q = hi
  · subst e
    refine ⟨hq _ _ (fun o j hj => nd_o (by rw [hn]; omega)) (fun j hj => if_neg (by omega)) (if_pos rfl) hv.1 hv.2.1 hv.2.2.1 hv.2.2.2.1, Nat.le_of_eq (if_pos rfl), Or.inl ?_⟩
    show (mv_a _ (B + 22) q).toInt = -1
    rw [hv.2.2.2.2.1]
    rfl
  · obtain ⟨h1, h2, h3⟩ := h q a (by omega)
    refine ⟨h1.fr (Nat.le_refl _) (Nat.le_refl _) a (fun o j _ _ _ hj => nd_o (by rw [hn]; omega)) (fun j _ hj => nd_o (by rw [hn]; omega)) (fun j _ hj => if_neg (by omega)), Nat.le_trans (Nat.le_of_eq (if_neg e)) h2, ?_⟩
    show (mv_a _ (B + 22) q).toInt = -1 ∨ ((q : Int) < (mv_a _ (B + 22) q).toInt ∧ (mv_a _ (B + 22) q).toInt < ((hi + 1 : Nat) : Int))
    rw [nd_o (by rw [hn]; omega)]
    have h3 : (mv_a τ (B + 22) q).toInt = -1 ∨ ((q : Int) < (mv_a τ (B + 22) q).toInt ∧ (mv_a τ (B + 22) q).toInt < hi) := h3
    omega
theorem XC.of {B th lo q r R l1 h1 : Nat} {τ υ : mv_H} {ρ ρ' : Nat → Nat} {v : Int32} (h : XV B th τ ρ lo l1 h1 R) (hv : v.toInt + 1 = h1) (a1 : l1 < h1) (a2 : h1 ≤ q) (hl : lo ≤ l1) (hr : R < r) (e : ∀ o j, j < q → mv_a υ o j = mv_a τ o j) (eρ : ∀ j, j < q → ρ' j = ρ j) : XC B υ ρ' lo q r v := by
  obtain ⟨x, y, -⟩ := h (h1 - 1) (by omega) (by omega)
  refine ⟨h1 - 1, by omega, by omega, by omega, by rw [eρ _ (by omega)]; omega, ?_⟩
  show (mv_a υ (B + 18) (h1 - 1)).toInt ≤ 12
  rw [e _ _ (by omega)]
  exact x.1.2
/-- leaves -/
theorem XR.leaf {B th n R : Nat} {τ : mv_H} {s x y z w : Int32} (hn : (mv_i τ B 48).toNatClampNeg = n) (hs : s.toInt = 1 ∨ s.toInt = 4 ∨ (s.toInt = 2 ∧ 0 ≤ x.toInt ∧ x.toInt < th) ∨ (s.toInt = 5 ∧ 0 ≤ x.toInt ∧ x.toInt < 4100)) : XR B th (nd B τ s x y z w) n (n + 1) R := by
  refine XV.new (ρ := fun _ => 0) (fun q a b => absurd a (by omega)) (Nat.le_refl _) hn (fun υ ρ' e eρ er e1 e2 e3 e4 => ?_)
  have es : nS B υ n = s.toInt := congrArg Int32.toInt e1
  unfold XQ
  rw [es, e2]
  exact ⟨by omega, fun z => by omega, fun z => by omega, fun z => by omega, fun z => by omega, fun z => by omega, fun z => by omega, fun z => by omega, fun z => by omega⟩
/-- one child -/
theorem XR.un {B th lo hi R R0 : Nat} {τ : mv_H} {s x y z w : Int32} (h : XR B th τ lo hi R0) (hlo : lo < hi) (hn : (mv_i τ B 48).toNatClampNeg = hi) (hs : s.toInt = 6 ∨ s.toInt = 11 ∨ s.toInt = 12) (hx : x.toInt + 1 = hi) (hR : R0 < R) : XR B th (nd B τ s x y z w) lo (hi + 1) R := by
  obtain ⟨ρ, h⟩ := h
  refine XV.new (ρ := ρ) (fun q a b => ⟨(h q a b).1, by have := (h q a b).2.1; omega, (h q a b).2.2⟩) (by omega) hn (fun υ ρ' e eρ er e1 e2 e3 e4 => ?_)
  have es : nS B υ hi = s.toInt := congrArg Int32.toInt e1
  unfold XQ
  rw [es, e2, er]
  exact ⟨by omega, fun z => by omega, fun z => by omega, fun z => by omega, fun _ => XC.of h hx hlo (Nat.le_refl _) (Nat.le_refl _) hR e eρ, fun z => by omega, fun z => by omega, fun z => by omega, fun z => by omega⟩
theorem XR.pick {B th lo hi R : Nat} {τ : mv_H} {x y z w : Int32} (h : XR B th τ lo hi R) (hlo : lo < hi) (hn : (mv_i τ B 48).toNatClampNeg = hi) (hx : x.toInt + 1 = hi) : XR B th (nd B τ 8 x y z w) lo (hi + 1) R := by
  obtain ⟨ρ, h⟩ := h
  refine XV.new (ρ := ρ) h (by omega) hn (fun υ ρ' e eρ er e1 e2 e3 e4 => ?_)
  have es : nS B υ hi = 8 := congrArg Int32.toInt e1
  unfold XQ
  rw [es, e2, er]
  exact ⟨by omega, fun z => by omega, fun z => by omega, fun z => by omega, fun z => by omega, fun z => by omega, fun _ => XC.of h hx hlo (Nat.le_refl _) (Nat.le_refl _) (Nat.lt_succ_self _) e eρ, fun z => by omega, fun z => by omega⟩
theorem XR.cell {B th lo hi R R0 : Nat} {τ : mv_H} {x y z w : Int32} (h : XR B th τ lo hi R0) (hlo : lo < hi) (hn : (mv_i τ B 48).toNatClampNeg = hi) (hx : 0 ≤ x.toInt ∧ x.toInt < th) (hy : y.toInt + 1 = hi) (hR : R0 < R) : XR B th (nd B τ 3 x y z w) lo (hi + 1) R := by
  obtain ⟨ρ, h⟩ := h
  refine XV.new (ρ := ρ) (fun q a b => ⟨(h q a b).1, by have := (h q a b).2.1; omega, (h q a b).2.2⟩) (by omega) hn (fun υ ρ' e eρ er e1 e2 e3 e4 => ?_)
  have es : nS B υ hi = 3 := congrArg Int32.toInt e1
  unfold XQ
  rw [es, e2, e3, er]
  exact ⟨by omega, fun z => by omega, fun _ => ⟨hx, XC.of h hy hlo (Nat.le_refl _) (Nat.le_refl _) hR e eρ⟩, fun z => by omega, fun z => by omega, fun z => by omega, fun z => by omega, fun z => by omega, fun z => by omega⟩
theorem XR.bin {B th lo mid hi R R1 R2 : Nat} {τ : mv_H} {x y z w : Int32} (h1 : XR B th τ lo mid R1) (h2 : XR B th τ mid hi R2) (a1 : lo < mid) (a2 : mid < hi) (hn : (mv_i τ B 48).toNatClampNeg = hi) (hx : x.toInt + 1 = mid) (hy : y.toInt + 1 = hi) (g1 : R1 ≤ R) (g2 : R2 < R) : XR B th (nd B τ 7 x y z w) lo (hi + 1) R := by
  obtain ⟨ρ, h1, h2⟩ := h1.merge h2 (by omega)
  refine XV.new (ρ := ρ) (h1.cat h2 (by omega) g1 (by omega)) (by omega) hn (fun υ ρ' e eρ er e1 e2 e3 e4 => ?_)
  have es : nS B υ hi = 7 := congrArg Int32.toInt e1
  unfold XQ
  rw [es, e2, e3, er]
  exact ⟨by omega, fun z => by omega, fun z => by omega, fun z => by omega, fun z => by omega, fun _ => ⟨XC.of h1 hx a1 (by omega) (Nat.le_refl _) (by omega) e eρ, XC.of h2 hy a2 (Nat.le_refl _) (by omega) g2 e eρ⟩, fun z => by omega, fun z => by omega, fun z => by omega⟩
theorem XR.choose {B th lo m1 m2 hi R R1 R2 R3 : Nat} {τ : mv_H} {x y z w : Int32} (h1 : XR B th τ lo m1 R1) (h2 : XR B th τ m1 m2 R2) (h3 : XR B th τ m2 hi R3) (a1 : lo < m1) (a2 : m1 < m2) (a3 : m2 < hi) (hn : (mv_i τ B 48).toNatClampNeg = hi) (hx : x.toInt + 1 = m1) (hy : y.toInt + 1 = m2) (hz : z.toInt + 1 = hi) (g1 : R1 < R) (g2 : R2 < R) (g3 : R3 < R) : XR B th (nd B τ 9 x y z w) lo (hi + 1) R := by
  obtain ⟨ρ0, k2, k3⟩ := h2.merge h3 (by omega)
  obtain ⟨ρ, h1, h4⟩ := h1.merge (R2 := R - 1) ⟨ρ0, k2.cat k3 (by omega) (by omega) (by omega)⟩ (by omega)
  have hc : ∀ (υ : mv_H) (ρ' : Nat → Nat) (v : Int32) (m : Nat), v.toInt + 1 = m → m1 < m → m ≤ hi → (∀ o j, j < hi → mv_a υ o j = mv_a τ o j) → (∀ j, j < hi → ρ' j = ρ j) → XC B υ ρ' lo hi R v := fun υ ρ' v m q1 q2 q3 e eρ => by
    obtain ⟨u1, u2, -⟩ := h4 (m - 1) (by omega) (by omega)
    refine ⟨m - 1, by omega, by omega, by omega, by rw [eρ _ (by omega)]; omega, ?_⟩
    show (mv_a υ (B + 18) (m - 1)).toInt ≤ 12
    rw [e _ _ (by omega)]
    exact u1.1.2
  refine XV.new (ρ := ρ) (h1.cat h4 (by omega) (by omega) (by omega)) (by omega) hn (fun υ ρ' e eρ er e1 e2 e3 e4 => ?_)
  have es : nS B υ hi = 9 := congrArg Int32.toInt e1
  unfold XQ
  rw [es, e2, e3, e4, er]
  exact ⟨by omega, fun z => by omega, fun z => by omega, fun z => by omega, fun z => by omega, fun z => by omega, fun z => by omega, fun _ => ⟨XC.of h1 hx a1 (by omega) (Nat.le_refl _) (by omega) e eρ, hc υ ρ' y m2 hy a2 (by omega) e eρ, hc υ ρ' z hi hz (by omega) (Nat.le_refl _) e eρ⟩, fun z => by omega⟩
theorem XR.row {B th lo hi R R0 m : Nat} {τ : mv_H} {x y z w : Int32} (h : XR B th τ lo hi R0) (hn : (mv_i τ B 48).toNatClampNeg = hi) (hx : x.toInt = m) (hm : lo ≤ m) (hm2 : m < hi) (hR : R0 < R) : XR B th (nd B τ 10 x y z w) lo (hi + 1) R := by
  obtain ⟨ρ, h⟩ := h
  refine XV.new (ρ := ρ) (fun q a b => ⟨(h q a b).1, by have := (h q a b).2.1; omega, (h q a b).2.2⟩) (by omega) hn (fun υ ρ' e eρ er e1 e2 e3 e4 => ?_)
  have es : nS B υ hi = 10 := congrArg Int32.toInt e1
  unfold XQ
  rw [es, e2, er]
  refine ⟨by omega, fun z => by omega, fun z => by omega, fun z => by omega, fun z => by omega, fun z => by omega, fun z => by omega, fun z => by omega, fun _ => ⟨m, hx, hm, hm2, fun j j1 j2 => ?_⟩⟩
  obtain ⟨u1, u2, u3⟩ := h j (by omega) j2
  show (mv_a υ (B + 18) j).toInt ≤ 12 ∧ ρ' j < R ∧ ((mv_a υ (B + 22) j).toInt = -1 ∨ ((j : Int) < (mv_a υ (B + 22) j).toInt ∧ (mv_a υ (B + 22) j).toInt < hi))
  rw [e _ _ j2, e _ _ j2, eρ _ j2]
  exact ⟨u1.1.2, by omega, u3⟩
/-- the next of a row -/
theorem XR.link {B th lo mid hi R : Nat} {τ : mv_H} {v : Int32} {k : Nat} (h1 : XR B th τ lo mid R) (h2 : XR B th τ mid hi R) (a1 : lo < mid) (a2 : mid < hi) (hk : k + 1 = mid) (hv : v.toInt + 1 = hi) : XR B th (mv_sa τ (B + 22) k v) lo hi R := by
  obtain ⟨r1, h1⟩ := h1
  obtain ⟨r2, h2⟩ := h2
  have e : ∀ o j, ¬ (o = B + 22 ∧ j = k) → mv_a (mv_sa τ (B + 22) k v) o j = mv_a τ o j := fun o j q => mv_u_ne _ _ q
  have g2 : XV B th (mv_sa τ (B + 22) k v) r2 mid mid hi R := h2.fr (Nat.le_refl _) (Nat.le_refl _) (fun o j _ _ q1 _ => e o j (by omega)) (fun _ _ _ => rfl)
  refine ⟨fun q => if q < mid then r1 q else r2 q, fun q b1 b2 => ?_⟩
  by_cases z : q < mid
  · obtain ⟨u1, u2, u3⟩ := h1 q b1 z
    refine ⟨u1.fr (Nat.le_refl _) (Nat.le_refl _) b1 (fun o j _ _ _ _ => e o j (by omega)) (fun j _ _ => e _ j (by omega)) (fun j _ _ => if_pos (by omega)), Nat.le_trans (Nat.le_of_eq (if_pos z)) u2, ?_⟩
    show (mv_a _ (B + 22) q).toInt = -1 ∨ ((q : Int) < (mv_a _ (B + 22) q).toInt ∧ (mv_a _ (B + 22) q).toInt < hi)
    by_cases zz : q = k
    · subst zz
      rw [show mv_a (mv_sa τ (B + 22) q v) (B + 22) q = v from mv_u_same _ _ _ _]
      omega
    · rw [e _ _ (by omega)]
      have u3 : (mv_a τ (B + 22) q).toInt = -1 ∨ ((q : Int) < (mv_a τ (B + 22) q).toInt ∧ (mv_a τ (B + 22) q).toInt < mid) := u3
      omega
  · obtain ⟨u1, u2, u3⟩ := g2 q (by omega) b2
    exact ⟨u1.fr (Nat.le_refl _) (by omega) (by omega) (fun _ _ _ _ _ _ => rfl) (fun _ _ _ => rfl) (fun j _ _ => if_neg (by omega)), Nat.le_trans (Nat.le_of_eq (if_neg z)) u2, u3⟩
/-- a fault told, or none -/
def FT (B : Nat) (σ τ : mv_H) : Prop := TF B σ τ ∧ (∀ k, ¬ (k = 37 ∨ k = 38) → mv_i τ B k = mv_i σ B k) ∧ ((mv_i τ B 38).toInt ≤ 0 → (mv_i σ B 38).toInt ≤ 0)
theorem FT.rf {B : Nat} {σ : mv_H} : FT B σ σ := ⟨TF.rf, fun _ _ => rfl, fun z => z⟩
theorem FT.tr {B : Nat} {σ τ υ : mv_H} (h : FT B σ τ) (g : FT B τ υ) : FT B σ υ := ⟨h.1.tr g.1, fun k q => (g.2.1 k q).trans (h.2.1 k q), fun z => h.2.2 (g.2.2 z)⟩
theorem FT.of {B : Nat} {σ τ υ : mv_H} (h : FT B σ τ) (g : TF B τ υ ∧ ¬ (mv_i υ B 38).toInt ≤ 0 ∧ ∀ k, ¬ (k = 37 ∨ k = 38) → mv_i υ B k = mv_i τ B k) : FT B σ υ := h.tr ⟨g.1, g.2.2, fun z => absurd z g.2.1⟩
/-- the reader at a token: depth d, n nodes, th things -/
def PS (B len th d n a1 a2 : Nat) (σ : mv_H) : Prop := Tq B len σ σ a1 a2 ∧ (mv_i σ B 8).toInt = d ∧ (mv_i σ B 48).toInt = n ∧ n ≤ a1 ∧ (mv_i σ B 17).toInt = th ∧ Nm B len σ
section PSX
variable {B len th d n a1 a2 : Nat} {σ τ : mv_H}
theorem PS.nn (h : PS B len th d n a1 a2 σ) : (mv_i σ B 48).toNatClampNeg = n := by
  have h1 := h.2.2.1
  have := i32_cl (x := mv_i σ B 48) (by omega)
  omega
theorem PS.of {m d' n' : Nat} (h : PS B len th d n a1 a2 σ) (f : XF B m σ τ) (e : ∀ k, 2 ≤ k → k ≤ 6 → mv_i τ B k = mv_i σ B k) (e8 : (mv_i τ B 8).toInt = d') (e48 : (mv_i τ B 48).toInt = n') (hn : n' ≤ a1) : PS B len th d' n' a1 a2 τ :=
  ⟨h.1.keep e f.2.2.1, e8, e48, hn, by rw [f.1 _ _ (by omega)]; exact h.2.2.2.2.1, h.2.2.2.2.2.xf f⟩
theorem PS.tk {b1 b2 : Nat} (h : PS B len th d n a1 a2 σ) (g : Tq B len σ τ b1 b2) (hb : a2 ≤ b1) : PS B len th d n b1 b2 τ := by
  have f := g.1.1
  have h3 := h.1.2.2.1
  have h4 := h.2.2.2.1
  exact ⟨g.re, by rw [f.1 _ _ (by omega) (by omega)]; exact h.2.1, by rw [f.1 _ _ (by omega) (by omega)]; exact h.2.2.1, by omega, by rw [f.1 _ _ (by omega) (by omega)]; exact h.2.2.2.2.1, h.2.2.2.2.2.xf (f.tf.xf (n := 0))⟩
theorem PS.w (h : PS B len th d n a1 a2 σ) (hk : ¬ (mv_i σ B 4 = 0 ∨ mv_i σ B 4 = -1)) : a1 < a2 := by
  rcases h.1.2.2.2.2.1 with z | z | z
  · exact absurd (Or.inl z) hk
  · exact absurd (Or.inr z) hk
  · exact z
theorem PS.le (h : PS B len th d n a1 a2 σ) : n ≤ a1 ∧ a1 ≤ a2 ∧ a2 ≤ len ∧ len ≤ 10240 := ⟨h.2.2.2.1, h.1.2.2.1, h.1.1.2.2.2.2.1, h.1.1.2.2.2.2.2⟩
end PSX
/-- since σ: the reader has come to S -/
def XS (B len th : Nat) (σ : mv_H) (n a1 : Nat) (S : mv_H) (d n' b1 b2 : Nat) : Prop := PS B len th d n' b1 b2 S ∧ XF B n σ S ∧ n ≤ n' ∧ n' + a1 ≤ n + b1 ∧ ((mv_i S B 38).toInt ≤ 0 → (mv_i σ B 38).toInt ≤ 0)
section XSX
variable {B len th d n a1 n' b1 b2 : Nat} {σ S T : mv_H}
theorem XS.rf {a2 : Nat} (h : PS B len th d n a1 a2 σ) : XS B len th σ n a1 σ d n a1 a2 := ⟨h, XF.rf, Nat.le_refl _, Nat.le_refl _, fun z => z⟩
theorem XS.pass {c1 c2 : Nat} (h : XS B len th σ n a1 S d n' b1 b2) (g : Tq B len S T c1 c2) (hb : b2 ≤ c1) : XS B len th σ n a1 T d n' c1 c2 := by
  have h1 := h.1.1.2.2.1
  have h2 := h.2.2.2.1
  exact ⟨h.1.tk g hb, h.2.1.tr g.1.1.tf.xf, h.2.2.1, by omega, fun z => h.2.2.2.2 (by rw [← g.1.1.1 B 38 (by omega) (by omega)]; exact z)⟩
theorem XS.dep {d' : Nat} {v : Int32} (h : XS B len th σ n a1 S d n' b1 b2) (hv : v.toInt = d') : XS B len th σ n a1 (mv_si S B 8 v) d' n' b1 b2 :=
  have f : XF B n S (mv_si S B 8 v) := XF.rf.si (Or.inl ⟨rfl, Or.inl ⟨by decide, by decide⟩⟩)
  ⟨h.1.of f (fun k h1 h2 => mv_si_o _ _ (by omega)) (by rw [mv_si_s]; exact hv) (by rw [mv_si_o _ _ (by omega)]; exact h.1.2.2.1) h.1.2.2.2.1, h.2.1.tr f, h.2.2.1, h.2.2.2.1, fun z => h.2.2.2.2 (by rw [mv_si_o _ _ (by omega)] at z; exact z)⟩
theorem XS.ft (h : XS B len th σ n a1 S d n' b1 b2) (g : FT B S T) : XS B len th σ n a1 T d n' b1 b2 :=
  ⟨h.1.of (g.1.xf (n := 0)) (fun k h1 h2 => g.2.1 k (by omega)) (by rw [g.2.1 8 (by omega)]; exact h.1.2.1) (by rw [g.2.1 48 (by omega)]; exact h.1.2.2.1) h.1.2.2.2.1, h.2.1.tr g.1.xf, h.2.2.1, h.2.2.2.1, fun z => h.2.2.2.2 (g.2.2 z)⟩
theorem XS.nd {s x y z w : Int32} (h : XS B len th σ n a1 S d n' b1 b2) (hb : n' + 1 + a1 ≤ n + b1) (hn : n ≤ a1) : XS B len th σ n a1 (nd B S s x y z w) d (n' + 1) b1 b2 := by
  have h1 := h.1.le
  have h2 := h.1.2.2.1
  have f := nd_xf (s := s) (x := x) (y := y) (z := z) (w := w) h.1.nn
  exact ⟨h.1.of f (fun k h1 h2 => nd_i (by omega)) (by rw [nd_i (by omega)]; exact h.1.2.1) (by rw [nd_n, i32_inc (by omega)]; omega) (by omega), h.2.1.tr (f.lo h.2.2.1), by have := h.2.2.1; omega, hb, fun q => h.2.2.2.2 (by rw [nd_i (by omega)] at q; exact q)⟩
theorem XS.sub {d' n'' c1 c2 : Nat} (h : XS B len th σ n a1 S d n' b1 b2) (g : XS B len th S n' b1 T d' n'' c1 c2) : XS B len th σ n a1 T d' n'' c1 c2 :=
  ⟨g.1, h.2.1.tr (g.2.1.lo h.2.2.1), Nat.le_trans h.2.2.1 g.2.2.1, by have := h.2.2.2.1; have := g.2.2.2.1; omega, fun z => h.2.2.2.2 (g.2.2.2.2 z)⟩
theorem XS.fol {k : Nat} {v : Int32} (h : XS B len th σ n a1 S d n' b1 b2) (hk : n ≤ k) : XS B len th σ n a1 (mv_sa S (B + 22) k v) d n' b1 b2 :=
  have f : XF B n S (mv_sa S (B + 22) k v) := XF.rf.sa ⟨⟨by omega, by omega⟩, hk⟩
  ⟨h.1.of f (fun _ _ _ => rfl) h.1.2.1 h.1.2.2.1 h.1.2.2.2.1, h.2.1.tr f, h.2.2.1, h.2.2.2.1, h.2.2.2.2⟩
theorem XS.val {k : Nat} {v : Int64} (h : XS B len th σ n a1 S d n' b1 b2) : XS B len th σ n a1 (mv_sb S (B + 24) k v) d n' b1 b2 :=
  have f : XF B n S (mv_sb S (B + 24) k v) := XF.rf.sb rfl
  ⟨h.1.of f (fun _ _ _ => rfl) h.1.2.1 h.1.2.2.1 h.1.2.2.2.1, h.2.1.tr f, h.2.2.1, h.2.2.2.1, h.2.2.2.2⟩
end XSX
/-- what a reader of an expression brings: its node v, the last of all -/
def XO (B len th d n a1 R : Nat) (σ : mv_H) (v : Int32) (τ : mv_H) : Prop := ∃ n' b1 b2, XS B len th σ n a1 τ d n' b1 b2 ∧ n < n' ∧ v.toInt + 1 = n' ∧ ((mv_i τ B 38).toInt ≤ 0 → XR B th τ n n' R)
theorem XR.ft {B th lo hi R : Nat} {τ τ' : mv_H} (h : XR B th τ lo hi R) (f : TF B τ τ') : XR B th τ' lo hi R := h.xf (f.xf (n := hi)) (Nat.le_refl _)
