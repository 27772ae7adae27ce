/-! the reference's Book: ways that are set later -/
section WR
variable {B th lo hi r w : Nat} {τ τ' : mv_H} {g : Gh}
theorem XQ.free {q : Nat} {ρ : Nat → Nat} (h : XQ B th τ ρ lo q) (hq : lo ≤ q) (hw : q ≠ w) (hs : 13 ≤ nS B τ w) (e : ∀ o j, B + 18 ≤ o → o ≤ B + 25 → lo ≤ j → j ≤ q → j ≠ w → mv_a τ' o j = mv_a τ o j) : XQ B th τ' ρ lo q := by
  have e0 : nS B τ' q = nS B τ q := congrArg Int32.toInt (e _ q (by omega) (by omega) hq (Nat.le_refl _) hw)
  have e1 := e (B + 19) q (by omega) (by omega) hq (Nat.le_refl _) hw
  have e3 := e (B + 20) q (by omega) (by omega) hq (Nat.le_refl _) hw
  have e4 := e (B + 21) q (by omega) (by omega) hq (Nat.le_refl _) hw
  have xc : ∀ (r : Nat) (v : Int32), XC B τ ρ lo q r v → XC B τ' ρ lo q r v := fun r v ⟨m, a, b, c, d, f⟩ => by
    have hm : m ≠ w := fun z => by subst z; omega
    refine ⟨m, a, b, c, d, ?_⟩
    show (mv_a τ' (B + 18) m).toInt ≤ 12
    rw [e _ m (by omega) (by omega) b (by omega) hm]
    exact f
  have xl : ∀ (r : Nat) (v : Int32), XL B τ ρ lo q r v → XL B τ' ρ lo q r v := fun r v ⟨m, a, b, c, d⟩ => by
    refine ⟨m, a, b, c, fun j h1 h2 => ?_⟩
    have hm : j ≠ w := fun z => by subst z; have := (d j h1 h2).1; omega
    show (mv_a τ' (B + 18) j).toInt ≤ 12 ∧ ρ j < r ∧ ((mv_a τ' (B + 22) j).toInt = -1 ∨ ((j : Int) < (mv_a τ' (B + 22) j).toInt ∧ (mv_a τ' (B + 22) j).toInt < q))
    rw [e _ j (by omega) (by omega) (by omega) (by omega) hm, e (B + 22) j (by omega) (by omega) (by omega) (by omega) hm]
    exact d j h1 h2
  obtain ⟨h0, h2, h3, h5, h6, h7, h8, h9, h10⟩ := h
  unfold XQ
  rw [e0, e1, e3, e4]
  exact ⟨h0, h2, fun z => ⟨(h3 z).1, xc _ _ (h3 z).2⟩, h5, fun z => xc _ _ (h6 z), fun z => ⟨xc _ _ (h7 z).1, xc _ _ (h7 z).2⟩, fun z => xc _ _ (h8 z), fun z => ⟨xc _ _ (h9 z).1, xc _ _ (h9 z).2.1, xc _ _ (h9 z).2.2⟩, fun z => xl _ _ (h10 z)⟩
theorem CLO.free {a b H : Nat} (h : CLO B τ a b H) (hw : ¬ (a ≤ w ∧ w < b)) (e : ∀ o j, B + 18 ≤ o → o ≤ B + 25 → a ≤ j → j < b → j ≠ w → mv_a τ' o j = mv_a τ o j) : CLO B τ' a b H := h.fr (fun o j a1 a2 a3 a4 => e o j a1 a2 a3 a4 (fun z => by subst z; exact hw ⟨a3, a4⟩))
theorem SQ.free {q : Nat} (h : SQ B th τ g lo q) (hq : lo ≤ q) (hhi : q < hi) (hw : q ≠ w) (hf : nF B τ q < hi) (hc : nI9 B τ q < hi) (es : nS B τ' w = nS B τ w) (e : ∀ o j, B + 18 ≤ o → o ≤ B + 25 → lo ≤ j → j < hi → j ≠ w → mv_a τ' o j = mv_a τ o j)
    (fr : (∀ t : Nat, nS B τ q = 18 → (mv_a τ (B + 20) q).toInt = t → ¬ (g.2 t ≤ w ∧ w < q)) ∧ ∀ t : Nat, nF B τ q = t → ¬ (q < w ∧ w < g.2 t)) : SQ B th τ' g lo q := by
  have e0 : nS B τ' q = nS B τ q := congrArg Int32.toInt (e _ q (by omega) (by omega) hq hhi hw)
  have e1 := e (B + 19) q (by omega) (by omega) hq hhi hw
  have e2 := e (B + 20) q (by omega) (by omega) hq hhi hw
  have e3 := e (B + 21) q (by omega) (by omega) hq hhi hw
  have e4 : nF B τ' q = nF B τ q := congrArg Int32.toInt (e _ q (by omega) (by omega) hq hhi hw)
  have e5 := e (B + 25) q (by omega) (by omega) hq hhi hw
  have s0 : ∀ t, lo ≤ t → t < hi → nS B τ' t = nS B τ t := fun t a b => by
    by_cases z : t = w
    · subst z; exact es
    · exact congrArg Int32.toInt (e _ t (by omega) (by omega) a b z)
  have sx : ∀ v : Int32, SX B τ lo q v → SX B τ' lo q v := fun v ⟨m, a, b, c, d⟩ => ⟨m, a, b, c, by rw [s0 m b (by omega)]; exact d⟩
  obtain ⟨h0, h1, h2, h3, h4, h5, h6, h7⟩ := h
  unfold SQ
  rw [e0, e1, e2, e3, e4]
  refine ⟨h0, h1, h2, fun z => ⟨(h3 z).1, sx _ (h3 z).2⟩, fun z => ⟨(h4 z).1, sx _ (h4 z).2⟩, fun z => sx _ (h5 z), fun z => ⟨sx _ (h6 z).1, ?_, ?_⟩, ?_⟩
  · rcases (h6 z).2.1 with y | ⟨t, y, y1, y2, y3, y4, y5, y6⟩
    · exact Or.inl y
    · exact Or.inr ⟨t, y, y1, by rw [s0 t (by omega) (by omega)]; exact y2, y3, y4, y5, y6.free (fr.1 t z y) (fun o j a b c d => e o j a b (by omega) (by omega))⟩
  · rcases (h6 z).2.2 with y | ⟨t, y, y1, y2, y3, y4, y5⟩
    · exact Or.inl y
    · have hc : (mv_a τ (B + 21) q).toInt < hi := hc
      refine Or.inr ⟨t, y, y1, y2, by rw [s0 t (by omega) (by omega)]; exact y3, ?_, ?_⟩
      · rw [e5, s0 t (by omega) (by omega)]
        exact y4
      · rw [e5]
        exact y5
  · rcases h7 with y | ⟨t, y, y1, y2, y3, y4, y5, y6⟩
    · exact Or.inl y
    · refine Or.inr ⟨t, y, y1, y2, by rw [s0 t (by omega) (by omega)]; exact y3, y4, ?_, y6.free (fun z => fr.2 t y ⟨by omega, z.2⟩) (fun o j a b c d => e o j a b (by omega) (by omega))⟩
      show (mv_a τ' (B + 21) q).toInt < _
      rw [e3]
      exact y5
/-- one node's ways are written: the others stand -/
theorem RG.write (h : RG B th τ g lo hi r) (hw1 : lo ≤ w) (hw2 : w < hi) (hs : 14 ≤ nS B τ w) (fr : Free B τ g lo hi w) (es : nS B τ' w = nS B τ w) (e : ∀ o j, B + 18 ≤ o → o ≤ B + 25 → lo ≤ j → j < hi → j ≠ w → mv_a τ' o j = mv_a τ o j) (hq : NQ B th τ' g lo hi r w) : RG B th τ' g lo hi r := fun q a b => by
  by_cases z : q = w
  · subst z; exact hq
  · obtain ⟨h1, h2, h3⟩ := h q a b
    have e0 : nS B τ' q = nS B τ q := congrArg Int32.toInt (e _ q (by omega) (by omega) a b z)
    have e3 : nI9 B τ' q = nI9 B τ q := congrArg Int32.toInt (e _ q (by omega) (by omega) a b z)
    have e4 : nF B τ' q = nF B τ q := congrArg Int32.toInt (e _ q (by omega) (by omega) a b z)
    unfold NQ
    rw [e0, e3, e4]
    refine ⟨fun y => ⟨(h1 y).1.free a z (by omega) (fun o j a1 a2 a3 a4 a5 => e o j a1 a2 a3 (by omega) a5), (h1 y).2⟩, fun y => ?_, h3⟩
    obtain ⟨k1, k2, k3⟩ := h2 y
    exact ⟨k1.free a b z (by omega) k3 es e (fr q a b k1.1.1), k2, k3⟩
theorem Free.write {x : Nat} (h : Free B τ g lo hi x) (hw2 : w < hi) (es : nS B τ' w = nS B τ w) (eb : mv_a τ' (B + 20) w = mv_a τ (B + 20) w) (e : ∀ o j, B + 18 ≤ o → o ≤ B + 25 → lo ≤ j → j < hi → j ≠ w → mv_a τ' o j = mv_a τ o j) (hf : ∀ t : Nat, nF B τ' w = t → ¬ (w < x ∧ x < g.2 t)) : Free B τ' g lo hi x := fun q a b c => by
  by_cases z : q = w
  · subst z
    obtain ⟨h1, -⟩ := h q a b (by omega)
    refine ⟨fun t z1 z2 => h1 t (by omega) (by rw [← eb]; exact z2), hf⟩
  · have e0 : nS B τ' q = nS B τ q := congrArg Int32.toInt (e _ q (by omega) (by omega) a b z)
    have e4 : nF B τ' q = nF B τ q := congrArg Int32.toInt (e _ q (by omega) (by omega) a b z)
    have e2 := e (B + 20) q (by omega) (by omega) a b z
    obtain ⟨h1, h2⟩ := h q a b (by omega)
    exact ⟨fun t z1 z2 => h1 t (by omega) (by rw [← e2]; exact z2), fun t z1 => h2 t (by omega)⟩
/-- the node itself: its next -/
theorem SQ.wF (h : SQ B th τ g lo w) (hhi : w < hi) (hw1 : lo ≤ w) (hc : nI9 B τ w < hi) (e : ∀ o j, B + 18 ≤ o → o ≤ B + 25 → lo ≤ j → j < hi → ¬ (o = B + 22 ∧ j = w) → mv_a τ' o j = mv_a τ o j) (fol : nF B τ' w = -1 ∨ ∃ t : Nat, nF B τ' w = t ∧ SF9 B τ' g w t) : SQ B th τ' g lo w := by
  have e0 : ∀ t, lo ≤ t → t < hi → nS B τ' t = nS B τ t := fun t a b => congrArg Int32.toInt (e _ t (by omega) (by omega) a b (by omega))
  have e1 := e (B + 19) w (by omega) (by omega) hw1 hhi (by omega)
  have e2 := e (B + 20) w (by omega) (by omega) hw1 hhi (by omega)
  have e3 := e (B + 21) w (by omega) (by omega) hw1 hhi (by omega)
  have e5 := e (B + 25) w (by omega) (by omega) hw1 hhi (by omega)
  have sx : ∀ v : Int32, SX B τ lo w v → SX B τ' lo w v := fun v ⟨m, a, b, c, d⟩ => ⟨m, a, b, c, by rw [e0 m b (by omega)]; exact d⟩
  obtain ⟨h0, h1, h2, h3, h4, h5, h6, -⟩ := h
  unfold SQ
  rw [e0 w hw1 hhi, e1, e2, e3]
  refine ⟨h0, h1, h2, fun z => ⟨(h3 z).1, sx _ (h3 z).2⟩, fun z => ⟨(h4 z).1, sx _ (h4 z).2⟩, fun z => sx _ (h5 z), fun z => ⟨sx _ (h6 z).1, ?_, ?_⟩, fol⟩
  · rcases (h6 z).2.1 with y | ⟨t, y, y1, y2, y3, y4, y5, y6⟩
    · exact Or.inl y
    · exact Or.inr ⟨t, y, y1, by rw [e0 t (by omega) (by omega)]; exact y2, y3, y4, y5, y6.fr (fun o j a b c d => e o j a b (by omega) (by omega) (by omega))⟩
  · rcases (h6 z).2.2 with y | ⟨t, y, y1, y2, y3, y4, y5⟩
    · exact Or.inl y
    · have hc : (mv_a τ (B + 21) w).toInt < hi := hc
      refine Or.inr ⟨t, y, y1, y2, by rw [e0 t (by omega) (by omega)]; exact y3, ?_, ?_⟩
      · rw [e5, e0 t (by omega) (by omega)]
        exact y4
      · rw [e5]
        exact y5
/-- the node itself: its else -/
theorem SQ.wC (h : SQ B th τ g lo w) (hs : nS B τ w = 18) (hn : nF B τ w = -1) (hhi : w < hi) (hw1 : lo ≤ w) (e : ∀ o j, B + 18 ≤ o → o ≤ B + 25 → lo ≤ j → j < hi → ¬ ((o = B + 21 ∨ o = B + 25) ∧ j = w) → mv_a τ' o j = mv_a τ o j) (els : (mv_a τ' (B + 21) w).toInt = -1 ∨ ∃ t : Nat, (mv_a τ' (B + 21) w).toInt = t ∧ SE9 B τ' g w t) : SQ B th τ' g lo w := by
  have e0 : ∀ t, lo ≤ t → t < hi → nS B τ' t = nS B τ t := fun t a b => congrArg Int32.toInt (e _ t (by omega) (by omega) a b (by omega))
  have e1 := e (B + 19) w (by omega) (by omega) hw1 hhi (by omega)
  have e2 := e (B + 20) w (by omega) (by omega) hw1 hhi (by omega)
  have e4 : nF B τ' w = nF B τ w := congrArg Int32.toInt (e _ w (by omega) (by omega) hw1 hhi (by omega))
  have sx : ∀ v : Int32, SX B τ lo w v → SX B τ' lo w v := fun v ⟨m, a, b, c, d⟩ => ⟨m, a, b, c, by rw [e0 m b (by omega)]; exact d⟩
  obtain ⟨h0, h1, h2, h3, h4, h5, h6, -⟩ := h
  unfold SQ
  rw [e0 w hw1 hhi, e1, e2, e4]
  refine ⟨h0, h1, h2, fun z => by omega, fun z => by omega, fun z => by omega, fun z => ⟨sx _ (h6 z).1, ?_, els⟩, Or.inl hn⟩
  rcases (h6 z).2.1 with y | ⟨t, y, y1, y2, y3, y4, y5, y6⟩
  · exact Or.inl y
  · exact Or.inr ⟨t, y, y1, by rw [e0 t (by omega) (by omega)]; exact y2, y3, y4, y5, y6.fr (fun o j a b c d => e o j a b (by omega) (by omega) (by omega))⟩
end WR
/-- the next statement of a block -/
theorem BI.next {B th n m m' r t u : Nat} {v : Int} {x : Int32} {τ : mv_H} (h : BI B th τ n m r v u) (k : SR B th τ m m' r t) (hx : x.toInt = t) : BI B th (mv_sa τ (B + 22) u x) n m' r v t := by
  obtain ⟨g2, k1, k2, k3, k4, k5, k6, k7, k8⟩ := k
  rcases h with ⟨-, z, -⟩ | ⟨g1, t1, u1, a, b, h1, ⟨c1, c2, c3, c4, c5⟩, ⟨d1, d2, d3, d4, d5, d6⟩⟩
  · omega
  · have hu : u1 = u := by omega
    subst hu
    have hG := h1.cat k1 (by omega) (by omega) (Nat.le_refl r) (Nat.le_refl r)
    have f1 := d6.fr (g' := gcat m g1 g2) h1 (fun _ _ _ _ _ _ => rfl) (fun j _ q => gcat_1 q)
    have hG2 : RG B th τ (gcat m g1 g2) m m' r := fun q a1 a2 => (k1 q a1 a2).fr (Nat.le_refl _) (Nat.le_refl _) (Nat.le_refl _) (Nat.le_refl _) a1 a2 (fun _ _ _ _ _ _ => rfl) (fun j q _ => gcat_2 (by omega))
    have hF := f1.cat (hG2.free (w := u1) (Or.inl d2))
    have e : ∀ o j, ¬ (o = B + 22 ∧ j = u1) → mv_a (mv_sa τ (B + 22) u1 x) o j = mv_a τ o j := fun o j q => mv_u_ne _ _ q
    have eF : nF B (mv_sa τ (B + 22) u1 x) u1 = t := (congrArg Int32.toInt (mv_u_same _ _ _ _)).trans hx
    have e0 : ∀ q, nS B (mv_sa τ (B + 22) u1 x) q = nS B τ q := fun q => congrArg Int32.toInt (e _ q (by omega))
    have gt := gcat_2 (mid := m) (g1 := g1) (g2 := g2) (q := t) (by omega)
    have gu := gcat_1 (mid := m) (g1 := g1) (g2 := g2) (q := u1) d2
    have hen := h1.end d1 d2
    have hcu := hen.2 d3
    have hNu := hG u1 d1 (by omega)
    have hsq := (hNu.2.1 (by omega)).1
    have hwr : RG B th (mv_sa τ (B + 22) u1 x) (gcat m g1 g2) n m' r := by
      refine hG.write d1 (by omega) d3 hF (e0 _) (fun o j _ _ _ _ z => e o j (by omega)) ?_
      refine ⟨fun z => by rw [e0] at z; omega, fun _ => ⟨hsq.wF (hi := m') (by omega) d1 (by omega) (fun o j _ _ _ _ z => e o j z) (Or.inr ⟨t, eF, ?_⟩), by rw [gu.1]; omega, ?_⟩, Or.inr ⟨by rw [eF]; omega, by rw [eF]; omega⟩⟩
      · refine ⟨by rw [gt.2]; omega, by rw [gt.2]; omega, by rw [e0]; exact k4, by rw [gt.1, gu.1]; omega, ?_, ?_⟩
        · show (mv_a (mv_sa τ (B + 22) u1 x) (B + 21) u1).toInt < _
          rw [e _ _ (by omega), gt.2, k5]
          exact hcu
        · rw [gt.2, k5]
          exact (h1.clo (m := u1 + 1) (by omega)).fr (fun o j _ _ z _ => e o j (by omega))
      · show (mv_a (mv_sa τ (B + 22) u1 x) (B + 21) u1).toInt < _
        rw [e _ _ (by omega)]
        exact Int.lt_of_lt_of_le hcu (by omega)
    have gt1 := gcat_1 (mid := m) (g1 := g1) (g2 := g2) (q := t1) c2
    refine Or.inr ⟨gcat m g1 g2, t1, t, a, rfl, hwr, ⟨c1, by omega, by rw [e0]; exact c3, by rw [gt1.2]; exact c4, by rw [gt1.1]; exact c5⟩, ⟨by omega, k3, by rw [e0]; exact k4, by rw [gt.1]; exact k6, ?_, ?_⟩⟩
    · show (mv_a (mv_sa τ (B + 22) u1 x) (B + 22) t).toInt = -1
      rw [e _ _ (by omega)]
      exact k7
    · have hGl : RG B th τ (gcat m g1 g2) n m r := fun q a1 a2 => (h1 q a1 a2).fr (Nat.le_refl _) (Nat.le_refl _) (Nat.le_refl _) (Nat.le_refl _) a1 a2 (fun _ _ _ _ _ _ => rfl) (fun j _ q => gcat_1 q)
      have hFt := (hGl.free (w := t) (Or.inr k2)).cat (k8.fr (g' := gcat m g1 g2) k1 (fun _ _ _ _ _ _ => rfl) (fun j q _ => gcat_2 (by omega)))
      refine hFt.write (w := u1) (by omega) (e0 _) (e _ _ (by omega)) (fun o j _ _ _ _ z => e o j (by omega)) (fun t' z1 z2 => ?_)
      have : t' = t := by omega
      subst this
      rw [gt.2] at z2
      omega
/-- an if's node -/
theorem RG.if {B th lo c1 hi r rb R : Nat} {τ : mv_H} {x y w : Int32} (hx : XR B th τ lo c1 R) (hR : R ≤ 629) (hb : BR B th τ c1 hi rb y.toInt) (a1 : lo < c1) (a2 : c1 ≤ hi) (hrb : rb < r) (hn : (mv_i τ B 48).toNatClampNeg = hi) (hxv : x.toInt + 1 = c1) :
    ∃ g : Gh, RG B th (nd B τ 18 x y (-1) w) g lo (hi + 1) r ∧ g.1 hi = r ∧ g.2 hi = lo := by
  obtain ⟨g1, h1⟩ := RG.ofX (r := 0) hx hR
  obtain ⟨g2, h2, h3⟩ := hb
  have hG := h1.cat h2 (by omega) a2 (Nat.zero_le r) (by omega)
  have hall := hx.all
  obtain ⟨g', k1, k2, k3, -⟩ := RG.new (s := 18) (x := x) (y := y) (z := -1) (w := w) hG (by omega) hn (by decide) (by show (-1 : Int) < ((hi + 1 : Nat) : Int); omega) (fun υ g' e eg er el e1 e2 e3 e4 e5 => by
    have es : nS B υ hi = 18 := congrArg Int32.toInt e1
    have ef : nF B υ hi = -1 := (congrArg Int32.toInt e5).trans rfl
    unfold SQ
    rw [es, e2, e3, e4, ef, el]
    refine ⟨by omega, Nat.le_refl _, by omega, fun q => by omega, fun q => by omega, fun q => by omega, fun _ => ⟨SX.of h1 hall hxv a1 a2 (Nat.le_refl _) e, ?_, Or.inl rfl⟩, Or.inl rfl⟩
    rcases h3 with h3 | ⟨t, b1, b2, b3, b4, b5, b6⟩
    · exact Or.inl h3
    · have gt := eg t b3
      have gc := gcat_2 (mid := c1) (g1 := g1) (g2 := g2) (q := t) (by omega)
      have g1t : g'.2 t = c1 := by rw [gt.2, gc.2]; exact b5
      refine Or.inr ⟨t, b1, b3, ?_, by rw [el, g1t]; omega, by rw [gt.1, gc.1, er]; omega, by omega, ?_⟩
      · show 14 ≤ (mv_a υ (B + 18) t).toInt
        rw [e _ t b3]
        exact b4
      · rw [g1t]
        exact (h2.clo (Nat.le_refl _)).fr (fun o j _ _ _ z => e o j z))
  exact ⟨g', k1, k2, k3⟩
/-- a row of ifs, so far -/
def II (B th : Nat) (τ : mv_H) (n n' r : Nat) (v w : Int) : Prop := (v = -1 ∧ w = -1 ∧ n' = n) ∨ ∃ (g : Gh) (t u : Nat), v = t ∧ w = u ∧ RG B th τ g n n' r ∧ (n ≤ t ∧ t ≤ u ∧ nS B τ t = 18 ∧ g.2 t = n ∧ g.1 t = r ∧ nF B τ t = -1 ∧ Free B τ g n n' t) ∧ (u + 1 = n' ∧ nS B τ u = 18 ∧ g.1 u = r ∧ nF B τ u = -1 ∧ mv_a τ (B + 25) u = 0 ∧ Free B τ g n n' u)
theorem II.fr {B th n n' r : Nat} {v w : Int} {τ τ' : mv_H} (h : II B th τ n n' r v w) (e : ∀ o j, B + 18 ≤ o → o ≤ B + 25 → n ≤ j → j < n' → mv_a τ' o j = mv_a τ o j) : II B th τ' n n' r v w := by
  rcases h with h | ⟨g, t, u, a, b, h1, ⟨c1, c2, c3, c4, c5, c6, c7⟩, ⟨d1, d2, d3, d4, d5, d6⟩⟩
  · exact Or.inl h
  · refine Or.inr ⟨g, t, u, a, b, h1.fr (Nat.le_refl _) (Nat.le_refl _) (Nat.le_refl _) e (fun _ _ _ => ⟨rfl, rfl⟩), ⟨c1, c2, ?_, c4, c5, ?_, c7.fr h1 e (fun _ _ _ => ⟨rfl, rfl⟩)⟩, ⟨d1, ?_, d3, ?_, ?_, d6.fr h1 e (fun _ _ _ => ⟨rfl, rfl⟩)⟩⟩
    · show (mv_a τ' (B + 18) t).toInt = 18
      rw [e _ t (by omega) (by omega) c1 (by omega)]
      exact c3
    · show (mv_a τ' (B + 22) t).toInt = -1
      rw [e _ t (by omega) (by omega) c1 (by omega)]
      exact c6
    · show (mv_a τ' (B + 18) u).toInt = 18
      rw [e _ u (by omega) (by omega) (by omega) (by omega)]
      exact d2
    · show (mv_a τ' (B + 22) u).toInt = -1
      rw [e _ u (by omega) (by omega) (by omega) (by omega)]
      exact d4
    · rw [e _ u (by omega) (by omega) (by omega) (by omega)]
      exact d5
theorem II.sr {B th n n' r t : Nat} {w : Int} {τ : mv_H} (h : II B th τ n n' r t w) : SR B th τ n n' r t := by
  rcases h with h | ⟨g, t1, u, a, b, h1, ⟨c1, c2, c3, c4, c5, c6, c7⟩, d1, -⟩
  · omega
  · have : t1 = t := by omega
    subst this
    exact ⟨g, h1, c1, by omega, by omega, c4, c5, c6, c7⟩
/-- the node of an if, as it was made -/
def IN (B : Nat) (τ : mv_H) (u : Nat) : Prop := nS B τ u = 18 ∧ nF B τ u = -1 ∧ mv_a τ (B + 25) u = 0
theorem IN.of {B n : Nat} {σ : mv_H} {x y z w : Int32} (h : (mv_i σ B 48).toNatClampNeg = n) : IN B (nd B σ 18 x y z w) n := by
  have hv := nd_v (s := 18) (x := x) (y := y) (z := z) (w := w) h
  exact ⟨congrArg Int32.toInt hv.1, (congrArg Int32.toInt hv.2.2.2.2.1).trans rfl, hv.2.2.2.2.2⟩
theorem II.one {B th n hi r : Nat} {τ : mv_H} {g : Gh} (h : RG B th τ g n (hi + 1) r) (hr : g.1 hi = r) (hl : g.2 hi = n) (hn : n ≤ hi) (k : IN B τ hi) : II B th τ n (hi + 1) r hi hi :=
  Or.inr ⟨g, hi, hi, rfl, rfl, h, ⟨hn, Nat.le_refl _, k.1, hl, hr, k.2.1, h.newFree k.2.1⟩, ⟨rfl, k.1, hr, k.2.1, k.2.2, h.newFree k.2.1⟩⟩
/-- an else is written: c of u, and whether it is an else if -/
theorem II.els {B th n m m' r t u : Nat} {x y : Int32} {τ τ' : mv_H} {g2 : Gh} (h : II B th τ n m r t u) (k1 : RG B th τ g2 m m' r) (hm : m ≤ m') (e : ∀ o j, ¬ ((o = B + 21 ∨ o = B + 25) ∧ j = u) → mv_a τ' o j = mv_a τ o j) (hx : mv_a τ' (B + 21) u = x) (hy : mv_a τ' (B + 25) u = y)
    (hq : x.toInt = -1 ∨ ∃ s : Nat, x.toInt = s ∧ m ≤ s ∧ s < m' ∧ 14 ≤ nS B τ s ∧ g2.2 s = m ∧ (¬ y = 0 → nS B τ s = 18 ∧ g2.1 s ≤ r) ∧ (y = 0 → g2.1 s < r)) :
    ∃ g : Gh, RG B th τ' g n m' r ∧ (n ≤ t ∧ t ≤ u ∧ u + 1 = m ∧ nS B τ' t = 18 ∧ g.2 t = n ∧ g.1 t = r ∧ nF B τ' t = -1 ∧ Free B τ' g n m' t) ∧ ∀ q, m ≤ q → g.1 q = g2.1 q ∧ g.2 q = g2.2 q := by
  rcases h with h | ⟨g1, t1, u1, a, b, h1, ⟨c1, c2, c3, c4, c5, c6, c7⟩, ⟨d1, d2, d3, d4, d5, d6⟩⟩
  · omega
  · have hu : u1 = u := by omega
    have ht : t1 = t := by omega
    subst hu
    subst ht
    have hG := h1.cat k1 (by omega) hm (Nat.le_refl r) (Nat.le_refl r)
    have hG2 : RG B th τ (gcat m g1 g2) m m' r := fun q a1 a2 => (k1 q a1 a2).fr (Nat.le_refl _) (Nat.le_refl _) (Nat.le_refl _) (Nat.le_refl _) a1 a2 (fun _ _ _ _ _ _ => rfl) (fun j q _ => gcat_2 (by omega))
    have fr : ∀ w, w < m → Free B τ g1 n m w → Free B τ (gcat m g1 g2) n m' w := fun w hw f => (f.fr h1 (fun _ _ _ _ _ _ => rfl) (fun j _ q => gcat_1 q)).cat (hG2.free (Or.inl hw))
    have hF := fr u1 (by omega) d6
    have e0 : ∀ q, nS B τ' q = nS B τ q := fun q => congrArg Int32.toInt (e _ q (by omega))
    have e4 : ∀ q, nF B τ' q = nF B τ q := fun q => congrArg Int32.toInt (e _ q (by omega))
    have gu := gcat_1 (mid := m) (g1 := g1) (g2 := g2) (q := u1) (by omega)
    have gt := gcat_1 (mid := m) (g1 := g1) (g2 := g2) (q := t1) (by omega)
    have hsq := ((hG u1 (by omega) (by omega)).2.1 (by omega)).1
    have hb : nI9 B τ' u1 < m' := by
      show (mv_a τ' (B + 21) u1).toInt < m'
      rw [hx]
      rcases hq with z | ⟨s, z1, -, z2, -⟩
      · omega
      · omega
    have hels : (mv_a τ' (B + 21) u1).toInt = -1 ∨ ∃ t : Nat, (mv_a τ' (B + 21) u1).toInt = t ∧ SE9 B τ' (gcat m g1 g2) u1 t := by
      rw [hx]
      rcases hq with z | ⟨s, z1, z2, z3, z4, z5, z6, z7⟩
      · exact Or.inl z
      · have gs := gcat_2 (mid := m) (g1 := g1) (g2 := g2) (q := s) (by omega)
        refine Or.inr ⟨s, z1, by rw [gs.2]; omega, by rw [gs.2]; omega, by rw [e0]; exact z4, fun q => ?_, fun q => ?_⟩
        · rw [hy] at q
          rw [e0, gs.1, gu.1, d3]
          exact z6 q
        · rw [hy] at q
          rw [gs.1, gu.1, d3]
          exact z7 q
    have hwr : RG B th τ' (gcat m g1 g2) n m' r := by
      refine hG.write (w := u1) (by omega) (by omega) (by omega) hF (e0 _) (fun o j _ _ _ _ z => e o j (by omega)) ?_
      exact ⟨fun z => by rw [e0] at z; omega, fun _ => ⟨hsq.wC (hi := m') d2 d4 (by omega) (by omega) (fun o j _ _ _ _ z => e o j z) hels, by rw [gu.1]; omega, hb⟩, Or.inl (by rw [e4]; exact d4)⟩
    refine ⟨gcat m g1 g2, hwr, ⟨c1, c2, d1, by rw [e0]; exact c3, by rw [gt.2]; exact c4, by rw [gt.1]; exact c5, by rw [e4]; exact c6, ?_⟩, fun q hq => gcat_2 (by omega)⟩
    exact (fr t1 (by omega) c7).write (w := u1) (by omega) (e0 _) (e _ _ (by omega)) (fun o j _ _ _ _ z => e o j (by omega)) (fun t' z1 => by rw [e4] at z1; omega)
theorem II.next {B th n m hi r t u : Nat} {x y : Int32} {τ τ' : mv_H} {g2 : Gh} (h : II B th τ n m r t u) (k1 : RG B th τ g2 m (hi + 1) r) (hr : g2.1 hi = r) (hl : g2.2 hi = m) (hm : m ≤ hi) (k : IN B τ hi) (e : ∀ o j, ¬ ((o = B + 21 ∨ o = B + 25) ∧ j = u) → mv_a τ' o j = mv_a τ o j) (hx : mv_a τ' (B + 21) u = x) (hy : mv_a τ' (B + 25) u = y) (hxv : x.toInt = hi) (hyv : ¬ y = 0) : II B th τ' n (hi + 1) r t hi := by
  obtain ⟨g, j1, ⟨j2, j3, j4, j5, j6, j7, j8, j9⟩, j10⟩ := h.els k1 (by omega) e hx hy (Or.inr ⟨hi, hxv, hm, Nat.lt_succ_self _, by rw [k.1]; decide, hl, fun _ => ⟨k.1, by omega⟩, fun z => absurd z hyv⟩)
  have e0 : nS B τ' hi = nS B τ hi := congrArg Int32.toInt (e _ hi (by omega))
  have e4 : nF B τ' hi = nF B τ hi := congrArg Int32.toInt (e _ hi (by omega))
  have gh := j10 hi hm
  have hf : nF B τ' hi = -1 := by rw [e4]; exact k.2.1
  exact Or.inr ⟨g, t, hi, rfl, rfl, j1, ⟨j2, by omega, j5, j6, j7, j8, j9⟩, ⟨rfl, by rw [e0]; exact k.1, by rw [gh.1]; exact hr, hf, by rw [e _ _ (by omega)]; exact k.2.2, j1.newFree hf⟩⟩
theorem II.last {B th n m m' r rb t u : Nat} {x : Int32} {τ τ' : mv_H} (h : II B th τ n m r t u) (k : BR B th τ m m' rb x.toInt) (hm : m ≤ m') (hr : rb < r) (e : ∀ o j, ¬ (o = B + 21 ∧ j = u) → mv_a τ' o j = mv_a τ o j) (hx : mv_a τ' (B + 21) u = x) : SR B th τ' n m' r t := by
  have h9 := h
  rcases h9 with h9 | ⟨g1, t1, u1, a, b, h1, ⟨c1, c2, c3, c4, c5, c6, c7⟩, ⟨d1, d2, d3, d4, d5, d6⟩⟩
  · omega
  · have hu : u1 = u := by omega
    subst hu
    obtain ⟨g2, k1, k2⟩ := k
    have k1' : RG B th τ g2 m m' r := fun q a1 a2 => (k1 q a1 a2).fr (Nat.le_refl _) (Nat.le_refl _) (Nat.le_refl _) (by omega) a1 a2 (fun _ _ _ _ _ _ => rfl) (fun _ _ _ => ⟨rfl, rfl⟩)
    obtain ⟨g, j1, ⟨j2, j3, j4, j5, j6, j7, j8, j9⟩, -⟩ := h.els (x := x) (y := 0) k1' hm (fun o j z => e o j (by omega)) hx (by rw [e _ _ (by omega)]; exact d5) (by
      rcases k2 with z | ⟨s, z1, z2, z3, z4, z5, z6⟩
      · exact Or.inl z
      · exact Or.inr ⟨s, z1, z2, z3, z4, z5, fun q => absurd rfl q, fun _ => by omega⟩)
    exact ⟨g, j1, j2, by omega, by omega, j6, j7, j8, j9⟩
