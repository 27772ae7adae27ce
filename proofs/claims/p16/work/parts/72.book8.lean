/-! the reference's Book: the nodes of statements -/
abbrev nI9 (B : Nat) (τ : mv_H) (q : Nat) : Int := (mv_a τ (B + 21) q).toInt
/-- within lo and hi, the statements' ways stay below hi -/
def CLO (B : Nat) (τ : mv_H) (lo hi H : Nat) : Prop := ∀ m, lo ≤ m → m < hi → 14 ≤ nS B τ m → nF B τ m < H ∧ nI9 B τ m < H
def SX (B : Nat) (τ : mv_H) (lo q : Nat) (v : Int32) : Prop := ∃ m : Nat, v.toInt = m ∧ lo ≤ m ∧ m < q ∧ nS B τ m ≤ 12
/-- ranks and beginnings -/
abbrev Gh : Type := (Nat → Nat) × (Nat → Nat)
/-- where a block begins -/
def SB9 (B : Nat) (τ : mv_H) (g : Gh) (q t : Nat) : Prop := t < q ∧ 14 ≤ nS B τ t ∧ g.2 q ≤ g.2 t ∧ g.1 t < g.1 q ∧ g.2 t ≤ t ∧ CLO B τ (g.2 t) q q
def SE9 (B : Nat) (τ : mv_H) (g : Gh) (q t : Nat) : Prop := q < g.2 t ∧ g.2 t ≤ t ∧ 14 ≤ nS B τ t ∧ (¬ mv_a τ (B + 25) q = 0 → nS B τ t = 18 ∧ g.1 t ≤ g.1 q) ∧ (mv_a τ (B + 25) q = 0 → g.1 t < g.1 q)
def SF9 (B : Nat) (τ : mv_H) (g : Gh) (q t : Nat) : Prop := q < g.2 t ∧ g.2 t ≤ t ∧ 14 ≤ nS B τ t ∧ g.1 t ≤ g.1 q ∧ nI9 B τ q < g.2 t ∧ CLO B τ (q + 1) (g.2 t) (g.2 t)
/-- a good node of a statement -/
def SQ (B th : Nat) (τ : mv_H) (g : Gh) (lo q : Nat) : Prop :=
  (14 ≤ nS B τ q ∧ nS B τ q ≤ 18) ∧ lo ≤ g.2 q ∧ g.2 q ≤ q ∧
  (nS B τ q = 14 → (0 ≤ (mv_a τ (B + 19) q).toInt ∧ (mv_a τ (B + 19) q).toInt < 4100) ∧ SX B τ lo q (mv_a τ (B + 20) q)) ∧
  (nS B τ q = 15 ∨ nS B τ q = 16 → (0 ≤ (mv_a τ (B + 19) q).toInt ∧ (mv_a τ (B + 19) q).toInt < th) ∧ SX B τ lo q (mv_a τ (B + 20) q)) ∧
  (nS B τ q = 16 → SX B τ lo q (mv_a τ (B + 21) q)) ∧
  (nS B τ q = 18 → SX B τ lo q (mv_a τ (B + 19) q) ∧ ((mv_a τ (B + 20) q).toInt = -1 ∨ ∃ t : Nat, (mv_a τ (B + 20) q).toInt = t ∧ SB9 B τ g q t) ∧ ((mv_a τ (B + 21) q).toInt = -1 ∨ ∃ t : Nat, (mv_a τ (B + 21) q).toInt = t ∧ SE9 B τ g q t)) ∧
  (nF B τ q = -1 ∨ ∃ t : Nat, nF B τ q = t ∧ SF9 B τ g q t)
/-- a good node -/
def NQ (B th : Nat) (τ : mv_H) (g : Gh) (lo hi r q : Nat) : Prop := (nS B τ q ≤ 12 → XQ B th τ g.1 lo q ∧ g.1 q ≤ 629) ∧ (¬ nS B τ q ≤ 12 → SQ B th τ g lo q ∧ g.1 q ≤ r ∧ nI9 B τ q < hi) ∧ (nF B τ q = -1 ∨ ((q : Int) < nF B τ q ∧ nF B τ q < hi))
def RG (B th : Nat) (τ : mv_H) (g : Gh) (lo hi r : Nat) : Prop := ∀ q, lo ≤ q → q < hi → NQ B th τ g lo hi r q
/-- the ways of a node end below hi -/
theorem RG.end {B th lo hi r q : Nat} {τ : mv_H} {g : Gh} (h : RG B th τ g lo hi r) (a : lo ≤ q) (b : q < hi) : nF B τ q < hi ∧ (14 ≤ nS B τ q → nI9 B τ q < hi) := by
  obtain ⟨h1, h2, h3⟩ := h q a b
  exact ⟨by omega, fun z => (h2 (by omega)).2.2⟩
theorem RG.clo {B th lo hi r m : Nat} {τ : mv_H} {g : Gh} (h : RG B th τ g lo hi r) (a : lo ≤ m) : CLO B τ m hi hi := fun q b c d => ⟨(h.end (by omega) c).1, (h.end (by omega) c).2 d⟩
theorem CLO.fr {B lo hi H : Nat} {τ τ' : mv_H} (h : CLO B τ lo hi H) (e : ∀ o j, B + 18 ≤ o → o ≤ B + 25 → lo ≤ j → j < hi → mv_a τ' o j = mv_a τ o j) : CLO B τ' lo hi H := fun m a b c => by
  have e1 : nS B τ' m = nS B τ m := congrArg Int32.toInt (e _ m (by omega) (by omega) a b)
  have e2 : nF B τ' m = nF B τ m := congrArg Int32.toInt (e _ m (by omega) (by omega) a b)
  have e3 : nI9 B τ' m = nI9 B τ m := congrArg Int32.toInt (e _ m (by omega) (by omega) a b)
  rw [e2, e3]
  exact h m a b (by omega)
/-- nothing that is settled speaks of the ways of w -/
def Free (B : Nat) (τ : mv_H) (g : Gh) (lo hi w : Nat) : Prop := ∀ q, lo ≤ q → q < hi → 14 ≤ nS B τ q → (∀ t : Nat, nS B τ q = 18 → (mv_a τ (B + 20) q).toInt = t → ¬ (g.2 t ≤ w ∧ w < q)) ∧ ∀ t : Nat, nF B τ q = t → ¬ (q < w ∧ w < g.2 t)
theorem RG.free {B th lo hi r w : Nat} {τ : mv_H} {g : Gh} (h : RG B th τ g lo hi r) (hw : w < lo ∨ hi ≤ w) : Free B τ g lo hi w := fun q a b c => by
  obtain ⟨h1, h2, h3⟩ := h q a b
  obtain ⟨h4, -, -⟩ := h2 (by omega)
  obtain ⟨k0, k1, k2, -, -, -, k5, k6⟩ := h4
  refine ⟨fun t z1 z2 z3 => ?_, fun t z1 z2 => ?_⟩
  · have y := (k5 z1).2.1
    clear k5 k6 h1 h2
    rcases y with z | ⟨t', z, y1, y2, y3, y4, y5, y6⟩
    · omega
    · have : t' = t := by omega
      subst this
      omega
  · clear k5 h1 h2
    rcases k6 with z | ⟨t', z, y1, y2, y3⟩
    · omega
    · have : t' = t := by omega
      subst this
      omega
theorem Free.cat {B lo mid hi w : Nat} {τ : mv_H} {g : Gh} (h1 : Free B τ g lo mid w) (h2 : Free B τ g mid hi w) : Free B τ g lo hi w := fun q a b c => by
  by_cases z : q < mid
  · exact h1 q a z c
  · exact h2 q (by omega) b c
/-- the words of nodes, where rows and ghosts agree: from lo to q -/
theorem SQ.fr {B th th' lo lo' q : Nat} {τ τ' : mv_H} {g g' : Gh} (h : SQ B th τ g lo q) (hth : th ≤ th') (hlo : lo' ≤ lo) (hq : lo ≤ q) {hi : Nat} (hhi : q < hi) (hf : nF B τ q < hi) (hc : nI9 B τ q < hi) (e : ∀ o j, B + 18 ≤ o → o ≤ B + 25 → lo ≤ j → j < hi → mv_a τ' o j = mv_a τ o j) (eg : ∀ j, lo ≤ j → j < hi → g'.1 j = g.1 j ∧ g'.2 j = g.2 j) : SQ B th' τ' g' lo' q := by
  have e0 : nS B τ' q = nS B τ q := congrArg Int32.toInt (e _ q (by omega) (by omega) hq hhi)
  have e1 := e (B + 19) q (by omega) (by omega) hq hhi
  have e2 := e (B + 20) q (by omega) (by omega) hq hhi
  have e3 := e (B + 21) q (by omega) (by omega) hq hhi
  have e4 : nF B τ' q = nF B τ q := congrArg Int32.toInt (e _ q (by omega) (by omega) hq hhi)
  have e5 := e (B + 25) q (by omega) (by omega) hq hhi
  have sx : ∀ v : Int32, SX B τ lo q v → SX B τ' lo' q v := fun v ⟨m, a, b, c, d⟩ => ⟨m, a, by omega, c, by
    show (mv_a τ' (B + 18) m).toInt ≤ 12
    rw [e _ m (by omega) (by omega) b (by omega)]
    exact d⟩
  obtain ⟨h0, h1, h2, h3, h4, h5, h6, h7⟩ := h
  have s0 : ∀ t, lo ≤ t → t < hi → nS B τ' t = nS B τ t := fun t a b => congrArg Int32.toInt (e _ t (by omega) (by omega) a b)
  have g0 := eg q hq hhi
  unfold SQ
  rw [e0, e1, e2, e3, e4, g0.2]
  refine ⟨h0, by omega, h2, fun z => ⟨(h3 z).1, sx _ (h3 z).2⟩, fun z => ⟨⟨(h4 z).1.1, by have := (h4 z).1.2; omega⟩, sx _ (h4 z).2⟩, fun z => sx _ (h5 z), fun z => ⟨sx _ (h6 z).1, ?_, ?_⟩, ?_⟩
  · rcases (h6 z).2.1 with y | ⟨t, y, y1, y2, y3, y4, y5, y6⟩
    · exact Or.inl y
    · have gt := eg t (by omega) (by omega)
      refine Or.inr ⟨t, y, y1, by rw [s0 t (by omega) (by omega)]; exact y2, by rw [gt.2, g0.2]; exact y3, by rw [gt.1, g0.1]; exact y4, by rw [gt.2]; exact y5, ?_⟩
      rw [gt.2]
      exact y6.fr (fun o j a b c d => e o j a b (by omega) (by omega))
  · rcases (h6 z).2.2 with y | ⟨t, y, y1, y2, y3, y4, y5⟩
    · exact Or.inl y
    · have hc : (mv_a τ (B + 21) q).toInt < hi := hc
      have gt := eg t (by omega) (by omega)
      refine Or.inr ⟨t, y, by rw [gt.2]; exact y1, by rw [gt.2]; exact y2, by rw [s0 t (by omega) (by omega)]; exact y3, ?_, ?_⟩
      · rw [e5, s0 t (by omega) (by omega), gt.1, g0.1]
        exact y4
      · rw [e5, gt.1, g0.1]
        exact y5
  · rcases h7 with y | ⟨t, y, y1, y2, y3, y4, y5, y6⟩
    · exact Or.inl y
    · have gt := eg t (by omega) (by omega)
      refine Or.inr ⟨t, y, by rw [gt.2]; exact y1, by rw [gt.2]; exact y2, by rw [s0 t (by omega) (by omega)]; exact y3, by rw [gt.1, g0.1]; exact y4, ?_, ?_⟩
      · show (mv_a τ' (B + 21) q).toInt < _
        rw [e3, gt.2]
        exact y5
      · rw [gt.2]
        exact y6.fr (fun o j a b c d => e o j a b (by omega) (by omega))
theorem NQ.fr {B th th' lo lo' hi hi' r r' q : Nat} {τ τ' : mv_H} {g g' : Gh} (h : NQ B th τ g lo hi r q) (hth : th ≤ th') (hlo : lo' ≤ lo) (hhi : hi ≤ hi') (hr : r ≤ r') (a : lo ≤ q) (b : q < hi) (e : ∀ o j, B + 18 ≤ o → o ≤ B + 25 → lo ≤ j → j < hi → mv_a τ' o j = mv_a τ o j) (eg : ∀ j, lo ≤ j → j < hi → g'.1 j = g.1 j ∧ g'.2 j = g.2 j) : NQ B th' τ' g' lo' hi' r' q := by
  have e0 : nS B τ' q = nS B τ q := congrArg Int32.toInt (e _ q (by omega) (by omega) a b)
  have e3 : nI9 B τ' q = nI9 B τ q := congrArg Int32.toInt (e _ q (by omega) (by omega) a b)
  have e4 : nF B τ' q = nF B τ q := congrArg Int32.toInt (e _ q (by omega) (by omega) a b)
  obtain ⟨h1, h2, h3⟩ := h
  unfold NQ
  rw [e0, e3, e4, (eg q a b).1]
  refine ⟨fun z => ⟨(h1 z).1.fr hth hlo a (fun o j a1 a2 a3 a4 => e o j a1 (by omega) a3 (by omega)) (fun j a1 a2 => e _ j (by omega) (by omega) a1 (by omega)) (fun j a1 a2 => (eg j a1 (by omega)).1), (h1 z).2⟩, fun z => ?_, by omega⟩
  obtain ⟨k1, k2, k3⟩ := h2 z
  exact ⟨k1.fr hth hlo a b (by omega) k3 e eg, by omega, by omega⟩
theorem RG.fr {B th th' l1 lo hi r r' : Nat} {τ τ' : mv_H} {g g' : Gh} (h : RG B th τ g lo hi r) (hth : th ≤ th') (hl : l1 ≤ lo) (hr : r ≤ r') (e : ∀ o j, B + 18 ≤ o → o ≤ B + 25 → lo ≤ j → j < hi → mv_a τ' o j = mv_a τ o j) (eg : ∀ j, lo ≤ j → j < hi → g'.1 j = g.1 j ∧ g'.2 j = g.2 j) : ∀ q, lo ≤ q → q < hi → NQ B th' τ' g' l1 hi r' q := fun q a b => (h q a b).fr hth hl (Nat.le_refl _) hr a b e eg
theorem Free.fr {B th lo hi r w : Nat} {τ τ' : mv_H} {g g' : Gh} (h : Free B τ g lo hi w) (hG : RG B th τ g lo hi r) (e : ∀ o j, B + 18 ≤ o → o ≤ B + 25 → lo ≤ j → j < hi → mv_a τ' o j = mv_a τ o j) (eg : ∀ j, lo ≤ j → j < hi → g'.1 j = g.1 j ∧ g'.2 j = g.2 j) : Free B τ' g' lo hi w := fun q a b c => by
  have e0 : nS B τ' q = nS B τ q := congrArg Int32.toInt (e _ q (by omega) (by omega) a b)
  have e4 : nF B τ' q = nF B τ q := congrArg Int32.toInt (e _ q (by omega) (by omega) a b)
  have e2 := e (B + 20) q (by omega) (by omega) a b
  obtain ⟨h1, h2⟩ := h q a b (by omega)
  obtain ⟨k1, k2, k3⟩ := hG q a b
  have k4 := (k2 (by omega)).1
  refine ⟨fun t z1 z2 => ?_, fun t z1 => ?_⟩
  · rw [e0] at z1
    rw [e2] at z2
    have y := (k4.2.2.2.2.2.2.1 z1).2.1
    rcases y with y | ⟨t', y, y1, y2, y3, y4, y5, y6⟩
    · omega
    · have : t' = t := by omega
      subst this
      have := k4.2.1
      rw [(eg t' (by omega) (by omega)).2]
      exact h1 t' z1 z2
  · rw [e4] at z1
    rw [(eg t (by omega) (by omega)).2]
    exact h2 t z1
/-- stretches side by side -/
def gcat (mid : Nat) (g1 g2 : Gh) : Gh := (fun q => if q < mid then g1.1 q else g2.1 q, fun q => if q < mid then g1.2 q else g2.2 q)
theorem gcat_1 {mid : Nat} {g1 g2 : Gh} {q : Nat} (h : q < mid) : (gcat mid g1 g2).1 q = g1.1 q ∧ (gcat mid g1 g2).2 q = g1.2 q := ⟨if_pos h, if_pos h⟩
theorem gcat_2 {mid : Nat} {g1 g2 : Gh} {q : Nat} (h : ¬ q < mid) : (gcat mid g1 g2).1 q = g2.1 q ∧ (gcat mid g1 g2).2 q = g2.2 q := ⟨if_neg h, if_neg h⟩
theorem RG.cat {B th lo mid hi r1 r2 r : Nat} {τ : mv_H} {g1 g2 : Gh} (h1 : RG B th τ g1 lo mid r1) (h2 : RG B th τ g2 mid hi r2) (a1 : lo ≤ mid) (a2 : mid ≤ hi) (b1 : r1 ≤ r) (b2 : r2 ≤ r) : RG B th τ (gcat mid g1 g2) lo hi r := fun q a b => by
  by_cases z : q < mid
  · exact (h1 q a z).fr (Nat.le_refl _) (Nat.le_refl _) a2 b1 a z (fun _ _ _ _ _ _ => rfl) (fun j _ d => gcat_1 d)
  · exact (h2 q (by omega) b).fr (Nat.le_refl _) a1 (Nat.le_refl _) b2 (by omega) b (fun _ _ _ _ _ _ => rfl) (fun j d _ => gcat_2 (by omega))
theorem RG.ofX {B th lo hi R r : Nat} {τ : mv_H} (h : XR B th τ lo hi R) (hR : R ≤ 629) : ∃ g, RG B th τ g lo hi r := by
  obtain ⟨ρ, h⟩ := h
  refine ⟨(ρ, fun q => q), fun q a b => ?_⟩
  obtain ⟨h1, h2, h3⟩ := h q a b
  exact ⟨fun _ => ⟨h1, show ρ q ≤ 629 by omega⟩, fun z => absurd h1.1.2 z, h3⟩
theorem RG.nil {B th n r : Nat} {τ : mv_H} {g : Gh} : RG B th τ g n n r := fun q a b => by omega
/-- a new statement's node behind a good stretch -/
theorem RG.new {B th lo hi r : Nat} {τ : mv_H} {g : Gh} {s x y z w : Int32} (h : RG B th τ g lo hi r) (hlo : lo ≤ hi) (hn : (mv_i τ B 48).toNatClampNeg = hi) (hs : 14 ≤ s.toInt) (hz : z.toInt < ((hi + 1 : Nat) : Int))
    (hq : ∀ (υ : mv_H) (g' : Gh), (∀ o j, j < hi → mv_a υ o j = mv_a τ o j) → (∀ j, j < hi → g'.1 j = g.1 j ∧ g'.2 j = g.2 j) → g'.1 hi = r → g'.2 hi = lo → mv_a υ (B + 18) hi = s → mv_a υ (B + 19) hi = x → mv_a υ (B + 20) hi = y → mv_a υ (B + 21) hi = z → mv_a υ (B + 22) hi = -1 → SQ B th υ g' lo hi) :
    ∃ g' : Gh, RG B th (nd B τ s x y z w) g' lo (hi + 1) r ∧ g'.1 hi = r ∧ g'.2 hi = lo ∧ ∀ j, j < hi → g'.1 j = g.1 j ∧ g'.2 j = g.2 j := by
  have hv := nd_v (s := s) (x := x) (y := y) (z := z) (w := w) hn
  have hg1 : ∀ j, j < hi → ((fun j => if j = hi then r else g.1 j, fun j => if j = hi then lo else g.2 j) : Gh).1 j = g.1 j ∧ ((fun j => if j = hi then r else g.1 j, fun j => if j = hi then lo else g.2 j) : Gh).2 j = g.2 j := fun j hj => ⟨if_neg (by omega), if_neg (by omega)⟩
  refine ⟨(fun j => if j = hi then r else g.1 j, fun j => if j = hi then lo else g.2 j), fun q a b => ?_, if_pos rfl, if_pos rfl, hg1⟩
  by_cases e : q = hi
  · subst e
    have es : nS B (nd B τ s x y z w) q = s.toInt := congrArg Int32.toInt hv.1
    refine ⟨fun z => by omega, fun _ => ⟨hq _ _ (fun o j hj => nd_o (by rw [hn]; omega)) hg1 (if_pos rfl) (if_pos rfl) hv.1 hv.2.1 hv.2.2.1 hv.2.2.2.1 hv.2.2.2.2.1, Nat.le_of_eq (if_pos rfl), ?_⟩, Or.inl ?_⟩
    · show (mv_a _ (B + 21) q).toInt < _
      rw [hv.2.2.2.1]
      omega
    · show (mv_a _ (B + 22) q).toInt = -1
      rw [hv.2.2.2.2.1]
      rfl
  · exact (h q a (by omega)).fr (Nat.le_refl _) (Nat.le_refl _) (by omega) (Nat.le_refl _) a (by omega) (fun o j _ _ _ hj => nd_o (by rw [hn]; omega)) (fun j _ hj => hg1 j hj)
theorem SX.of {B th lo q l1 h1 r : Nat} {τ υ : mv_H} {g : Gh} {v : Int32} (h : RG B th τ g l1 h1 r) (hx : ∀ j, l1 ≤ j → j < h1 → nS B τ j ≤ 12) (hv : v.toInt + 1 = h1) (a1 : l1 < h1) (a2 : h1 ≤ q) (hl : lo ≤ l1) (e : ∀ o j, j < q → mv_a υ o j = mv_a τ o j) : SX B υ lo q v := by
  refine ⟨h1 - 1, by omega, by omega, by omega, ?_⟩
  show (mv_a υ (B + 18) (h1 - 1)).toInt ≤ 12
  rw [e _ _ (by omega)]
  exact hx _ (by omega) (by omega)
theorem XR.all {B th lo hi R : Nat} {τ : mv_H} (h : XR B th τ lo hi R) : ∀ j, lo ≤ j → j < hi → nS B τ j ≤ 12 := by
  obtain ⟨ρ, h⟩ := h
  exact fun j a b => (h j a b).1.1.2
/-- what a statement leaves: its first node v, which no way has left yet -/
def SR (B th : Nat) (τ : mv_H) (n n' r : Nat) (v : Nat) : Prop := ∃ g : Gh, RG B th τ g n n' r ∧ n ≤ v ∧ v < n' ∧ 14 ≤ nS B τ v ∧ g.2 v = n ∧ g.1 v = r ∧ nF B τ v = -1 ∧ Free B τ g n n' v
/-- what a block leaves -/
def BR (B th : Nat) (τ : mv_H) (n n' r : Nat) (v : Int) : Prop := ∃ g : Gh, RG B th τ g n n' r ∧ (v = -1 ∨ ∃ t : Nat, v = t ∧ n ≤ t ∧ t < n' ∧ 14 ≤ nS B τ t ∧ g.2 t = n ∧ g.1 t = r)
theorem SR.fr {B th n n' r v : Nat} {τ τ' : mv_H} (h : SR B th τ n n' r v) (e : ∀ o j, B + 18 ≤ o → o ≤ B + 25 → n ≤ j → j < n' → mv_a τ' o j = mv_a τ o j) : SR B th τ' n n' r v := by
  obtain ⟨g, h1, h2, h3, h4, h5, h6, h7, h8⟩ := h
  refine ⟨g, h1.fr (Nat.le_refl _) (Nat.le_refl _) (Nat.le_refl _) e (fun _ _ _ => ⟨rfl, rfl⟩), h2, h3, ?_, h5, h6, ?_, h8.fr h1 e (fun _ _ _ => ⟨rfl, rfl⟩)⟩
  · show 14 ≤ (mv_a τ' (B + 18) v).toInt
    rw [e _ v (by omega) (by omega) h2 h3]
    exact h4
  · show (mv_a τ' (B + 22) v).toInt = -1
    rw [e _ v (by omega) (by omega) h2 h3]
    exact h7
theorem BR.fr {B th n n' r : Nat} {v : Int} {τ τ' : mv_H} (h : BR B th τ n n' r v) (e : ∀ o j, B + 18 ≤ o → o ≤ B + 25 → n ≤ j → j < n' → mv_a τ' o j = mv_a τ o j) : BR B th τ' n n' r v := by
  obtain ⟨g, h1, h2⟩ := h
  refine ⟨g, h1.fr (Nat.le_refl _) (Nat.le_refl _) (Nat.le_refl _) e (fun _ _ _ => ⟨rfl, rfl⟩), ?_⟩
  rcases h2 with h2 | ⟨t, a, b, c, d, f⟩
  · exact Or.inl h2
  · refine Or.inr ⟨t, a, b, c, ?_, f⟩
    show 14 ≤ (mv_a τ' (B + 18) t).toInt
    rw [e _ t (by omega) (by omega) b c]
    exact d
/-- the new node alone is free -/
theorem RG.newFree {B th lo hi r : Nat} {τ : mv_H} {g : Gh} (h : RG B th τ g lo (hi + 1) r) (hf : nF B τ hi = -1) : Free B τ g lo (hi + 1) hi := fun q a b c => by
  by_cases e : q = hi
  · subst e
    exact ⟨fun t _ _ z => by omega, fun t z1 z2 => by omega⟩
  · obtain ⟨h1, h2, h3⟩ := h q a b
    refine ⟨fun t _ _ z => by omega, fun t z1 z2 => ?_⟩
    rcases (h2 (by omega)).1.2.2.2.2.2.2.2 with y | ⟨t', y, y1, y2, -⟩
    · omega
    · have : t' = t := by omega
      subst this
      omega
/-- let, an assignment, a trap -/
theorem SR.set {B th lo hi r : Nat} {τ : mv_H} {s x y z w : Int32} {g : Gh} (h : RG B th τ g lo hi r) (hlo : lo ≤ hi) (hn : (mv_i τ B 48).toNatClampNeg = hi) (hz : z.toInt < ((hi + 1 : Nat) : Int))
    (hs : (s.toInt = 14 ∧ (0 ≤ x.toInt ∧ x.toInt < 4100) ∧ SX B τ lo hi y) ∨ ((s.toInt = 15 ∨ s.toInt = 16) ∧ (0 ≤ x.toInt ∧ x.toInt < th) ∧ SX B τ lo hi y ∧ (s.toInt = 16 → SX B τ lo hi z)) ∨ s.toInt = 17) : SR B th (nd B τ s x y z w) lo (hi + 1) r hi := by
  have sx : ∀ (υ : mv_H) (v : Int32), (∀ o j, j < hi → mv_a υ o j = mv_a τ o j) → SX B τ lo hi v → SX B υ lo hi v := fun υ v e ⟨m, a, b, c, d⟩ => ⟨m, a, b, c, by
    show (mv_a υ (B + 18) m).toInt ≤ 12
    rw [e _ m c]
    exact d⟩
  obtain ⟨g', k1, k2, k3, -⟩ := RG.new (s := s) (x := x) (y := y) (z := z) (w := w) h hlo hn (by omega) hz (fun υ g' e eg er el e1 e2 e3 e4 e5 => by
    have es : nS B υ hi = s.toInt := congrArg Int32.toInt e1
    have ef : nF B υ hi = -1 := (congrArg Int32.toInt e5).trans rfl
    unfold SQ
    rw [es, e2, e3, e4, ef, el]
    refine ⟨by omega, Nat.le_refl _, hlo, fun q => ?_, fun q => ?_, fun q => ?_, fun q => by omega, Or.inl rfl⟩
    · rcases hs with hs | hs | hs
      · exact ⟨hs.2.1, sx υ _ e hs.2.2⟩
      · omega
      · omega
    · rcases hs with hs | hs | hs
      · omega
      · exact ⟨hs.2.1, sx υ _ e hs.2.2.1⟩
      · omega
    · rcases hs with hs | hs | hs
      · omega
      · exact sx υ _ e (hs.2.2.2 q)
      · omega)
  have hv := nd_v (s := s) (x := x) (y := y) (z := z) (w := w) hn
  have es : nS B (nd B τ s x y z w) hi = s.toInt := congrArg Int32.toInt hv.1
  have ef : nF B (nd B τ s x y z w) hi = -1 := (congrArg Int32.toInt hv.2.2.2.2.1).trans rfl
  exact ⟨g', k1, hlo, Nat.lt_succ_self _, by omega, k3, k2, ef, k1.newFree ef⟩
/-- the end of a block, so far -/
def BI (B th : Nat) (τ : mv_H) (n n' r : Nat) (v w : Int) : Prop := (v = -1 ∧ w = -1 ∧ n' = n) ∨ ∃ (g : Gh) (t u : Nat), v = t ∧ w = u ∧ RG B th τ g n n' r ∧ (n ≤ t ∧ t < n' ∧ 14 ≤ nS B τ t ∧ g.2 t = n ∧ g.1 t = r) ∧ (n ≤ u ∧ u < n' ∧ 14 ≤ nS B τ u ∧ g.1 u = r ∧ nF B τ u = -1 ∧ Free B τ g n n' u)
theorem BI.fr {B th n n' r : Nat} {v w : Int} {τ τ' : mv_H} (h : BI B th τ n n' r v w) (e : ∀ o j, B + 18 ≤ o → o ≤ B + 25 → n ≤ j → j < n' → mv_a τ' o j = mv_a τ o j) : BI B th τ' n n' r v w := by
  rcases h with h | ⟨g, t, u, a, b, h1, ⟨c1, c2, c3, c4⟩, ⟨d1, d2, d3, d4, d5, d6⟩⟩
  · exact Or.inl h
  · refine Or.inr ⟨g, t, u, a, b, h1.fr (Nat.le_refl _) (Nat.le_refl _) (Nat.le_refl _) e (fun _ _ _ => ⟨rfl, rfl⟩), ⟨c1, c2, ?_, c4⟩, ⟨d1, d2, ?_, d4, ?_, d6.fr h1 e (fun _ _ _ => ⟨rfl, rfl⟩)⟩⟩
    · show 14 ≤ (mv_a τ' (B + 18) t).toInt
      rw [e _ t (by omega) (by omega) c1 c2]
      exact c3
    · show 14 ≤ (mv_a τ' (B + 18) u).toInt
      rw [e _ u (by omega) (by omega) d1 d2]
      exact d3
    · show (mv_a τ' (B + 22) u).toInt = -1
      rw [e _ u (by omega) (by omega) d1 d2]
      exact d5
theorem BI.br {B th n n' r : Nat} {v w : Int} {τ : mv_H} (h : BI B th τ n n' r v w) : BR B th τ n n' r v := by
  rcases h with ⟨h1, h2, h3⟩ | ⟨g, t, u, a, b, h1, c, d⟩
  · subst h3
    exact ⟨(fun _ => 0, fun _ => 0), RG.nil, Or.inl h1⟩
  · exact ⟨g, h1, Or.inr ⟨t, a, c⟩⟩
theorem BI.one {B th n n' r v : Nat} {τ : mv_H} (h : SR B th τ n n' r v) : BI B th τ n n' r v v := by
  obtain ⟨g, h1, h2, h3, h4, h5, h6, h7, h8⟩ := h
  exact Or.inr ⟨g, v, v, rfl, rfl, h1, ⟨h2, h3, h4, h5, h6⟩, ⟨h2, h3, h4, h6, h7, h8⟩⟩
