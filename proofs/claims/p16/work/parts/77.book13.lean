/-! the reference's Book: between the items -/
def csum (f : Nat → Int32) : Nat → Int
  | 0 => 0
  | n + 1 => csum f n + (f n).toInt
theorem csum_con {f g : Nat → Int32} : ∀ n, (∀ i, i < n → f i = g i) → csum f n = csum g n := by
  intro n
  induction n with
  | zero => intro _; rfl
  | succ n ih =>
    intro h
    show csum f n + _ = csum g n + _
    rw [ih (fun i hi => h i (by omega)), h n (by omega)]
theorem csum_mono {f : Nat → Int32} {n : Nat} (h : ∀ i, i < n → 0 ≤ (f i).toInt) : ∀ m, m ≤ n → 0 ≤ csum f m ∧ csum f m ≤ csum f n := by
  have up : ∀ k m, m + k = n → csum f m ≤ csum f n := by
    intro k
    induction k with
    | zero => intro m e; rw [Nat.add_zero] at e; subst e; exact Int.le_refl _
    | succ k ih =>
      intro m e
      have := ih (m + 1) (by omega)
      have h2 := h m (by omega)
      have : csum f (m + 1) = csum f m + (f m).toInt := rfl
      omega
  have lo : ∀ m, m ≤ n → 0 ≤ csum f m := by
    intro m
    induction m with
    | zero => intro _; exact Int.le_refl _
    | succ m ih =>
      intro e
      have := ih (by omega)
      have := h m (by omega)
      have : csum f (m + 1) = csum f m + (f m).toInt := rfl
      omega
  exact fun m hm => ⟨lo m hm, up (n - m) m (by omega)⟩
/-- an op's body: nothing, or a block -/
def OB (B : Nat) (τ : mv_H) (g : Gh) (n : Nat) (v : Int32) : Prop := v.toInt = -1 ∨ ∃ t H : Nat, v.toInt = t ∧ t < H ∧ H ≤ n ∧ 14 ≤ nS B τ t ∧ g.2 t ≤ t ∧ g.1 t ≤ 61 ∧ CLO B τ (g.2 t) H H
theorem OB.fr {B n n' : Nat} {τ τ' : mv_H} {g g' : Gh} {v : Int32} (h : OB B τ g n v) (hn : n ≤ n') (e : ∀ o j, B + 18 ≤ o → o ≤ B + 25 → j < n → mv_a τ' o j = mv_a τ o j) (eg : ∀ j, j < n → g'.1 j = g.1 j ∧ g'.2 j = g.2 j) : OB B τ' g' n' v := by
  rcases h with h | ⟨t, H, h1, h2, h3, h4, h5, h6, h7⟩
  · exact Or.inl h
  · have gt := eg t (by omega)
    refine Or.inr ⟨t, H, h1, h2, by omega, ?_, by rw [gt.2]; exact h5, by rw [gt.1]; exact h6, ?_⟩
    · show 14 ≤ (mv_a τ' (B + 18) t).toInt
      rw [e _ t (by omega) (by omega) (by omega)]
      exact h4
    · rw [gt.2]
      exact h7.fr (fun o j a b _ d => e o j a b (by omega))
/-- nodes and ops, while no fault is told -/
def GN (B th n k : Nat) (S : mv_H) : Prop := ∃ g : Gh, RG B th S g 0 n 61 ∧ ∀ i, i < k → OB B S g n (mv_a S (B + 11) i)
theorem GN.fr {B th th' n k : Nat} {S T : mv_H} (h : GN B th n k S) (hth : th ≤ th') (e : ∀ o j, B + 18 ≤ o → o ≤ B + 25 → j < n → mv_a T o j = mv_a S o j) (e2 : ∀ j, j < k → mv_a T (B + 11) j = mv_a S (B + 11) j) : GN B th' n k T := by
  obtain ⟨g, h1, h2⟩ := h
  exact ⟨g, h1.fr hth (Nat.le_refl _) (Nat.le_refl _) (fun o j a b _ d => e o j a b d) (fun _ _ _ => ⟨rfl, rfl⟩), fun i hi => by rw [e2 i hi]; exact (h2 i hi).fr (Nat.le_refl _) e (fun _ _ => ⟨rfl, rfl⟩)⟩
/-- a new op -/
theorem GN.op {B th n n' k : Nat} {S T : mv_H} {v : Int32} (h : GN B th n k S) (hn : n ≤ n') (e : ∀ o j, B + 18 ≤ o → o ≤ B + 25 → j < n → mv_a T o j = mv_a S o j) (e2 : ∀ j, j < k → mv_a T (B + 11) j = mv_a S (B + 11) j) (e3 : mv_a T (B + 11) k = v) (hb : BR B th T n n' 61 v.toInt) : GN B th n' (k + 1) T := by
  obtain ⟨g1, h1, h2⟩ := h
  obtain ⟨g2, k1, k2⟩ := hb
  have h1' : RG B th T g1 0 n 61 := h1.fr (Nat.le_refl _) (Nat.le_refl _) (Nat.le_refl _) (fun o j a b _ d => e o j a b d) (fun _ _ _ => ⟨rfl, rfl⟩)
  refine ⟨gcat n g1 g2, h1'.cat k1 (Nat.zero_le _) hn (Nat.le_refl _) (Nat.le_refl _), fun i hi => ?_⟩
  by_cases z : i = k
  · subst z
    rw [e3]
    rcases k2 with y | ⟨t, y1, y2, y3, y4, y5, y6⟩
    · exact Or.inl y
    · have gt := gcat_2 (mid := n) (g1 := g1) (g2 := g2) (q := t) (by omega)
      refine Or.inr ⟨t, n', y1, y3, Nat.le_refl _, y4, by rw [gt.2]; omega, by rw [gt.1]; omega, ?_⟩
      rw [gt.2, y5]
      exact k1.clo (Nat.le_refl _)
  · rw [e2 i (by omega)]
    exact (h2 i (by omega)).fr hn e (fun j hj => gcat_1 hj)
/-- a thing's cells: a file has one at least -/
def TC (B : Nat) (S : mv_H) (t : Nat) : Prop := 0 ≤ (mv_a S (B + 4) t).toInt ∧ (¬ mv_a S (B + 6) t = 0 → 1 ≤ (mv_a S (B + 4) t).toInt)
theorem TC.fr {B t : Nat} {S T : mv_H} (h : TC B S t) (e4 : mv_a T (B + 4) t = mv_a S (B + 4) t) (e6 : mv_a T (B + 6) t = mv_a S (B + 6) t) : TC B T t := by
  unfold TC
  rw [e4, e6]
  exact h
/-- the rest that holds while no fault is told -/
def IG (B th n k cb : Nat) (S : mv_H) : Prop := GN B th n k S ∧ (8 ≤ (mv_i S B 20).toInt ∧ (mv_i S B 20).toInt ≤ 64) ∧ (∀ i, i < k → 0 ≤ (mv_a S (B + 10) i).toInt ∧ (mv_a S (B + 10) i).toInt + (mv_i S B 20).toInt ≤ cb) ∧ csum (mv_a S (B + 4)) th = (mv_i S B 19).toInt ∧ ∀ t, t < th → TC B S t
def IC (B len : Nat) (S : mv_H) (th n k cb : Nat) : Prop := NT B len S ∧ (mv_i S B 17).toInt = th ∧ (mv_i S B 48).toInt = n ∧ (mv_i S B 29).toInt = k ∧ (mv_i S B 51).toInt = cb ∧ (∀ i, i < k → Sp len (mv_a S (B + 8) i) (mv_a S (B + 9) i)) ∧ (0 ≤ (mv_i S B 19).toInt ∧ (mv_i S B 19).toInt ≤ 65536) ∧ (mv_i S B 18 = -1 ∨ ((0 ≤ (mv_i S B 18).toInt ∧ (mv_i S B 18).toInt < th) ∧ 0 ≤ (mv_i S B 21).toInt ∧ (mv_i S B 21).toInt < th)) ∧ ((mv_i S B 38).toInt ≤ 0 → IG B th n k cb S)
/-- a header: tokens, faults, depth, name -/
def HF (B : Nat) : mv_H → mv_H → Prop := Fx (fun o k => (o = B ∧ ((3 ≤ k ∧ k ≤ 8) ∨ k = 37 ∨ k = 38 ∨ k = 49 ∨ k = 50)) ∨ (o = B + 33 ∧ k = 0)) (fun o k => o = B ∧ k = 9) (fun _ _ => False) (fun _ => False)
theorem TF.hf {B : Nat} {σ τ : mv_H} (h : TF B σ τ) : HF B σ τ := h.up (fun o k z => by omega) (fun o k z => z) (fun o k z => z) (fun o z => z)
theorem HF.bf {B : Nat} {σ τ : mv_H} (h : HF B σ τ) : BF B σ τ := h.up (fun o k z => by omega) (fun o k z => by omega) (fun o k z => absurd z id) (fun o z => absurd z id)
theorem IC.hf {B len th n k cb : Nat} {S T : mv_H} (h : IC B len S th n k cb) (f : HF B S T) (z : (mv_i T B 38).toInt ≤ 0 → (mv_i S B 38).toInt ≤ 0) : IC B len T th n k cb := by
  have ea : ∀ o j, mv_a T o j = mv_a S o j := fun o j => f.2.2.2.1 o j id
  have ef : ∀ o, mv_a T o = mv_a S o := fun o => funext (ea o)
  have ei : ∀ k, (k = 17 ∨ k = 18 ∨ k = 19 ∨ k = 20 ∨ k = 21 ∨ k = 29 ∨ k = 48 ∨ k = 51) → mv_i T B k = mv_i S B k := fun k hk => f.1 _ _ (by omega)
  obtain ⟨h1, h2, h3, h4, h5, h6, h7, h8, h9⟩ := h
  refine ⟨h1.fr (ei 17 (by omega)) (fun t _ => ⟨ea _ _, ea _ _⟩), by rw [ei 17 (by omega)]; exact h2, by rw [ei 48 (by omega)]; exact h3, by rw [ei 29 (by omega)]; exact h4, by rw [ei 51 (by omega)]; exact h5, fun i hi => by rw [ea, ea]; exact h6 i hi, by rw [ei 19 (by omega)]; exact h7, by rw [ei 18 (by omega), ei 21 (by omega)]; exact h8, fun q => ?_⟩
  obtain ⟨k1, k2, k3, k4, k5⟩ := h9 (z q)
  refine ⟨k1.fr (Nat.le_refl _) (fun o j _ _ _ => ea o j) (fun j _ => ea _ _), by rw [ei 20 (by omega)]; exact k2, fun i hi => by rw [ea, ei 20 (by omega)]; exact k3 i hi, by rw [ef, ei 19 (by omega)]; exact k4, fun t ht => (k5 t ht).fr (ea _ _) (ea _ _)⟩
/-- the reader between items, since σ -/
def ZT (B len : Nat) (σ S : mv_H) (th n k cb d b1 b2 : Nat) : Prop := Tq B len S S b1 b2 ∧ (mv_i S B 8).toInt = d ∧ n ≤ b1 ∧ 3 * k ≤ b1 ∧ cb ≤ b1 ∧ IC B len S th n k cb ∧ BF B σ S
section ZTX
variable {B len th n k cb d b1 b2 : Nat} {σ S T : mv_H}
theorem ZT.w (h : ZT B len σ S th n k cb d b1 b2) (hk : ¬ (mv_i S B 4 = 0 ∨ mv_i S B 4 = -1)) : b1 < b2 := by
  rcases h.1.2.2.2.2.1 with z | z | z
  · exact absurd (Or.inl z) hk
  · exact absurd (Or.inr z) hk
  · exact z
theorem ZT.hf {c1 c2 d' : Nat} (h : ZT B len σ S th n k cb d b1 b2) (g : Tq B len T T c1 c2) (hb : b1 ≤ c1) (f : HF B S T) (hd : (mv_i T B 8).toInt = d') (z : (mv_i T B 38).toInt ≤ 0 → (mv_i S B 38).toInt ≤ 0) : ZT B len σ T th n k cb d' c1 c2 := by
  obtain ⟨h1, h2, h3, h4, h5, h6, h7⟩ := h
  exact ⟨g, hd, by omega, by omega, by omega, h6.hf f z, h7.tr f.bf⟩
theorem ZT.pass {c1 c2 : Nat} (h : ZT B len σ S th n k cb d b1 b2) (g : Tq B len S T c1 c2) (hb : b2 ≤ c1) : ZT B len σ T th n k cb d c1 c2 := by
  have h1 := h.1.2.2.1
  exact h.hf g.re (by omega) g.1.1.tf.hf (by rw [g.1.1.1 _ _ (by omega) (by omega)]; exact h.2.1) (fun z => by rw [g.bn] at z; exact z)
theorem ZT.dep {d' : Nat} {v : Int32} (h : ZT B len σ S th n k cb d b1 b2) (hv : v.toInt = d') : ZT B len σ (mv_si S B 8 v) th n k cb d' b1 b2 :=
  h.hf (h.1.keep (fun k h1 h2 => mv_si_o _ _ (by omega)) rfl) (Nat.le_refl _) (Fx.rf.si (by omega)) (by rw [mv_si_s]; exact hv) (fun z => by rw [mv_si_o _ _ (by omega)] at z; exact z)
theorem ZT.ft (h : ZT B len σ S th n k cb d b1 b2) (g : FT B S T) : ZT B len σ T th n k cb d b1 b2 :=
  h.hf (h.1.keep (fun k h1 h2 => g.2.1 k (by omega)) g.1.2.2.1) (Nat.le_refl _) g.1.hf (by rw [g.2.1 8 (by omega)]; exact h.2.1) g.2.2
theorem ZT.name {c1 c2 : Nat} {v w : Int32} (h : ZT B len σ S th n k cb d b1 b2) (g : Tq B len T T c1 c2) (hb : b2 ≤ c1) (y : TkB B (mv_si (mv_si S B 49 v) B 50 w) T) : ZT B len σ T th n k cb d c1 c2 := by
  have h1 := h.1.2.2.1
  have f : HF B S T := Fx.tr ((Fx.rf.si (by omega)).si (by omega)) y.tf.hf
  have ei : ∀ k, (k = 8 ∨ k = 38) → mv_i T B k = mv_i S B k := fun k hk => (y.1 B k (by omega) (by omega)).trans ((mv_si_o _ _ (by omega)).trans (mv_si_o _ _ (by omega)))
  exact h.hf g (by omega) f (by rw [ei 8 (by omega)]; exact h.2.1) (fun z => by rw [ei 38 (by omega)] at z; exact z)
theorem ZT.rng {c1 c2 : Nat} (h : ZT B len σ S th n k cb d b1 b2) (g : Tq B len T T c1 c2) (hb : b2 ≤ c1) (f : TF B S T) (z : (mv_i T B 38).toInt ≤ 0 → (mv_i S B 38).toInt ≤ 0) : ZT B len σ T th n k cb d c1 c2 := by
  have h1 := h.1.2.2.1
  exact h.hf g (by omega) f.hf (by rw [f.1 _ _ (by omega)]; exact h.2.1) z
theorem ZT.R (h : ZT B len σ S th n k cb d b1 b2) : Br B (mv_r S) := h.1.1.2.1
theorem ZT.up (h : ZT B len σ S th n k cb d b1 b2) (hd : d ≤ 61) : (mv_i S B 8 + 1).toInt = ((d + 1 : Nat) : Int) := by
  have := h.2.1
  rw [i32_inc (by omega)]
  omega
theorem ZT.dn (h : ZT B len σ S th n k cb (d + 1) b1 b2) : (mv_i S B 8 - 1).toInt = (d : Int) := by
  have := h.2.1
  rw [sub_one (by omega)]
  omega
theorem ZT.le (h : ZT B len σ S th n k cb d b1 b2) : n ≤ b1 ∧ 3 * k ≤ b1 ∧ cb ≤ b1 ∧ b1 ≤ b2 ∧ b2 ≤ len ∧ len ≤ 10240 ∧ (mv_i S B 17).toInt = th ∧ th ≤ 64 ∧ (mv_i S B 29).toInt = k ∧ (mv_i S B 48).toInt = n ∧ (mv_i S B 51).toInt = cb := ⟨h.2.2.1, h.2.2.2.1, h.2.2.2.2.1, h.1.2.2.1, h.1.1.2.2.2.2.1, h.1.1.2.2.2.2.2, h.2.2.2.2.2.1.2.1, by have := h.2.2.2.2.2.1.2.1; have := h.2.2.2.2.2.1.1.2.1; omega, h.2.2.2.2.2.1.2.2.2.1, h.2.2.2.2.2.1.2.2.1, h.2.2.2.2.2.1.2.2.2.2.1⟩
theorem ZT.C (h : ZT B len σ S th n k cb d b1 b2) : IC B len S th n k cb := h.2.2.2.2.2.1
end ZTX
/-- an item is read -/
def ZO (B len b1 : Nat) (σ : mv_H) (τ : mv_H) : Prop := ∃ th n k cb c1 c2, ZT B len σ τ th n k cb 0 c1 c2 ∧ b1 < c1
/-- a new thing -/
def nt9 (B : Nat) (S : mv_H) (x y w f z c : Int32) : mv_H := mv_sa (mv_sa (mv_sa (mv_sa (mv_sa (mv_sa S (B + 1) (mv_i S B 17).toNatClampNeg x) (B + 2) (mv_i S B 17).toNatClampNeg y) (B + 3) (mv_i S B 17).toNatClampNeg w) (B + 6) (mv_i S B 17).toNatClampNeg f) (B + 7) (mv_i S B 17).toNatClampNeg z) (B + 4) (mv_i S B 17).toNatClampNeg c
theorem nt9_a {B : Nat} {S : mv_H} {x y w f z c : Int32} {o j : Nat} (h : ¬ ((o = B + 1 ∨ o = B + 2 ∨ o = B + 3 ∨ o = B + 4 ∨ o = B + 6 ∨ o = B + 7) ∧ j = (mv_i S B 17).toNatClampNeg)) : mv_a (nt9 B S x y w f z c) o j = mv_a S o j := by
  unfold nt9
  show mv_u (mv_u (mv_u (mv_u (mv_u (mv_u _ _ _ _) _ _ _) _ _ _) _ _ _) _ _ _) _ _ _ o j = _
  rw [mv_u_ne _ _ (by omega), mv_u_ne _ _ (by omega), mv_u_ne _ _ (by omega), mv_u_ne _ _ (by omega), mv_u_ne _ _ (by omega), mv_u_ne _ _ (by omega)]
theorem nt9_v {B : Nat} {S : mv_H} {x y w f z c : Int32} : mv_a (nt9 B S x y w f z c) (B + 1) (mv_i S B 17).toNatClampNeg = x ∧ mv_a (nt9 B S x y w f z c) (B + 2) (mv_i S B 17).toNatClampNeg = y ∧ mv_a (nt9 B S x y w f z c) (B + 4) (mv_i S B 17).toNatClampNeg = c ∧ mv_a (nt9 B S x y w f z c) (B + 6) (mv_i S B 17).toNatClampNeg = f := by
  unfold nt9
  refine ⟨?_, ?_, ?_, ?_⟩
  · show mv_u (mv_u (mv_u (mv_u (mv_u (mv_u _ _ _ _) _ _ _) _ _ _) _ _ _) _ _ _) _ _ _ _ _ = _
    rw [mv_u_ne _ _ (by omega), mv_u_ne _ _ (by omega), mv_u_ne _ _ (by omega), mv_u_ne _ _ (by omega), mv_u_ne _ _ (by omega), mv_u_same]
  · show mv_u (mv_u (mv_u (mv_u (mv_u (mv_u _ _ _ _) _ _ _) _ _ _) _ _ _) _ _ _) _ _ _ _ _ = _
    rw [mv_u_ne _ _ (by omega), mv_u_ne _ _ (by omega), mv_u_ne _ _ (by omega), mv_u_ne _ _ (by omega), mv_u_same]
  · show mv_u (mv_u (mv_u (mv_u (mv_u (mv_u _ _ _ _) _ _ _) _ _ _) _ _ _) _ _ _) _ _ _ _ _ = _
    rw [mv_u_same]
  · show mv_u (mv_u (mv_u (mv_u (mv_u (mv_u _ _ _ _) _ _ _) _ _ _) _ _ _) _ _ _) _ _ _ _ _ = _
    rw [mv_u_ne _ _ (by omega), mv_u_ne _ _ (by omega), mv_u_same]
/-- things and cells, one more -/
theorem ZT.thing {B len th n k cb d b1 b2 : Nat} {σ S T : mv_H} {x y w f z c v : Int32} (h : ZT B len σ S th n k cb d b1 b2) (hth : th < 64) (hx : Sp len x y) (hc : 0 ≤ c.toInt) (hfc : (mv_i S B 38).toInt ≤ 0 → ¬ f = 0 → 1 ≤ c.toInt) (hv : v.toInt = (mv_i S B 19).toInt + c.toInt ∨ (¬ (mv_i S B 38).toInt ≤ 0)) (hv2 : 0 ≤ v.toInt ∧ v.toInt ≤ 65536) (eT : T = mv_si (mv_si (nt9 B S x y w f z c) B 19 v) B 17 (mv_i S B 17 + 1)) : ZT B len σ T (th + 1) n k cb d b1 b2 := by
  subst eT
  obtain ⟨g1, g2, g3, g4, g5, ⟨h1, h2, h3, h4, h5, h6, h7, h8, h9⟩, g7⟩ := h
  have hcl : (mv_i S B 17).toNatClampNeg = th := by have := i32_cl (x := mv_i S B 17) (by omega); omega
  have i1 : (mv_i S B 17 + 1).toInt = ((th + 1 : Nat) : Int) := by rw [i32_inc (by omega)]; omega
  have ei : ∀ o k, ¬ (o = B ∧ (k = 17 ∨ k = 19)) → mv_i (mv_si (mv_si (nt9 B S x y w f z c) B 19 v) B 17 (mv_i S B 17 + 1)) o k = mv_i S o k := fun o k hk => (mv_si_o _ _ (by omega)).trans (mv_si_o _ _ (by omega))
  have e17 : mv_i (mv_si (mv_si (nt9 B S x y w f z c) B 19 v) B 17 (mv_i S B 17 + 1)) B 17 = mv_i S B 17 + 1 := mv_si_s _ _ _ _
  have e19 : mv_i (mv_si (mv_si (nt9 B S x y w f z c) B 19 v) B 17 (mv_i S B 17 + 1)) B 19 = v := (mv_si_o _ _ (by omega)).trans (mv_si_s _ _ _ _)
  have ea : ∀ o j, ¬ ((o = B + 1 ∨ o = B + 2 ∨ o = B + 3 ∨ o = B + 4 ∨ o = B + 6 ∨ o = B + 7) ∧ j = th) → mv_a (mv_si (mv_si (nt9 B S x y w f z c) B 19 v) B 17 (mv_i S B 17 + 1)) o j = mv_a S o j := fun o j hj => nt9_a (by rw [hcl]; exact hj)
  have ev := nt9_v (B := B) (S := S) (x := x) (y := y) (w := w) (f := f) (z := z) (c := c)
  rw [hcl] at ev
  refine ⟨g1.keep (fun k a b => ei _ _ (by omega)) rfl, by rw [ei _ _ (by omega)]; exact g2, g3, g4, g5, ⟨?_, by rw [e17]; exact i1, by rw [ei _ _ (by omega)]; exact h3, by rw [ei _ _ (by omega)]; exact h4, by rw [ei _ _ (by omega)]; exact h5, fun i hi => by rw [ea _ _ (by omega), ea _ _ (by omega)]; exact h6 i hi, by rw [e19]; exact hv2, by rw [ei _ _ (by omega), ei _ _ (by omega)]; exact h8.imp id (fun z => by omega), fun q => ?_⟩, g7.tr ⟨fun o k q => ei o k (by omega), fun _ _ _ => rfl, rfl, fun o j q => ea o j (by omega), fun _ _ => rfl⟩⟩
  · unfold NT
    rw [e17, i1]
    refine ⟨by omega, by omega, fun t ht => ?_⟩
    by_cases e : t = th
    · subst e
      rw [show mv_a (mv_si (mv_si (nt9 B S x y w f z c) B 19 v) B 17 (mv_i S B 17 + 1)) (B + 1) t = x from ev.1, show mv_a (mv_si (mv_si (nt9 B S x y w f z c) B 19 v) B 17 (mv_i S B 17 + 1)) (B + 2) t = y from ev.2.1]
      exact hx
    · rw [ea _ _ (by omega), ea _ _ (by omega)]
      exact h1.2.2 t (by omega)
  · rw [ei _ _ (by omega)] at q
    obtain ⟨k1, k2, k3, k4, k5⟩ := h9 q
    have ec : mv_a (mv_si (mv_si (nt9 B S x y w f z c) B 19 v) B 17 (mv_i S B 17 + 1)) (B + 4) th = c := ev.2.2.1
    have ef : mv_a (mv_si (mv_si (nt9 B S x y w f z c) B 19 v) B 17 (mv_i S B 17 + 1)) (B + 6) th = f := ev.2.2.2
    refine ⟨k1.fr (by omega) (fun o j _ _ _ => ea o j (by omega)) (fun j _ => ea _ _ (by omega)), by rw [ei _ _ (by omega)]; exact k2, fun i hi => by rw [ea _ _ (by omega), ei _ _ (by omega)]; exact k3 i hi, ?_, fun t ht => ?_⟩
    · show csum _ th + _ = _
      rw [csum_con (g := mv_a S (B + 4)) th (fun i hi => ea _ _ (by omega)), k4, ec, e19]
      rcases hv with hv | hv
      · omega
      · exact absurd q hv
    · by_cases e : t = th
      · subst e; unfold TC; rw [ec, ef]; exact ⟨hc, hfc q⟩
      · exact (k5 t (by omega)).fr (ea _ _ (by omega)) (ea _ _ (by omega))
