/-! the reference's Book: the readers' state among statements -/
/-- a statement: an expression's frame, and the lets from q on, and the name at hand -/
def YF (B n q : Nat) : mv_H → mv_H → Prop := Fx (fun o k => (o = B ∧ ((3 ≤ k ∧ k ≤ 8) ∨ (35 ≤ k ∧ k ≤ 38) ∨ (48 ≤ k ∧ k ≤ 50))) ∨ (o = B + 33 ∧ k = 0)) (fun o k => o = B ∧ k = 9) (fun o j => ((B + 18 ≤ o ∧ o ≤ B + 25) ∧ n ≤ j) ∨ ((B + 14 ≤ o ∧ o ≤ B + 17) ∧ q ≤ j)) (fun o => o = B + 24)
theorem XF.yf {B n q : Nat} {σ τ : mv_H} (h : XF B n σ τ) : YF B n q σ τ := h.up (fun o k z => by omega) (fun o k z => z) (fun o k z => Or.inl z) (fun o z => z)
theorem YF.bf {B n q : Nat} {σ τ : mv_H} (h : YF B n q σ τ) : BF B σ τ := h.up (fun o k z => by omega) (fun o k z => by omega) (fun o k z => by omega) (fun o z => by omega)
theorem YF.lo {B n q n' q' : Nat} {σ τ : mv_H} (h : YF B n' q' σ τ) (hn : n ≤ n') (hq : q ≤ q') : YF B n q σ τ := h.up (fun o k z => z) (fun o k z => z) (fun o k z => by omega) (fun o z => z)
theorem YF.rf {B n q : Nat} {σ : mv_H} : YF B n q σ σ := Fx.rf
theorem YF.tr {B n q : Nat} {σ τ υ : mv_H} (h : YF B n q σ τ) (g : YF B n q τ υ) : YF B n q σ υ := Fx.tr h g
/-- the reader among statements: q lets, e of them ever -/
def SS (B len th q e d n a1 a2 : Nat) (σ : mv_H) : Prop := PS B len th d n a1 a2 σ ∧ (mv_i σ B 35).toInt = q ∧ (mv_i σ B 36).toInt = e ∧ q ≤ e ∧ 3 * e ≤ a1
def YS (B len th : Nat) (σ : mv_H) (q e n a1 : Nat) (S : mv_H) (q' e' d n' b1 b2 : Nat) : Prop := SS B len th q' e' d n' b1 b2 S ∧ YF B n q σ S ∧ q ≤ q' ∧ e ≤ e' ∧ 3 * e' + a1 ≤ 3 * e + b1 ∧ n ≤ n' ∧ n' + a1 ≤ n + b1 ∧ ((mv_i S B 38).toInt ≤ 0 → (mv_i σ B 38).toInt ≤ 0)
/-- a word on the nodes from lo to hi alone -/
def Stb (B lo hi : Nat) (P : mv_H → Prop) : Prop := ∀ τ τ' : mv_H, (∀ o j, B + 18 ≤ o → o ≤ B + 25 → lo ≤ j → j < hi → mv_a τ' o j = mv_a τ o j) → P τ → P τ'
def YG (B : Nat) (S : mv_H) (n : Nat) (L : List (Nat × Nat × (mv_H → Prop))) : Prop := ∀ r ∈ L, r.2.1 ≤ n ∧ Stb B r.1 r.2.1 r.2.2 ∧ ((mv_i S B 38).toInt ≤ 0 → r.2.2 S)
theorem YG.fr {B n n' : Nat} {S T : mv_H} {L : List (Nat × Nat × (mv_H → Prop))} (h : YG B S n L) (hn : n ≤ n') (z : (mv_i T B 38).toInt ≤ 0 → (mv_i S B 38).toInt ≤ 0) (e : ∀ o j, B + 18 ≤ o → o ≤ B + 25 → j < n → mv_a T o j = mv_a S o j) : YG B T n' L := fun r hr => by
  obtain ⟨h1, h2, h3⟩ := h r hr
  exact ⟨Nat.le_trans h1 hn, h2, fun q => h2 S T (fun o j a b _ d => e o j a b (by omega)) (h3 (z q))⟩
theorem YG.cons {B n lo hi : Nat} {S : mv_H} {P : mv_H → Prop} {L : List (Nat × Nat × (mv_H → Prop))} (h : YG B S n L) (hn : hi ≤ n) (hs : Stb B lo hi P) (x : (mv_i S B 38).toInt ≤ 0 → P S) : YG B S n ((lo, hi, P) :: L) := fun r hr => by
  rcases List.mem_cons.mp hr with e | e
  · subst e; exact ⟨hn, hs, x⟩
  · exact h r e
theorem YG.at {B n lo hi : Nat} {S : mv_H} {P : mv_H → Prop} {L : List (Nat × Nat × (mv_H → Prop))} (h : YG B S n L) (i : Nat) (e : L[i]? = some (lo, hi, P)) (z : (mv_i S B 38).toInt ≤ 0) : P S := (h _ (List.mem_of_getElem? e)).2.2 z
theorem YG.nil {B n : Nat} {S : mv_H} : YG B S n [] := fun _ h => nomatch h
theorem Stb.xr {B th lo hi R : Nat} : Stb B lo hi (fun τ => XR B th τ lo hi R) := fun τ τ' e h => h.fr (fun o j a b c d => e o j a (by omega) c d)
theorem Stb.br {B th lo hi r : Nat} {v : Int} : Stb B lo hi (fun τ => BR B th τ lo hi r v) := fun τ τ' e h => h.fr e
theorem Stb.sr {B th lo hi r v : Nat} : Stb B lo hi (fun τ => SR B th τ lo hi r v) := fun τ τ' e h => h.fr e
theorem Stb.bi {B th lo hi r : Nat} {v w : Int} : Stb B lo hi (fun τ => BI B th τ lo hi r v w) := fun τ τ' e h => h.fr e
theorem Stb.ii {B th lo hi r : Nat} {v w : Int} : Stb B lo hi (fun τ => II B th τ lo hi r v w) := fun τ τ' e h => h.fr e
def YT (B len th : Nat) (σ : mv_H) (q e n a1 : Nat) (S : mv_H) (q' e' d n' b1 b2 : Nat) (L : List (Nat × Nat × (mv_H → Prop))) : Prop := YS B len th σ q e n a1 S q' e' d n' b1 b2 ∧ YG B S n' L
section YTX
variable {B len th q e d n a1 q' e' n' b1 b2 : Nat} {σ S T : mv_H} {L : List (Nat × Nat × (mv_H → Prop))}
theorem YS.rf {a2 : Nat} (h : SS B len th q e d n a1 a2 σ) : YS B len th σ q e n a1 σ q e d n a1 a2 := ⟨h, YF.rf, Nat.le_refl _, Nat.le_refl _, Nat.le_refl _, Nat.le_refl _, Nat.le_refl _, fun z => z⟩
theorem YS.xs {d' n'' c1 c2 : Nat} (h : YS B len th σ q e n a1 S q' e' d n' b1 b2) (g : XS B len th S n' b1 T d' n'' c1 c2) : YS B len th σ q e n a1 T q' e' d' n'' c1 c2 := by
  obtain ⟨⟨h1, h2, h3, h4, h5⟩, f, h6, h7, h8, h9, h10, h11⟩ := h
  obtain ⟨g1, g2, g3, g4, g5⟩ := g
  exact ⟨⟨g1, by rw [g2.1 B 35 (by omega)]; exact h2, by rw [g2.1 B 36 (by omega)]; exact h3, h4, by omega⟩, f.tr ((g2.lo h9).yf), h6, h7, by omega, by omega, by omega, fun z => h11 (g5 z)⟩
theorem YS.sub {q'' e'' d' n'' c1 c2 : Nat} (h : YS B len th σ q e n a1 S q' e' d n' b1 b2) (g : YS B len th S q' e' n' b1 T q'' e'' d' n'' c1 c2) : YS B len th σ q e n a1 T q'' e'' d' n'' c1 c2 := by
  obtain ⟨-, f, h6, h7, h8, h9, h10, h11⟩ := h
  obtain ⟨g1, g2, g3, g4, g5, g6, g7, g8⟩ := g
  exact ⟨g1, f.tr (g2.lo h9 h6), by omega, by omega, by omega, by omega, by omega, fun z => h11 (g8 z)⟩
theorem YT.rf {a2 : Nat} (h : SS B len th q e d n a1 a2 σ) : YT B len th σ q e n a1 σ q e d n a1 a2 [] := ⟨YS.rf h, YG.nil⟩
theorem YT.xs {d' n'' c1 c2 : Nat} (h : YT B len th σ q e n a1 S q' e' d n' b1 b2 L) (g : XS B len th S n' b1 T d' n'' c1 c2) : YT B len th σ q e n a1 T q' e' d' n'' c1 c2 L := ⟨h.1.xs g, h.2.fr g.2.2.1 g.2.2.2.2 (fun o j a b c => g.2.1.2.2.2.1 o j (by omega))⟩
theorem YT.P (h : YT B len th σ q e n a1 S q' e' d n' b1 b2 L) : PS B len th d n' b1 b2 S := h.1.1.1
theorem YT.SS (h : YT B len th σ q e n a1 S q' e' d n' b1 b2 L) : SS B len th q' e' d n' b1 b2 S := h.1.1
theorem YT.R (h : YT B len th σ q e n a1 S q' e' d n' b1 b2 L) : Br B (mv_r S) := h.P.1.1.2.1
theorem YT.pass {c1 c2 : Nat} (h : YT B len th σ q e n a1 S q' e' d n' b1 b2 L) (g : Tq B len S T c1 c2) (hb : b2 ≤ c1) : YT B len th σ q e n a1 T q' e' d n' c1 c2 L := h.xs ((XS.rf h.P).pass g hb)
theorem YT.dep {d' : Nat} {v : Int32} (h : YT B len th σ q e n a1 S q' e' d n' b1 b2 L) (hv : v.toInt = d') : YT B len th σ q e n a1 (mv_si S B 8 v) q' e' d' n' b1 b2 L := h.xs ((XS.rf h.P).dep hv)
theorem YT.ft (h : YT B len th σ q e n a1 S q' e' d n' b1 b2 L) (g : FT B S T) : YT B len th σ q e n a1 T q' e' d n' b1 b2 L := h.xs ((XS.rf h.P).ft g)
theorem YT.ex {d' n'' c1 c2 R : Nat} (h : YT B len th σ q e n a1 S q' e' d n' b1 b2 L) (g : XS B len th S n' b1 T d' n'' c1 c2) (x : (mv_i T B 38).toInt ≤ 0 → XR B th T n' n'' R) : YT B len th σ q e n a1 T q' e' d' n'' c1 c2 ((n', n'', fun τ => XR B th τ n' n'' R) :: L) := ⟨h.1.xs g, (h.xs g).2.cons (Nat.le_refl _) Stb.xr x⟩
theorem YT.sub {q'' e'' d' n'' c1 c2 : Nat} {P : mv_H → Prop} (h : YT B len th σ q e n a1 S q' e' d n' b1 b2 L) (g : YS B len th S q' e' n' b1 T q'' e'' d' n'' c1 c2) (hs : Stb B n' n'' P) (x : (mv_i T B 38).toInt ≤ 0 → P T) : YT B len th σ q e n a1 T q'' e'' d' n'' c1 c2 ((n', n'', P) :: L) := by
  have g6 := g.2.2.2.2.2
  exact ⟨h.1.sub g, (h.2.fr g6.1 g6.2.2 (fun o j a b c => g.2.1.2.2.2.1 o j (by omega))).cons (Nat.le_refl _) hs x⟩
theorem YT.node {s x y z w : Int32} {lo : Nat} {P : mv_H → Prop} (h : YT B len th σ q e n a1 S q' e' d n' b1 b2 L) (eT : T = nd B S s x y z w) (hb : n' + 1 + a1 ≤ n + b1) (hn : n ≤ a1) (hs : Stb B lo (n' + 1) P) (hx : (mv_i S B 38).toInt ≤ 0 → P T) : YT B len th σ q e n a1 T q' e' d (n' + 1) b1 b2 [(lo, n' + 1, P)] := by
  subst eT
  have h1 := h.P.le
  have h2 := h.P.2.2.1
  have h7 := h.1.2.2.2.2.2.1
  have f := nd_xf (s := s) (x := x) (y := y) (z := z) (w := w) h.P.nn
  have hp : PS B len th d (n' + 1) b1 b2 (nd B S s x y z w) := h.P.of f (fun k h1 h2 => nd_i (by omega)) (by rw [nd_i (by omega)]; exact h.P.2.1) (by rw [nd_n, i32_inc (by omega)]; omega) (by omega)
  obtain ⟨⟨k1, k2, k3, k4, k5⟩, f0, j6, j7, j8, j9, j10, j11⟩ := h.1
  refine ⟨⟨⟨hp, by rw [nd_i (by omega)]; exact k2, by rw [nd_i (by omega)]; exact k3, k4, k5⟩, f0.tr ((f.lo h7).yf), j6, j7, j8, by omega, hb, fun q => j11 (by rw [nd_i (by omega)] at q; exact q)⟩, YG.nil.cons (Nat.le_refl _) hs (fun q => hx (by rw [nd_i (by omega)] at q; exact q))⟩
theorem YT.w {lo hi : Nat} {P P' : mv_H → Prop} (h : YT B len th σ q e n a1 S q' e' d n' b1 b2 L) (hh : hi ≤ n') (hs : Stb B lo hi P') (hx : (mv_i S B 38).toInt ≤ 0 → P' S) : YT B len th σ q e n a1 S q' e' d n' b1 b2 [(lo, hi, P')] := ⟨h.1, YG.nil.cons hh hs hx⟩
/-- a way of a node is written -/
theorem YT.row {lo o k : Nat} {v : Int32} {P : mv_H → Prop} (h : YT B len th σ q e n a1 S q' e' d n' b1 b2 L) (ho : B + 18 ≤ o ∧ o ≤ B + 25) (hk : n ≤ k) (hs : Stb B lo n' P) (hx : (mv_i S B 38).toInt ≤ 0 → P (mv_sa S o k v)) : YT B len th σ q e n a1 (mv_sa S o k v) q' e' d n' b1 b2 [(lo, n', P)] := by
  have f : XF B n S (mv_sa S o k v) := XF.rf.sa ⟨ho, hk⟩
  obtain ⟨⟨k1, k2, k3, k4, k5⟩, f0, j6, j7, j8, j9, j10, j11⟩ := h.1
  exact ⟨⟨⟨k1.of f (fun _ _ _ => rfl) k1.2.1 k1.2.2.1 k1.2.2.2.1, k2, k3, k4, k5⟩, f0.tr f.yf, j6, j7, j8, j9, j10, j11⟩, YG.nil.cons (Nat.le_refl _) hs hx⟩
/-- a name is read -/
theorem YT.name {c1 c2 : Nat} {v w : Int32} (h : YT B len th σ q e n a1 S q' e' d n' b1 b2 L) (g : Tq B len T T c1 c2) (hb : b2 ≤ c1) (y : TkB B (mv_si (mv_si S B 49 v) B 50 w) T) : YT B len th σ q e n a1 T q' e' d n' c1 c2 L := by
  obtain ⟨⟨⟨p1, p2, p3, p4, p5, p6⟩, k2, k3, k4, k5⟩, f0, j6, j7, j8, j9, j10, j11⟩ := h.1
  have h1 := p1.2.2.1
  have f2 : YF B n q S (mv_si (mv_si S B 49 v) B 50 w) := (YF.rf.si (by omega)).si (by omega)
  have ei : ∀ k, (k = 2 ∨ k = 8 ∨ k = 17 ∨ k = 29 ∨ k = 30 ∨ k = 35 ∨ k = 36 ∨ k = 38 ∨ k = 48) → mv_i T B k = mv_i S B k := fun k hk => (y.1 B k (by omega) (by omega)).trans ((mv_si_o _ _ (by omega)).trans (mv_si_o _ _ (by omega)))
  have ea : ∀ o j, mv_a T o j = mv_a S o j := fun o j => by rw [y.2.2.2.1]; rfl
  have nm : Nm B len T := ⟨p6.1.fr (ei 17 (by omega)) (fun t _ => ⟨ea _ _, ea _ _⟩), p6.2.1.fr (ei 35 (by omega)) (fun t _ => ⟨ea _ _, ea _ _, ea _ _⟩), p6.2.2.fr (ei 29 (by omega)) (ei 30 (by omega)) (fun j => ea _ _)⟩
  refine ⟨⟨⟨⟨g, by rw [ei 8 (by omega)]; exact p2, by rw [ei 48 (by omega)]; exact p3, by omega, by rw [ei 17 (by omega)]; exact p5, nm⟩, by rw [ei 35 (by omega)]; exact k2, by rw [ei 36 (by omega)]; exact k3, k4, by omega⟩, f0.tr (f2.tr (y.tf.xf.yf)), j6, j7, by omega, j9, by omega, fun z => j11 (by rw [← ei 38 (by omega)]; exact z)⟩, h.2.fr (Nat.le_refl _) (fun z => by rw [← ei 38 (by omega)]; exact z) (fun o j _ _ _ => ea o j)⟩
/-- the place of the name that was read -/
theorem name_sp {c1 c2 : Nat} {v w : Int32} (y : TkB B (mv_si (mv_si S B 49 v) B 50 w) T) (h : Sp len v w) : Sp len (mv_i T B 49) (mv_i T B 50) := by
  have e1 : mv_i T B 49 = v := (y.1 B 49 (by omega) (by omega)).trans ((mv_si_o _ _ (by omega)).trans (mv_si_s _ _ _ _))
  have e2 : mv_i T B 50 = w := (y.1 B 50 (by omega) (by omega)).trans (mv_si_s _ _ _ _)
  rw [e1, e2]
  exact h
theorem YT.le (h : YT B len th σ q e n a1 S q' e' d n' b1 b2 L) : n ≤ n' ∧ n' + a1 ≤ n + b1 ∧ n' ≤ b1 ∧ b1 ≤ b2 ∧ b2 ≤ len ∧ len ≤ 10240 ∧ (mv_i S B 48).toInt = n' ∧ (mv_i S B 8).toInt = d ∧ (mv_i S B 17).toInt = th ∧ q ≤ q' ∧ q' ≤ e' ∧ e ≤ e' ∧ 3 * e' ≤ b1 ∧ 3 * e' + a1 ≤ 3 * e + b1 := ⟨h.1.2.2.2.2.2.1, h.1.2.2.2.2.2.2.1, h.P.le.1, h.P.le.2.1, h.P.le.2.2.1, h.P.le.2.2.2, h.P.2.2.1, h.P.2.1, h.P.2.2.2.2.1, h.1.2.2.1, h.SS.2.2.2.1, h.1.2.2.2.1, h.SS.2.2.2.2, h.1.2.2.2.2.1⟩
/-- a let is added -/
def lt9w (B : Nat) (S : mv_H) (x y w : Int32) : mv_H := mv_si (mv_si (mv_sa (mv_sa (mv_sa (mv_sa S (B + 14) (mv_i S B 35).toNatClampNeg x) (B + 15) (mv_i S B 35).toNatClampNeg y) (B + 16) (mv_i S B 35).toNatClampNeg w) (B + 17) (mv_i S B 35).toNatClampNeg (mv_i S B 36)) B 35 (mv_i S B 35 + 1)) B 36 (mv_i S B 36 + 1)
theorem YT.let {x y w : Int32} (h : YT B len th σ q e n a1 S q' e' d n' b1 b2 L) (eT : T = lt9w B S x y w) (hsp : Sp len x y) (hb : 3 * (e' + 1) + a1 ≤ 3 * e + b1) (hb2 : 3 * (e' + 1) ≤ b1) : YT B len th σ q e n a1 T (q' + 1) (e' + 1) d n' b1 b2 L := by
  subst eT
  obtain ⟨⟨⟨p1, p2, p3, p4, p5, p6⟩, k2, k3, k4, k5⟩, f0, j6, j7, j8, j9, j10, j11⟩ := h.1
  have hle := h.P.le
  have hc : (mv_i S B 35).toNatClampNeg = q' := by have := i32_cl (x := mv_i S B 35) (by omega); omega
  have i1 : (mv_i S B 35 + 1).toInt = ((q' + 1 : Nat) : Int) := by rw [i32_inc (by omega)]; omega
  have i2 : (mv_i S B 36 + 1).toInt = ((e' + 1 : Nat) : Int) := by rw [i32_inc (by omega)]; omega
  have ei : ∀ o k, ¬ (o = B ∧ (k = 35 ∨ k = 36)) → mv_i (lt9w B S x y w) o k = mv_i S o k := fun o k hk => (mv_si_o _ _ (by omega)).trans (mv_si_o _ _ (by omega))
  have e35 : mv_i (lt9w B S x y w) B 35 = mv_i S B 35 + 1 := (mv_si_o _ _ (by omega)).trans (mv_si_s _ _ _ _)
  have e36 : mv_i (lt9w B S x y w) B 36 = mv_i S B 36 + 1 := mv_si_s _ _ _ _
  have ea : ∀ o j, ¬ ((B + 14 ≤ o ∧ o ≤ B + 17) ∧ j = q') → mv_a (lt9w B S x y w) o j = mv_a S o j := fun o j hj => by
    unfold lt9w
    show mv_u (mv_u (mv_u (mv_u _ _ _ _) _ _ _) _ _ _) _ _ _ o j = _
    rw [mv_u_ne _ _ (by omega), mv_u_ne _ _ (by omega), mv_u_ne _ _ (by omega), mv_u_ne _ _ (by omega)]
  have ev : mv_a (lt9w B S x y w) (B + 14) q' = x ∧ mv_a (lt9w B S x y w) (B + 15) q' = y ∧ mv_a (lt9w B S x y w) (B + 17) q' = mv_i S B 36 := by
    unfold lt9w
    rw [hc]
    refine ⟨?_, ?_, ?_⟩
    · show mv_u (mv_u (mv_u (mv_u _ _ _ _) _ _ _) _ _ _) _ _ _ _ _ = _
      rw [mv_u_ne _ _ (by omega), mv_u_ne _ _ (by omega), mv_u_ne _ _ (by omega), mv_u_same]
    · show mv_u (mv_u (mv_u (mv_u _ _ _ _) _ _ _) _ _ _) _ _ _ _ _ = _
      rw [mv_u_ne _ _ (by omega), mv_u_ne _ _ (by omega), mv_u_same]
    · show mv_u (mv_u (mv_u (mv_u _ _ _ _) _ _ _) _ _ _) _ _ _ _ _ = _
      rw [mv_u_same]
  have nl : NL B len (lt9w B S x y w) := by
    unfold NL
    rw [e35, i1]
    refine ⟨by omega, by omega, fun t ht => ?_⟩
    by_cases z : t = q'
    · subst z
      rw [ev.1, ev.2.1, ev.2.2]
      exact ⟨hsp, by omega, by omega⟩
    · rw [ea _ _ (by omega), ea _ _ (by omega), ea _ _ (by omega)]
      exact p6.2.1.2.2 t (by omega)
  have f : YF B n q S (lt9w B S x y w) := ⟨fun o k z => ei o k (by omega), fun _ _ _ => rfl, rfl, fun o j z => ea o j (by omega), fun _ _ => rfl⟩
  exact ⟨⟨⟨⟨p1.keep (fun k h1 h2 => ei _ _ (by omega)) rfl, by rw [ei _ _ (by omega)]; exact p2, by rw [ei _ _ (by omega)]; exact p3, p4, by rw [ei _ _ (by omega)]; exact p5, p6.1.fr (ei _ _ (by omega)) (fun t _ => ⟨ea _ _ (by omega), ea _ _ (by omega)⟩), nl, p6.2.2.fr (ei _ _ (by omega)) (ei _ _ (by omega)) (fun j => ea _ _ (by omega))⟩, by rw [e35]; exact i1, by rw [e36]; exact i2, by omega, hb2⟩, f0.tr f, by omega, by omega, hb, j9, j10, fun z => j11 (by rw [ei _ _ (by omega)] at z; exact z)⟩, h.2.fr (Nat.le_refl _) (fun z => by rw [ei _ _ (by omega)] at z; exact z) (fun o j _ _ _ => ea o j (by omega))⟩
/-- the lets of a block are forgotten -/
theorem YT.back {v : Int32} (h : YT B len th σ q e n a1 S q' e' d n' b1 b2 L) (hv : v.toInt = q) : YT B len th σ q e n a1 (mv_si S B 35 v) q e' d n' b1 b2 L := by
  obtain ⟨⟨⟨p1, p2, p3, p4, p5, p6⟩, k2, k3, k4, k5⟩, f0, j6, j7, j8, j9, j10, j11⟩ := h.1
  have hle := h.P.le
  have ei : ∀ o k, ¬ (o = B ∧ k = 35) → mv_i (mv_si S B 35 v) o k = mv_i S o k := fun o k hk => mv_si_o _ _ hk
  have nl : NL B len (mv_si S B 35 v) := by
    unfold NL
    rw [mv_si_s, hv]
    exact ⟨by omega, by have := p6.2.1.2.1; omega, fun t ht => p6.2.1.2.2 t (by omega)⟩
  have f : YF B n q S (mv_si S B 35 v) := YF.rf.si (by omega)
  exact ⟨⟨⟨⟨p1.keep (fun k h1 h2 => ei _ _ (by omega)) rfl, by rw [ei _ _ (by omega)]; exact p2, by rw [ei _ _ (by omega)]; exact p3, p4, by rw [ei _ _ (by omega)]; exact p5, p6.1.fr (ei _ _ (by omega)) (fun t _ => ⟨rfl, rfl⟩), nl, p6.2.2.fr (ei _ _ (by omega)) (ei _ _ (by omega)) (fun j => rfl)⟩, by rw [mv_si_s]; exact hv, by rw [ei _ _ (by omega)]; exact k3, by omega, k5⟩, f0.tr f, Nat.le_refl _, j7, j8, j9, j10, fun z => j11 (by rw [ei _ _ (by omega)] at z; exact z)⟩, h.2.fr (Nat.le_refl _) (fun z => by rw [ei _ _ (by omega)] at z; exact z) (fun o j _ _ _ => rfl)⟩
end YTX
/-- what a reader of a statement brings -/
def YO (B len th q e d n a1 r : Nat) (σ : mv_H) (v : Int32) (τ : mv_H) : Prop := ∃ q' e' n' b1 b2 t, YS B len th σ q e n a1 τ q' e' d n' b1 b2 ∧ n < n' ∧ v.toInt = ((t : Nat) : Int) ∧ n ≤ t ∧ t < n' ∧ ((mv_i τ B 38).toInt ≤ 0 → SR B th τ n n' r t)
/-- what a reader of a block brings -/
def BO (B len th q e d n a1 r : Nat) (σ : mv_H) (v : Int32) (τ : mv_H) : Prop := ∃ e' n' b1 b2, YS B len th σ q e n a1 τ q e' d n' b1 b2 ∧ n' + 1 + a1 ≤ n + b1 ∧ ((mv_i τ B 38).toInt ≤ 0 → BR B th τ n n' r v.toInt)
def YK (l : Launch) (dA : FieldType → ClassId) (D : va_G) (al : Nat → Nat) (ext : mv_Sh) (sk sv : Nat → Nat) (B : Nat) (y : MethodName) (b : ByteArray) (nl : Nat) (F Lc f : Nat) (O : Nat → Nat → Nat → Nat → Nat → Nat → Nat → mv_H → Int32 → mv_H → Prop) : Prop := ∀ (σ : mv_H) (len th q e d n a1 a2 : Nat), d + f = 61 → SS B len th q e d n a1 a2 σ → mv_C l y (Cond.code y b nl (some .int) :: ma) { frames := F, cells := 0, slots := 0, locals := Lc } (mg dA D al ext) (mK sk sv) [.ref (al B)] σ (mv_Ui (O len th q e d n a1 σ) ("MachineLoomModel$Book$Wrong", al (B + 33)) (BF B σ))
