/-! statements' nodes -/
/-- lets of blocks that are over count as 0 wide: they are never named again -/
def padL (LW L1 : List Nat) : List Nat := LW ++ List.replicate (L1.length - LW.length) 0
def PxL (LW L1 : List Nat) : Prop := ∃ l, L1 = LW ++ l
abbrev SNt : Type := List Nat → Nat → Nat → DnS → List Nat → Nat → Prop
abbrev BKt : Type := List Nat → Nat → Int32 → DnS → List Nat → Nat → Prop
/-- a row of statements from a on to b -/
def SG (P : Nat) (h : mv_H) (S : SNt) : List Nat → List Nat → Nat → Int32 → DnS → List Nat → Nat → Int32 → Prop
  | [], LW, lo, a, D, LW', hi, b => a = b ∧ D = zSk ∧ LW' = LW ∧ lo = hi
  | x :: L, LW, lo, a, D, LW', hi, b => a = nI x ∧ ∃ D1 LW1 m1 D2, S LW lo x D1 LW1 m1 ∧ D = zSq D1 D2 ∧ SG P h S L LW1 m1 (mv_a h (P + 22) x) D2 LW' hi b
def BKq (P : Nat) (h : mv_H) (S : SNt) : BKt := fun LW lo a D LW' hi => ∃ L, SG P h S L LW lo a D LW' hi (-1)
def BLo (B : BKt) : BKt := fun LW lo a D LW' hi => ∃ lb, lo ≤ lb ∧ B LW lb a D LW' hi
/-- the ifs of an if -/
def IFq (P : Nat) (h : mv_H) (T : Nat) (C : List Nat) (B : BKt) : List Nat → List Nat → Nat → DnS → List Nat → Nat → Prop
  | [], _, _, _, _, _ => False
  | x :: L, LW, lo, D, LW', hi => ∃ y n Dy D1 LW1 m1 D2, (mv_a h (P + 18) x = 18 ∧ x < 33000 ∧ mv_a h (P + 19) x = nI y ∧ y < x ∧ ND P h T 0 C LW n 633 y 1 Dy ∧ BLo B LW lo (mv_a h (P + 20) x) D1 LW1 m1 ∧ lo ≤ m1 ∧ m1 ≤ x ∧ PxL LW LW1 ∧ D = zIf Dy D1 D2) ∧ (match L with
    | [] => mv_a h (P + 25) x = 0 ∧ ∃ LW2, B (padL LW LW1) (x + 1) (mv_a h (P + 21) x) D2 LW2 hi ∧ x + 1 ≤ hi ∧ PxL (padL LW LW1) LW2 ∧ LW' = padL (padL LW LW1) LW2
    | x2 :: _ => mv_a h (P + 21) x = nI x2 ∧ ¬ mv_a h (P + 25) x = 0 ∧ IFq P h T C B L (padL LW LW1) (x + 1) D2 LW' hi)
/-- node x, a statement, stands for D -/
def SN (P : Nat) (h : mv_H) (T : Nat) (C : List Nat) : Nat → Nat → SNt
  | 0 => fun _ _ _ _ _ _ _ => False
  | n + 1 => fun u LW lo x D LW' hi => (x < 33000 ∧ lo ≤ x ∧ x < hi) ∧ (
    (∃ y w f Dy, mv_a h (P + 18) x = 14 ∧ mv_a h (P + 19) x = nI LW.length ∧ LW.length < 64 ∧ mv_a h (P + 20) x = nI y ∧ y < x ∧ ND P h T 0 C LW f 633 y w Dy ∧ D = zLt LW.length Dy ∧ LW' = LW ++ [w]) ∨
    (∃ t y w f Dy, mv_a h (P + 18) x = 15 ∧ mv_a h (P + 19) x = nI t ∧ t < 64 ∧ t < T ∧ mv_a h (P + 20) x = nI y ∧ y < x ∧ ND P h T 0 C LW f 633 y w Dy ∧ mv_a h (P + 6) t = 0 ∧ D = zRg t Dy ∧ LW' = LW) ∨
    (∃ t y z w wz f Dy Dz, mv_a h (P + 18) x = 16 ∧ mv_a h (P + 19) x = nI t ∧ t < 64 ∧ t < T ∧ mv_a h (P + 20) x = nI y ∧ mv_a h (P + 21) x = nI z ∧ y < x ∧ z < x ∧ ND P h T 0 C LW f 633 y w Dy ∧ ND P h T 0 C LW f 633 z wz Dz ∧ ¬ mv_a h (P + 6) t = 0 ∧ D = zCl t Dz Dy ∧ LW' = LW) ∨
    (∃ k, mv_a h (P + 18) x = 17 ∧ mv_a h (P + 19) x = nI k ∧ 1 ≤ k ∧ k ≤ 1000000 ∧ D = zTp k ∧ LW' = LW) ∨
    (0 < u ∧ ∃ L, IFq P h T C (BKq P h (SN P h T C n (u - 1))) (x :: L) LW lo D LW' hi))
/-! what statements change at work -/
def RFr (P : Nat) (h h' : mv_H) : Prop := h'.2.1 = h.2.1 ∧ mv_r h' = mv_r h ∧ (∀ o k, ¬ (o = P ∧ (k = 53 ∨ k = 61)) → mv_i h' o k = mv_i h o k) ∧ (∀ o, ¬ (o = P + 29 ∨ o = P + 30 ∨ o = P + 31) → mv_a h' o = mv_a h o) ∧ ∀ o, ¬ (o = P + 26 ∨ o = P + 32) → mv_b h' o = mv_b h o
theorem RFr.refl (P : Nat) (h : mv_H) : RFr P h h := ⟨rfl, rfl, fun _ _ _ => rfl, fun _ _ => rfl, fun _ _ => rfl⟩
theorem RFr.trans {P : Nat} {h g k : mv_H} (a : RFr P h g) (b : RFr P g k) : RFr P h k := ⟨b.1.trans a.1, b.2.1.trans a.2.1, fun o i q => (b.2.2.1 o i q).trans (a.2.2.1 o i q), fun o q => (b.2.2.2.1 o q).trans (a.2.2.2.1 o q), fun o q => (b.2.2.2.2 o q).trans (a.2.2.2.2 o q)⟩
theorem EFr.r {P s : Nat} {h h' : mv_H} (f : EFr P s h h') : RFr P h h' := ⟨f.1, f.2.1, fun o k q => f.2.2.2.1 o k (fun z => q ⟨z.1, Or.inl z.2⟩), fun o q => funext fun k => f.2.2.2.2 o k (fun z => q (Or.inr (Or.inr z.1))), fun o _ => by rw [f.2.2.1]⟩
theorem RFr.nf {P m : Nat} {h h' : mv_H} (f : RFr P h h') : NFr P 0 m h h' :=
  ⟨fun k _ _ _ => ⟨by rw [f.2.2.2.1 (P + 18) (by omega)], by rw [f.2.2.2.1 (P + 19) (by omega)], by rw [f.2.2.2.1 (P + 20) (by omega)], by rw [f.2.2.2.1 (P + 21) (by omega)], by rw [f.2.2.2.1 (P + 23) (by omega)], by rw [f.2.2.2.2 (P + 24) (by omega)]⟩, fun k _ _ _ => by rw [f.2.2.2.1 (P + 22) (by omega)], fun o k q _ => by rw [f.2.2.2.1 o (by omega)]⟩
/-- the rows that tell nodes and THINGS stand -/
def AFr (P : Nat) (h h' : mv_H) : Prop := (∀ o, ¬ (o = P + 29 ∨ o = P + 30 ∨ o = P + 31) → mv_a h' o = mv_a h o) ∧ ∀ o, ¬ (o = P + 26 ∨ o = P + 27 ∨ o = P + 28 ∨ o = P + 32) → mv_b h' o = mv_b h o
theorem RFr.af {P : Nat} {h h' : mv_H} (f : RFr P h h') : AFr P h h' := ⟨f.2.2.2.1, fun o q => f.2.2.2.2 o (by omega)⟩
theorem AFr.nf {P m : Nat} {h h' : mv_H} (f : AFr P h h') : NFr P 0 m h h' :=
  ⟨fun k _ _ _ => ⟨by rw [f.1 (P + 18) (by omega)], by rw [f.1 (P + 19) (by omega)], by rw [f.1 (P + 20) (by omega)], by rw [f.1 (P + 21) (by omega)], by rw [f.1 (P + 23) (by omega)], by rw [f.2 (P + 24) (by omega)]⟩, fun k _ _ _ => by rw [f.1 (P + 22) (by omega)], fun o k q _ => by rw [f.1 o (by omega)]⟩
/-- the rows that tell the nodes stand: all that was said of statements stands -/
theorem SG.cg {P : Nat} {h h' : mv_H} {S S' : SNt} (hS : ∀ LW lo x D LW' hi, S LW lo x D LW' hi → S' LW lo x D LW' hi) (h22 : mv_a h' (P + 22) = mv_a h (P + 22)) : ∀ {L LW : List Nat} {lo : Nat} {a : Int32} {D : DnS} {LW' : List Nat} {hi : Nat} {b : Int32}, SG P h S L LW lo a D LW' hi b → SG P h' S' L LW lo a D LW' hi b := by
  intro L
  induction L with
  | nil => intro LW lo a D LW' hi b s; exact s
  | cons x L ih =>
    intro LW lo a D LW' hi b s
    obtain ⟨s1, D1, LW1, m1, D2, s2, s3, s4⟩ := s
    refine ⟨s1, D1, LW1, m1, D2, hS _ _ _ _ _ _ s2, s3, ?_⟩
    rw [h22]
    exact ih s4
theorem BKq.cg {P : Nat} {h h' : mv_H} {S S' : SNt} (hS : ∀ LW lo x D LW' hi, S LW lo x D LW' hi → S' LW lo x D LW' hi) (h22 : mv_a h' (P + 22) = mv_a h (P + 22)) {LW : List Nat} {lo : Nat} {a : Int32} {D : DnS} {LW' : List Nat} {hi : Nat} (s : BKq P h S LW lo a D LW' hi) : BKq P h' S' LW lo a D LW' hi := by
  obtain ⟨L, q⟩ := s
  exact ⟨L, q.cg hS h22⟩
theorem IFq.cg {P T : Nat} {h h' : mv_H} {C : List Nat} {B B' : BKt} (hB : ∀ LW lo a D LW' hi, B LW lo a D LW' hi → B' LW lo a D LW' hi) (f : AFr P h h') : ∀ {L LW : List Nat} {lo : Nat} {D : DnS} {LW' : List Nat} {hi : Nat}, IFq P h T C B L LW lo D LW' hi → IFq P h' T C B' L LW lo D LW' hi := by
  intro L
  induction L with
  | nil => intro LW lo D LW' hi s; exact s
  | cons x L ih =>
    intro LW lo D LW' hi s
    obtain ⟨y, n, Dy, D1, LW1, m1, D2, ⟨s1, s2, s3, s4, s5, ⟨lb, hlb, s6⟩, s7, s8, s9, s10⟩, s11⟩ := s
    refine ⟨y, n, Dy, D1, LW1, m1, D2, ⟨by rw [f.1 (P + 18) (by omega)]; exact s1, s2, by rw [f.1 (P + 19) (by omega)]; exact s3, s4, s5.fr (f.nf (m := x)) s4, by rw [f.1 (P + 20) (by omega)]; exact ⟨lb, hlb, hB _ _ _ _ _ _ s6⟩, s7, s8, s9, s10⟩, ?_⟩
    rw [f.1 (P + 21) (by omega), f.1 (P + 25) (by omega)]
    cases L with
    | nil =>
      obtain ⟨q1, LW2, q2, q3⟩ := s11
      exact ⟨q1, LW2, hB _ _ _ _ _ _ q2, q3⟩
    | cons x2 L =>
      obtain ⟨q1, q2, q3⟩ := s11
      exact ⟨q1, q2, ih q3⟩
theorem SN.cg {P T : Nat} {h h' : mv_H} {C : List Nat} (f : AFr P h h') : ∀ (n u : Nat) (LW : List Nat) (lo x : Nat) (D : DnS) (LW' : List Nat) (hi : Nat), SN P h T C n u LW lo x D LW' hi → SN P h' T C n u LW lo x D LW' hi := by
  intro n
  induction n with
  | zero => intro u LW lo x D LW' hi s; exact s
  | succ n ih =>
    intro u LW lo x D LW' hi s
    have e22 : mv_a h' (P + 22) = mv_a h (P + 22) := f.1 (P + 22) (by omega)
    obtain ⟨s0, s⟩ := s
    refine ⟨s0, ?_⟩
    rw [f.1 (P + 18) (by omega), f.1 (P + 19) (by omega), f.1 (P + 20) (by omega), f.1 (P + 21) (by omega), f.1 (P + 6) (by omega)]
    rcases s with s | s | s | s | s
    · obtain ⟨y, w, k, Dy, a1, a2, a3, a4, a5, a6, a7⟩ := s
      exact Or.inl ⟨y, w, k, Dy, a1, a2, a3, a4, a5, a6.fr (f.nf (m := x)) a5, a7⟩
    · obtain ⟨t, y, w, k, Dy, a1, a2, a3, a4, a5, a6, a7, a8⟩ := s
      exact Or.inr (Or.inl ⟨t, y, w, k, Dy, a1, a2, a3, a4, a5, a6, a7.fr (f.nf (m := x)) a6, a8⟩)
    · obtain ⟨t, y, z, w, wz, k, Dy, Dz, a1, a2, a3, a4, a5, a6, a7, a8, a9, a10, a11⟩ := s
      exact Or.inr (Or.inr (Or.inl ⟨t, y, z, w, wz, k, Dy, Dz, a1, a2, a3, a4, a5, a6, a7, a8, a9.fr (f.nf (m := x)) a7, a10.fr (f.nf (m := x)) a8, a11⟩))
    · exact Or.inr (Or.inr (Or.inr (Or.inl s)))
    · obtain ⟨s1, L, s2⟩ := s
      exact Or.inr (Or.inr (Or.inr (Or.inr ⟨s1, L, s2.cg (fun LW lo a D LW' hi q => q.cg (ih (u - 1)) e22) f⟩)))
/-! lets fit -/
theorem padL_ge (LW L1 : List Nat) (i : Nat) (hi : i < LW.length) : (padL LW L1)[i]? = LW[i]? := by
  unfold padL
  rw [List.getElem?_append_left hi]
theorem padL_in {LW L1 : List Nat} {i w : Nat} (h : (padL LW L1)[i]? = some w) : LW[i]? = some w ∨ w = 0 := by
  by_cases q : i < LW.length
  · left; rw [← padL_ge LW L1 i q]; exact h
  · right
    unfold padL at h
    rw [List.getElem?_append_right (by omega)] at h
    exact (List.mem_replicate.mp (List.mem_of_getElem? h)).2
theorem PxL.inn {LW L1 : List Nat} (q : PxL LW L1) {i w : Nat} (h : LW[i]? = some w) : L1[i]? = some w := by
  obtain ⟨l, rfl⟩ := q
  have hi : i < LW.length := by
    by_cases c : i < LW.length
    · exact c
    · rw [List.getElem?_eq_none (by omega)] at h; cases h
  rw [List.getElem?_append_left hi]
  exact h
theorem IFq.lw {P T : Nat} {h : mv_H} {C : List Nat} {B : BKt} : ∀ {L LW : List Nat} {lo : Nat} {D : DnS} {LW' : List Nat} {hi : Nat}, IFq P h T C B L LW lo D LW' hi → (∀ (i w : Nat), LW'[i]? = some w → LW[i]? = some w ∨ w = 0) ∧ lo < hi := by
  intro L
  induction L with
  | nil => intro LW lo D LW' hi s; exact s.elim
  | cons x L ih =>
    intro LW lo D LW' hi s
    obtain ⟨y, n, Dy, D1, LW1, m1, D2, ⟨s1, s2, s3, s4, s5, s6, s7, s8, s9, s10⟩, s11⟩ := s
    cases L with
    | nil =>
      obtain ⟨q1, LW2, q2, q3, q4, rfl⟩ := s11
      refine ⟨fun i w hw => ?_, by omega⟩
      rcases padL_in hw with c | c
      · exact padL_in c
      · exact Or.inr c
    | cons x2 L =>
      obtain ⟨q1, q2, q3⟩ := s11
      obtain ⟨i1, i2⟩ := ih q3
      refine ⟨fun i w hw => ?_, by omega⟩
      rcases i1 i w hw with c | c
      · exact padL_in c
      · exact Or.inr c
theorem ENq.pad {P T : Nat} {C LW LW' : List Nat} {e : E0q} {l : Nat → Int64} {r : Nat → Nat → Int64} {h : mv_H} (E : ENq P T C LW e l r h) (q : ∀ (i w : Nat), LW'[i]? = some w → LW[i]? = some w ∨ w = 0) : ENq P T C LW' e l r h := by
  refine ⟨E.1, E.2.1, fun i w hw h0 => ?_, E.2.2.2⟩
  rcases q i w hw with y | y
  · exact E.2.2.1 i w y h0
  · omega
