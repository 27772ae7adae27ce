/-! statements do not care where what stands elsewhere changes -/
/-- all of a range stands -/
def GSq (P lo hi : Nat) (h h' : mv_H) : Prop := NFr P 0 hi h h' ∧ (∀ o k, (o = P + 18 ∨ o = P + 19 ∨ o = P + 20 ∨ o = P + 21 ∨ o = P + 25) → lo ≤ k → k < hi → mv_a h' o k = mv_a h o k) ∧ (∀ k, lo ≤ k → k < hi → mv_a h' (P + 22) k = mv_a h (P + 22) k) ∧ ∀ k, k < 64 → mv_a h' (P + 6) k = mv_a h (P + 6) k
/-- but for what follows x -/
def FSq (P lo hi x : Nat) (h h' : mv_H) : Prop := NFr P 0 hi h h' ∧ (∀ o k, (o = P + 18 ∨ o = P + 19 ∨ o = P + 20 ∨ o = P + 21 ∨ o = P + 25) → lo ≤ k → k < hi → mv_a h' o k = mv_a h o k) ∧ (∀ k, lo ≤ k → k < hi → ¬ k = x → mv_a h' (P + 22) k = mv_a h (P + 22) k) ∧ ∀ k, k < 64 → mv_a h' (P + 6) k = mv_a h (P + 6) k
theorem NFr.le {P lo m m2 : Nat} {h h' : mv_H} (f : NFr P lo m h h') (e : m2 ≤ m) : NFr P lo m2 h h' := ⟨fun k a b c => f.1 k a (by omega) c, fun k a b c => f.2.1 k a (by omega) c, f.2.2⟩
theorem GSq.le {P lo hi lo2 hi2 : Nat} {h h' : mv_H} (g : GSq P lo hi h h') (e1 : lo ≤ lo2) (e2 : hi2 ≤ hi) : GSq P lo2 hi2 h h' := ⟨g.1.le e2, fun o k a b c => g.2.1 o k a (by omega) (by omega), fun k b c => g.2.2.1 k (by omega) (by omega), g.2.2.2⟩
theorem GSq.f {P lo hi : Nat} {h h' : mv_H} (g : GSq P lo hi h h') (x : Nat) : FSq P lo hi x h h' := ⟨g.1, g.2.1, fun k a b _ => g.2.2.1 k a b, g.2.2.2⟩
theorem FSq.g {P lo hi x lo2 hi2 : Nat} {h h' : mv_H} (g : FSq P lo hi x h h') (e1 : lo ≤ lo2) (e2 : hi2 ≤ hi) (e3 : ∀ k, lo2 ≤ k → k < hi2 → ¬ k = x) : GSq P lo2 hi2 h h' := ⟨g.1.le e2, fun o k a b c => g.2.1 o k a (by omega) (by omega), fun k b c => g.2.2.1 k (by omega) (by omega) (e3 k b c), g.2.2.2⟩
theorem NB.g {P m lo hi n : Nat} {h h' : mv_H} (b : NB P m h h') (hh : hi ≤ m) (X : SFr P n h h') : GSq P lo hi h h' := ⟨⟨fun k _ hk _ => ⟨b.1 (P + 18) k (by omega) (by omega) (by omega), b.1 (P + 19) k (by omega) (by omega) (by omega), b.1 (P + 20) k (by omega) (by omega) (by omega), b.1 (P + 21) k (by omega) (by omega) (by omega), b.1 (P + 23) k (by omega) (by omega) (by omega), b.2 k (by omega)⟩, fun k _ hk _ => b.1 (P + 22) k (by omega) (by omega) (by omega), fun o k q _ => by rw [X.a o (by omega)]⟩, fun o k q _ hk => b.1 o k (by omega) (by omega) (by omega), fun k _ hk => b.1 (P + 22) k (by omega) (by omega) (by omega), fun k _ => by rw [X.a (P + 6) (by omega)]⟩
theorem SG.fr {P : Nat} {h h' : mv_H} {S S' : SNt} (hlt : ∀ LW lo x D LW' hi, S LW lo x D LW' hi → lo ≤ x ∧ x < hi) (hS : ∀ LW lo x D LW' hi, S LW lo x D LW' hi → GSq P lo hi h h' → S' LW lo x D LW' hi) : ∀ {L LW : List Nat} {lo : Nat} {a : Int32} {D : DnS} {LW' : List Nat} {hi : Nat} {b : Int32}, SG P h S L LW lo a D LW' hi b → GSq P lo hi h h' → SG P h' S' L LW lo a D LW' hi b ∧ lo ≤ hi := by
  intro L
  induction L with
  | nil => intro LW lo a D LW' hi b s _; exact ⟨s, Nat.le_of_eq s.2.2.2⟩
  | cons x L ih =>
    intro LW lo a D LW' hi b s g
    obtain ⟨s1, D1, LW1, m1, D2, s2, s3, s4⟩ := s
    have l1 := hlt _ _ _ _ _ _ s2
    obtain ⟨i1, i2⟩ := ih s4 (g.le (by omega) (Nat.le_refl _))
    refine ⟨⟨s1, D1, LW1, m1, D2, hS _ _ _ _ _ _ s2 (g.le (Nat.le_refl _) i2), s3, ?_⟩, by omega⟩
    rw [g.2.2.1 x l1.1 (by omega)]
    exact i1
theorem IFq.fr {P T : Nat} {h h' : mv_H} {C : List Nat} {B B' : BKt} (hB : ∀ LW lo a D LW' hi, B LW lo a D LW' hi → GSq P lo hi h h' → B' LW lo a D LW' hi) : ∀ {L LW : List Nat} {lo : Nat} {D : DnS} {LW' : List Nat} {hi x0 : Nat}, IFq P h T C B L LW lo D LW' hi → FSq P lo hi x0 h h' → (x0 < lo ∨ ∃ L', L = x0 :: L') → IFq P h' T C B' L LW lo D LW' hi := by
  intro L
  induction L with
  | nil => intro LW lo D LW' hi x0 s; exact s.elim
  | cons x L ih =>
    intro LW lo D LW' hi x0 s g e0
    have hlt := s.lw.2
    obtain ⟨y, n, Dy, D1, LW1, m1, D2, ⟨s1, s2, s3, s4, s5, ⟨lb, hlb, s6⟩, s7, s8, s9, s10⟩, s11⟩ := s
    have hx : x < hi := by
      cases L with
      | nil =>
        obtain ⟨q1, LW2, q2, q3, -⟩ := s11
        omega
      | cons x2 L =>
        obtain ⟨q1, q2, q3⟩ := s11
        have := q3.lw.2
        omega
    have hx0 : x0 < lo ∨ x0 = x := by
      rcases e0 with q | ⟨L', q⟩
      · exact Or.inl q
      · right; exact (List.cons.inj q).1.symm
    have gB : GSq P lb m1 h h' := g.g hlb (by omega) (fun k a b => by omega)
    refine ⟨y, n, Dy, D1, LW1, m1, D2, ⟨by rw [g.2.1 (P + 18) x (by omega) (by omega) hx]; exact s1, s2, by rw [g.2.1 (P + 19) x (by omega) (by omega) hx]; exact s3, s4, s5.fr (g.1.le (m2 := x) (by omega)) s4, by rw [g.2.1 (P + 20) x (by omega) (by omega) hx]; exact ⟨lb, hlb, hB _ _ _ _ _ _ s6 gB⟩, s7, s8, s9, s10⟩, ?_⟩
    rw [g.2.1 (P + 21) x (by omega) (by omega) hx, g.2.1 (P + 25) x (by omega) (by omega) hx]
    cases L with
    | nil =>
      obtain ⟨q1, LW2, q2, q3⟩ := s11
      exact ⟨q1, LW2, hB _ _ _ _ _ _ q2 (g.g (by omega) (Nat.le_refl _) (fun k a b => by omega)), q3⟩
    | cons x2 L =>
      obtain ⟨q1, q2, q3⟩ := s11
      exact ⟨q1, q2, ih q3 ⟨g.1, fun o k a b c => g.2.1 o k a (by omega) c, fun k b c d => g.2.2.1 k (by omega) c d, g.2.2.2⟩ (Or.inl (by omega))⟩
theorem SN.fr {P T : Nat} {h h' : mv_H} {C : List Nat} : ∀ (n u : Nat) (LW : List Nat) (lo x : Nat) (D : DnS) (LW' : List Nat) (hi : Nat), SN P h T C n u LW lo x D LW' hi → FSq P lo hi x h h' → SN P h' T C n u LW lo x D LW' hi := by
  intro n
  induction n with
  | zero => intro u LW lo x D LW' hi s _; exact s
  | succ n ih =>
    intro u LW lo x D LW' hi s f
    obtain ⟨⟨x1, x2, x3⟩, s⟩ := s
    refine ⟨⟨x1, x2, x3⟩, ?_⟩
    rw [f.2.1 (P + 18) x (by omega) x2 x3, f.2.1 (P + 19) x (by omega) x2 x3, f.2.1 (P + 20) x (by omega) x2 x3, f.2.1 (P + 21) x (by omega) x2 x3]
    have fn : NFr P 0 x h h' := f.1.le (by omega)
    rcases s with s | s | s | s | s
    · obtain ⟨y, w, k, Dy, a1, a2, a3, a4, a5, a6, a7⟩ := s
      exact Or.inl ⟨y, w, k, Dy, a1, a2, a3, a4, a5, a6.fr fn a5, a7⟩
    · obtain ⟨t, y, w, k, Dy, a1, a2, a3, a4, a5, a6, a7, a8⟩ := s
      exact Or.inr (Or.inl ⟨t, y, w, k, Dy, a1, a2, a3, a4, a5, a6, a7.fr fn a6, by rw [f.2.2.2 t a3]; exact a8⟩)
    · obtain ⟨t, y, z, w, wz, k, Dy, Dz, a1, a2, a3, a4, a5, a6, a7, a8, a9, a10, a11⟩ := s
      exact Or.inr (Or.inr (Or.inl ⟨t, y, z, w, wz, k, Dy, Dz, a1, a2, a3, a4, a5, a6, a7, a8, a9.fr fn a7, a10.fr fn a8, by rw [f.2.2.2 t a3]; exact a11⟩))
    · exact Or.inr (Or.inr (Or.inr (Or.inl s)))
    · obtain ⟨s1, L, s2⟩ := s
      refine Or.inr (Or.inr (Or.inr (Or.inr ⟨s1, L, s2.fr (x0 := x) (fun LW lo a D LW' hi q g => ?_) f (Or.inr ⟨L, rfl⟩)⟩)))
      obtain ⟨M, q⟩ := q
      exact ⟨M, (q.fr (fun LW lo x D LW' hi z => ⟨z.lt.1, z.lt.2.1⟩) (fun LW lo x D LW' hi z g => ih (u - 1) LW lo x D LW' hi z (g.f x)) g).1⟩
theorem BKq.fr {P T : Nat} {h h' : mv_H} {C : List Nat} {n u : Nat} {LW : List Nat} {lo : Nat} {a : Int32} {D : DnS} {LW' : List Nat} {hi : Nat} (B : BKq P h (SN P h T C n u) LW lo a D LW' hi) (g : GSq P lo hi h h') : BKq P h' (SN P h' T C n u) LW lo a D LW' hi := by
  obtain ⟨M, q⟩ := B
  exact ⟨M, (q.fr (fun LW lo x D LW' hi z => ⟨z.lt.1, z.lt.2.1⟩) (fun LW lo x D LW' hi z g => SN.fr n u LW lo x D LW' hi z (g.f x)) g).1⟩
/-- more fuel -/
theorem SG.up {P : Nat} {h : mv_H} {S S' : SNt} (hS : ∀ LW lo x D LW' hi, S LW lo x D LW' hi → S' LW lo x D LW' hi) {L LW : List Nat} {lo : Nat} {a : Int32} {D : DnS} {LW' : List Nat} {hi : Nat} {b : Int32} (s : SG P h S L LW lo a D LW' hi b) : SG P h S' L LW lo a D LW' hi b := s.cg hS rfl
theorem IFq.up {P T : Nat} {h : mv_H} {C : List Nat} {B B' : BKt} (hB : ∀ LW lo a D LW' hi, B LW lo a D LW' hi → B' LW lo a D LW' hi) {L LW : List Nat} {lo : Nat} {D : DnS} {LW' : List Nat} {hi : Nat} (s : IFq P h T C B L LW lo D LW' hi) : IFq P h T C B' L LW lo D LW' hi := s.cg hB ⟨fun _ _ => rfl, fun _ _ => rfl⟩
theorem SN.up {P T : Nat} {h : mv_H} {C : List Nat} : ∀ (n u n2 u2 : Nat), n ≤ n2 → u ≤ u2 → ∀ (LW : List Nat) (lo x : Nat) (D : DnS) (LW' : List Nat) (hi : Nat), SN P h T C n u LW lo x D LW' hi → SN P h T C n2 u2 LW lo x D LW' hi := by
  intro n
  induction n with
  | zero => intro u n2 u2 _ _ LW lo x D LW' hi s; exact s.elim
  | succ n ih =>
    intro u n2 u2 h1 h2 LW lo x D LW' hi s
    obtain ⟨n2, rfl⟩ : ∃ q, n2 = q + 1 := ⟨n2 - 1, by omega⟩
    obtain ⟨s0, s⟩ := s
    refine ⟨s0, ?_⟩
    rcases s with s | s | s | s | s
    · exact Or.inl s
    · exact Or.inr (Or.inl s)
    · exact Or.inr (Or.inr (Or.inl s))
    · exact Or.inr (Or.inr (Or.inr (Or.inl s)))
    · obtain ⟨s1, L, s2⟩ := s
      refine Or.inr (Or.inr (Or.inr (Or.inr ⟨by omega, L, s2.up (fun LW lo a D LW' hi q => ?_)⟩)))
      obtain ⟨M, q⟩ := q
      exact ⟨M, q.up (ih (u - 1) n2 (u2 - 1) (by omega) (by omega))⟩
theorem BKq.up {P T : Nat} {h : mv_H} {C : List Nat} {n u n2 u2 : Nat} (h1 : n ≤ n2) (h2 : u ≤ u2) {LW : List Nat} {lo : Nat} {a : Int32} {D : DnS} {LW' : List Nat} {hi : Nat} (B : BKq P h (SN P h T C n u) LW lo a D LW' hi) : BKq P h (SN P h T C n2 u2) LW lo a D LW' hi := by
  obtain ⟨M, q⟩ := B
  exact ⟨M, q.up (SN.up n u n2 u2 h1 h2)⟩
/-! what statements do, put together -/
theorem zSq_l (b : DnS) : zSq zSk b = b := by
  funext e s
  show (if (0 : Int32) = 0 then b e s else _) = b e s
  rw [if_pos rfl]
theorem zSq_r (a : DnS) : zSq a zSk = a := by
  funext e s
  unfold zSq
  by_cases q : (a e s).1 = 0
  · rw [if_pos q]
    show ((0 : Int32), (a e s).2) = a e s
    rw [← q]
  · rw [if_neg q]
theorem zSq_a (a b c : DnS) : zSq (zSq a b) c = zSq a (zSq b c) := by
  funext e s
  unfold zSq
  by_cases q : (a e s).1 = 0
  · rw [if_pos q, if_pos q]
  · rw [if_neg q, if_neg q, if_neg q]
/-- a statement more -/
theorem SG.sn {P : Nat} {h h' : mv_H} {S S' : SNt} {x l0 m1 m2 : Nat} {Dx : DnS} {LW1 LW2 : List Nat} (hlt : ∀ LW lo x D LW' hi, S LW lo x D LW' hi → lo ≤ x ∧ x < hi) (hS : ∀ LW lo x D LW' hi, hi ≤ m1 → (x = l0 ∨ hi ≤ l0) → S LW lo x D LW' hi → S' LW lo x D LW' hi) (h1 : ∀ k, k < m1 → ¬ k = l0 → mv_a h' (P + 22) k = mv_a h (P + 22) k) (h2 : mv_a h' (P + 22) l0 = nI x) (h3 : mv_a h' (P + 22) x = -1) (hx : S' LW1 m1 x Dx LW2 m2) : ∀ {M LW : List Nat} {lo : Nat} {a : Int32} {D : DnS}, SG P h S (M ++ [l0]) LW lo a D LW1 m1 (-1) → SG P h' S' ((M ++ [l0]) ++ [x]) LW lo a (zSq D Dx) LW2 m2 (-1) ∧ l0 < m1 ∧ lo ≤ l0 := by
  intro M
  induction M with
  | nil =>
    intro LW lo a D s
    obtain ⟨s1, D1, LWa, ma, D2, s2, s3, ⟨t1, t2, t3, t4⟩⟩ := s
    subst t3 t4
    have l1 := hlt _ _ _ _ _ _ s2
    refine ⟨⟨s1, D1, LW1, ma, Dx, hS _ _ _ _ _ _ (Nat.le_refl _) (Or.inl rfl) s2, ?_, ⟨h2, Dx, LW2, m2, zSk, hx, (zSq_r Dx).symm, ⟨h3, rfl, rfl, rfl⟩⟩⟩, l1.2, l1.1⟩
    rw [s3, t2, zSq_r]
  | cons y M ih =>
    intro LW lo a D s
    obtain ⟨s1, D1, LWa, ma, D2, s2, s3, s4⟩ := s
    have l1 := hlt _ _ _ _ _ _ s2
    obtain ⟨i1, i2, i3⟩ := ih s4
    refine ⟨⟨s1, D1, LWa, ma, zSq D2 Dx, hS _ _ _ _ _ _ (by omega) (Or.inr i3) s2, ?_, ?_⟩, i2, by omega⟩
    · rw [s3, zSq_a]
    · rw [h1 y (by omega) (by omega)]
      exact i1
/-! the ifs of an if, its last one open -/
def IfO (P : Nat) (h : mv_H) (T : Nat) (C : List Nat) (B : BKt) : List Nat → List Nat → Nat → (DnS → DnS) → List Nat → Nat → Prop
  | [], _, _, _, _, _ => False
  | x :: L, LW, lo, ch, LWc, mc => ∃ y n Dy D1 LW1 m1, (mv_a h (P + 18) x = 18 ∧ x < 33000 ∧ mv_a h (P + 19) x = nI y ∧ y < x ∧ ND P h T 0 C LW n 633 y 1 Dy ∧ BLo B LW lo (mv_a h (P + 20) x) D1 LW1 m1 ∧ lo ≤ m1 ∧ m1 ≤ x ∧ PxL LW LW1) ∧ (match L with
    | [] => LWc = padL LW LW1 ∧ mc = x + 1 ∧ ch = fun e => zIf Dy D1 e
    | x2 :: _ => mv_a h (P + 21) x = nI x2 ∧ ¬ mv_a h (P + 25) x = 0 ∧ ∃ ch', ch = (fun e => zIf Dy D1 (ch' e)) ∧ IfO P h T C B L (padL LW LW1) (x + 1) ch' LWc mc)
/-- closed -/
theorem IfO.cl {P T : Nat} {h : mv_H} {C : List Nat} {B : BKt} {D2 : DnS} {LW2 : List Nat} {hi l0 : Nat} : ∀ {M LW : List Nat} {lo : Nat} {ch : DnS → DnS} {LWc : List Nat} {mc : Nat}, IfO P h T C B (M ++ [l0]) LW lo ch LWc mc → mv_a h (P + 25) l0 = 0 → B LWc mc (mv_a h (P + 21) l0) D2 LW2 hi → mc ≤ hi → PxL LWc LW2 → IFq P h T C B (M ++ [l0]) LW lo (ch D2) (padL LWc LW2) hi := by
  intro M
  induction M with
  | nil =>
    intro LW lo ch LWc mc s c1 c2 c3 c4
    obtain ⟨y, n, Dy, D1, LW1, m1, ⟨s1, s2, s3, s4, s5, s6, s7, s8, s9⟩, ⟨rfl, rfl, rfl⟩⟩ := s
    exact ⟨y, n, Dy, D1, LW1, m1, D2, ⟨s1, s2, s3, s4, s5, s6, s7, s8, s9, rfl⟩, ⟨c1, LW2, c2, c3, c4, rfl⟩⟩
  | cons x M ih =>
    intro LW lo ch LWc mc s c1 c2 c3 c4
    obtain ⟨y, n, Dy, D1, LW1, m1, ⟨s1, s2, s3, s4, s5, s6, s7, s8, s9⟩, s11⟩ := s
    cases M with
    | nil =>
      obtain ⟨q1, q2, ch', rfl, q3⟩ := s11
      exact ⟨y, n, Dy, D1, LW1, m1, ch' D2, ⟨s1, s2, s3, s4, s5, s6, s7, s8, s9, rfl⟩, ⟨q1, q2, ih q3 c1 c2 c3 c4⟩⟩
    | cons x2 M =>
      obtain ⟨q1, q2, ch', rfl, q3⟩ := s11
      exact ⟨y, n, Dy, D1, LW1, m1, ch' D2, ⟨s1, s2, s3, s4, s5, s6, s7, s8, s9, rfl⟩, ⟨q1, q2, ih q3 c1 c2 c3 c4⟩⟩
/-- its bounds; what its lets are -/
theorem IfO.mc {P T : Nat} {h : mv_H} {C : List Nat} {B : BKt} {l0 : Nat} : ∀ {M LW : List Nat} {lo : Nat} {ch : DnS → DnS} {LWc : List Nat} {mc : Nat}, IfO P h T C B (M ++ [l0]) LW lo ch LWc mc → mc = l0 + 1 ∧ lo ≤ l0 ∧ l0 < 33000 ∧ mv_a h (P + 18) l0 = 18 ∧ (∃ k, LWc = LW ++ List.replicate k 0) := by
  intro M
  induction M with
  | nil =>
    intro LW lo ch LWc mc s
    obtain ⟨y, n, Dy, D1, LW1, m1, ⟨s1, s2, s3, s4, s5, s6, s7, s8, s9⟩, ⟨rfl, rfl, rfl⟩⟩ := s
    exact ⟨rfl, by omega, s2, s1, _, rfl⟩
  | cons x M ih =>
    intro LW lo ch LWc mc s
    obtain ⟨y, n, Dy, D1, LW1, m1, ⟨s1, s2, s3, s4, s5, s6, s7, s8, s9⟩, s11⟩ := s
    have go : ∀ ch', IfO P h T C B (M ++ [l0]) (padL LW LW1) (x + 1) ch' LWc mc → mc = l0 + 1 ∧ lo ≤ l0 ∧ l0 < 33000 ∧ mv_a h (P + 18) l0 = 18 ∧ (∃ k, LWc = LW ++ List.replicate k 0) := fun ch' q => by
      obtain ⟨i1, i2, i3, i4, k, i5⟩ := ih q
      refine ⟨i1, by omega, i3, i4, (LW1.length - LW.length) + k, ?_⟩
      rw [i5]
      unfold padL
      rw [List.append_assoc, List.replicate_append_replicate]
    cases M with
    | nil =>
      obtain ⟨q1, q2, ch', -, q3⟩ := s11
      exact go ch' q3
    | cons x2 M =>
      obtain ⟨q1, q2, ch', -, q3⟩ := s11
      exact go ch' q3
/-- an if more -/
theorem IfO.sn {P T : Nat} {h h' : mv_H} {C : List Nat} {B B' : BKt} {x l0 : Nat} {ch2 : DnS → DnS} {LWc LWd : List Nat} {mc md : Nat} (hB : ∀ LW lo a D LW' hi, hi ≤ l0 → B LW lo a D LW' hi → B' LW lo a D LW' hi) (hN : NFr P 0 l0 h h') (hr : ∀ o k, (o = P + 18 ∨ o = P + 19 ∨ o = P + 20) → k < mc → mv_a h' o k = mv_a h o k) (hr2 : ∀ o k, (o = P + 21 ∨ o = P + 25) → k < l0 → mv_a h' o k = mv_a h o k) (h1 : mv_a h' (P + 21) l0 = nI x) (h2 : ¬ mv_a h' (P + 25) l0 = 0) (hx : IfO P h' T C B' [x] LWc mc ch2 LWd md) : ∀ {M LW : List Nat} {lo : Nat} {ch : DnS → DnS}, IfO P h T C B (M ++ [l0]) LW lo ch LWc mc → IfO P h' T C B' ((M ++ [l0]) ++ [x]) LW lo (fun e => ch (ch2 e)) LWd md := by
  intro M
  induction M with
  | nil =>
    intro LW lo ch s
    obtain ⟨y, n, Dy, D1, LW1, m1, ⟨s1, s2, s3, s4, s5, ⟨lb, hlb, s6⟩, s7, s8, s9⟩, ⟨rfl, rfl, rfl⟩⟩ := s
    refine ⟨y, n, Dy, D1, LW1, m1, ⟨by rw [hr (P + 18) l0 (by omega) (by omega)]; exact s1, s2, by rw [hr (P + 19) l0 (by omega) (by omega)]; exact s3, s4, s5.fr hN s4, by rw [hr (P + 20) l0 (by omega) (by omega)]; exact ⟨lb, hlb, hB _ _ _ _ _ _ s8 s6⟩, s7, s8, s9⟩, ⟨h1, h2, ch2, rfl, hx⟩⟩
  | cons z M ih =>
    intro LW lo ch s
    have hmc := s.mc
    obtain ⟨y, n, Dy, D1, LW1, m1, ⟨s1, s2, s3, s4, s5, ⟨lb, hlb, s6⟩, s7, s8, s9⟩, s11⟩ := s
    have hz : z < l0 ∧ mc = l0 + 1 := by
      cases M with
      | nil =>
        obtain ⟨q1, q2, ch', -, q3⟩ := s11
        have := q3.mc (M := [])
        omega
      | cons x2 M =>
        obtain ⟨q1, q2, ch', -, q3⟩ := s11
        have := q3.mc (M := x2 :: M)
        omega
    refine ⟨y, n, Dy, D1, LW1, m1, ⟨by rw [hr (P + 18) z (by omega) (by omega)]; exact s1, s2, by rw [hr (P + 19) z (by omega) (by omega)]; exact s3, s4, s5.fr hN (by omega), by rw [hr (P + 20) z (by omega) (by omega)]; exact ⟨lb, hlb, hB _ _ _ _ _ _ (by omega) s6⟩, s7, s8, s9⟩, ?_⟩
    cases M with
    | nil =>
      obtain ⟨q1, q2, ch', rfl, q3⟩ := s11
      refine ⟨by rw [hr2 (P + 21) z (by omega) hz.1]; exact q1, by rw [hr2 (P + 25) z (by omega) hz.1]; exact q2, fun e => ch' (ch2 e), rfl, ih q3⟩
    | cons x2 M =>
      obtain ⟨q1, q2, ch', rfl, q3⟩ := s11
      refine ⟨by rw [hr2 (P + 21) z (by omega) hz.1]; exact q1, by rw [hr2 (P + 25) z (by omega) hz.1]; exact q2, fun e => ch' (ch2 e), rfl, ih q3⟩
