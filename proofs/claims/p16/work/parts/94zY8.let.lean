/-! bodies do not look at lets that stood before -/
def AgL (LW : List Nat) (l l' : Nat → Int64) : Prop := ∀ (i w : Nat), LW[i]? = some w → 0 < w → l' i = l i
theorem jn_cg {e : E0q} {l l' : Nat → Int64} {r : Nat → Nat → Int64} : ∀ (L : List (Nat × Nat × DnE)) (w : Nat) (D : DnE) (w' : Nat) (D' : DnE), joinL L w D = (w', D') → D e l' r = D e l r → (∀ q, q ∈ L → q.2.2 e l' r = q.2.2 e l r) → D' e l' r = D' e l r := by
  intro L
  induction L with
  | nil =>
    intro w D w' D' ej hD _
    have ej : (w, D) = (w', D') := ej
    cases ej
    exact hD
  | cons p L ih =>
    intro w D w' D' ej hD hL
    refine ih (w + p.2.1) (d2 309 (nJ p.2.1) D p.2.2) w' D' ej ?_ (fun q hq => hL q (List.mem_cons_of_mem _ hq))
    unfold d2
    rw [hD, hL p (List.mem_cons_self ..)]
theorem ND.inn {P T : Nat} {h : mv_H} {C LW : List Nat} {e : E0q} {l l' : Nat → Int64} {r : Nat → Nat → Int64} (A : AgL LW l l') : ∀ {n rr x w : Nat} {D : DnE}, ND P h T 0 C LW n rr x w D → D e l' r = D e l r := by
  intro n
  induction n with
  | zero => intro rr x w D N; exact N.elim
  | succ n ih =>
    intro rr x w D N
    obtain ⟨⟨n1, n2, n3, n4, n5⟩, N⟩ := N
    rcases N with N | N | N | N | N | N | N | N | N | N | N | N
    · obtain ⟨-, a2, rfl⟩ := N; rfl
    · obtain ⟨t, a1, a2, a3, b3, rfl, a5, a6⟩ := N; rfl
    · obtain ⟨t, y, wy, Dy, a1, a2, a3, b3, a4, a5, a6, rfl, a8, a9⟩ := N
      unfold dCel
      rw [ih a6]
    · obtain ⟨c, a1, a2, a3, rfl, a5⟩ := N; rfl
    · obtain ⟨i, a1, a2, a3, a4, rfl⟩ := N
      unfold dLet
      rw [A i w a4 n2]
    · obtain ⟨y, Dy, k, a1, a2, a3, a4, a5, a6, rfl⟩ := N
      unfold d1
      rw [ih a6]
    · obtain ⟨y, z, wy, wz, Dy, Dz, ko, k, a1, a2, a3, a4, a5, a6, a7, a8, a9, a10, rfl⟩ := N
      unfold d2
      rw [ih a8, ih a9]
    · obtain ⟨y, wy, Dy, hi, lo, a1, a2, a3, a4, a5, a6, a7, a8, rfl⟩ := N
      unfold d1
      rw [ih a8]
    · obtain ⟨y, z, u, Dy, Dz, Du, a1, a2, a3, a4, a5, a6, a7, a8, a9, a10, rfl⟩ := N
      unfold dCh
      rw [ih a8, ih a9, ih a10]
    · obtain ⟨p, L, a1, a2, a3, a4, a5⟩ := N
      exact jn_cg L p.2.1 p.2.2 w D a5 (ih (a4 p (List.mem_cons_self ..)).2) (fun q hq => ih (a4 q (List.mem_cons_of_mem _ hq)).2)
    · obtain ⟨y, wy, Dy, a1, a2, a3, a4, a5, rfl⟩ := N
      unfold d1
      rw [ih a5]
    · obtain ⟨y, wy, a1, a2, a3, a4, a5⟩ := N
      exact ih a5
/-- what D does hangs on the lets of LW alone; behind it those of LW' agree -/
def IDq (LW LW' : List Nat) (D : DnS) : Prop := ∀ (e : E0q) (l l' : Nat → Int64) (r : (Nat → Nat → Int64) × (Nat → Bool)), AgL LW l l' → (D e (l', r)).1 = (D e (l, r)).1 ∧ (D e (l', r)).2.2 = (D e (l, r)).2.2 ∧ ((D e (l, r)).1 = 0 → AgL LW' (D e (l, r)).2.1 (D e (l', r)).2.1)
theorem AgL.pad {LW LW' : List Nat} {l l' : Nat → Int64} (A : AgL LW l l') (q : ∀ (i w : Nat), LW'[i]? = some w → LW[i]? = some w ∨ w = 0) : AgL LW' l l' := fun i w hw h0 => by
  rcases q i w hw with y | y
  · exact A i w y h0
  · omega
theorem IDq.pad {LW LW1 LW' : List Nat} {D : DnS} (I : IDq LW LW1 D) (q : ∀ (i w : Nat), LW'[i]? = some w → LW1[i]? = some w ∨ w = 0) : IDq LW LW' D := fun e l l' r A => ⟨(I e l l' r A).1, (I e l l' r A).2.1, fun z => ((I e l l' r A).2.2 z).pad q⟩
theorem IDq.pre {LW LW1 LW' : List Nat} {D : DnS} (I : IDq LW LW' D) (q : ∀ (i w : Nat), LW[i]? = some w → LW1[i]? = some w ∨ w = 0) : IDq LW1 LW' D := fun e l l' r A => I e l l' r (A.pad q)
theorem IDq.sk (LW : List Nat) : IDq LW LW zSk := fun e l l' r A => ⟨rfl, rfl, fun _ => A⟩
theorem IDq.sq {LW LW1 LW2 : List Nat} {a b : DnS} (A : IDq LW LW1 a) (B : IDq LW1 LW2 b) : IDq LW LW2 (zSq a b) := fun e l l' r G => by
  obtain ⟨a1, a2, a3⟩ := A e l l' r G
  by_cases z : (a e (l, r)).1 = 0
  · have e1 : zSq a b e (l, r) = b e (a e (l, r)).2 := by unfold zSq; rw [if_pos z]
    have e2 : zSq a b e (l', r) = b e (a e (l', r)).2 := by unfold zSq; rw [if_pos (by rw [a1]; exact z)]
    have B1 := B e (a e (l, r)).2.1 (a e (l', r)).2.1 (a e (l, r)).2.2 (a3 z)
    have e3 : (a e (l', r)).2 = ((a e (l', r)).2.1, (a e (l, r)).2.2) := by rw [← a2]
    rw [e1, e2, e3]
    exact B1
  · have e1 : zSq a b e (l, r) = a e (l, r) := by unfold zSq; rw [if_neg z]
    have e2 : zSq a b e (l', r) = a e (l', r) := by unfold zSq; rw [if_neg (by rw [a1]; exact z)]
    rw [e1, e2]
    exact ⟨a1, a2, fun y => absurd y z⟩
theorem IDq.if' {LW LW' : List Nat} {c : DnE} {a b : DnS} (hc : ∀ (e : E0q) (l l' : Nat → Int64) (r : Nat → Nat → Int64), AgL LW l l' → c e l' r = c e l r) (A : IDq LW LW' a) (B : IDq LW LW' b) : IDq LW LW' (zIf c a b) := fun e l l' r G => by
  have e0 := hc e l l' r.1 G
  cases q : c e l r.1 with
  | none =>
    have e1 : zIf c a b e (l, r) = (-3, (l, r)) := by
      unfold zIf
      show (match c e l r.1 with | none => _ | some v => _) = _
      rw [q]
    have e2 : zIf c a b e (l', r) = (-3, (l', r)) := by
      unfold zIf
      show (match c e l' r.1 with | none => _ | some v => _) = _
      rw [e0, q]
    rw [e1, e2]
    exact ⟨rfl, rfl, fun y => absurd y m3n⟩
  | some v =>
    have e1 : zIf c a b e (l, r) = if v = 0 then b e (l, r) else a e (l, r) := by
      unfold zIf
      show (match c e l r.1 with | none => _ | some v => _) = _
      rw [q]
    have e2 : zIf c a b e (l', r) = if v = 0 then b e (l', r) else a e (l', r) := by
      unfold zIf
      show (match c e l' r.1 with | none => _ | some v => _) = _
      rw [e0, q]
    rw [e1, e2]
    by_cases z : v = 0
    · rw [if_pos z, if_pos z]; exact B e l l' r G
    · rw [if_neg z, if_neg z]; exact A e l l' r G
theorem SG.inn {P : Nat} {h : mv_H} {S : SNt} (hS : ∀ LW lo x D LW' hi, S LW lo x D LW' hi → IDq LW LW' D) {b : Int32} : ∀ {L LW : List Nat} {lo : Nat} {a : Int32} {D : DnS} {LW' : List Nat} {hi : Nat}, SG P h S L LW lo a D LW' hi b → IDq LW LW' D := by
  intro L
  induction L with
  | nil =>
    intro LW lo a D LW' hi s
    obtain ⟨-, rfl, rfl, -⟩ := s
    exact IDq.sk _
  | cons x L ih =>
    intro LW lo a D LW' hi s
    obtain ⟨s1, D1, LW1, m1, D2, s2, rfl, s4⟩ := s
    exact (hS _ _ _ _ _ _ s2).sq (ih s4)
theorem IFq.inn {P T : Nat} {h : mv_H} {C : List Nat} {B : BKt} (hB : ∀ LW lo a D LW' hi, B LW lo a D LW' hi → IDq LW LW' D) : ∀ {L LW : List Nat} {lo : Nat} {D : DnS} {LW' : List Nat} {hi : Nat}, IFq P h T C B L LW lo D LW' hi → IDq LW LW' D := by
  intro L
  induction L with
  | nil => intro LW lo D LW' hi s; exact s.elim
  | cons x L ih =>
    intro LW lo D LW' hi s
    have hl := s.lw.1
    obtain ⟨y, n, Dy, D1, LW1, m1, D2, ⟨s1, s2, s3, s4, s5, ⟨lb, hlb, s6⟩, s7, s8, s9, rfl⟩, s11⟩ := s
    have I1 : IDq LW LW' D1 := (hB _ _ _ _ _ _ s6).pad (fun i w hw => by
      rcases hl i w hw with y | y
      · exact Or.inl (s9.inn y)
      · exact Or.inr y)
    have px : ∀ (i w : Nat), (padL LW LW1)[i]? = some w → LW[i]? = some w ∨ w = 0 := fun i w hw => padL_in hw
    refine IDq.if' (fun e l l' r A => s5.inn A) I1 ?_
    cases L with
    | nil =>
      obtain ⟨q1, LW2, q2, q3, q4, rfl⟩ := s11
      refine ((hB _ _ _ _ _ _ q2).pad (fun i w hw => ?_)).pre px
      rcases padL_in hw with y | y
      · exact Or.inl (q4.inn y)
      · exact Or.inr y
    | cons x2 L =>
      obtain ⟨q1, q2, q3⟩ := s11
      exact (ih q3).pre px
theorem SN.inn {P T : Nat} {h : mv_H} {C : List Nat} : ∀ (n u : Nat) (LW : List Nat) (lo x : Nat) (D : DnS) (LW' : List Nat) (hi : Nat), SN P h T C n u LW lo x D LW' hi → IDq LW LW' D := by
  intro n
  induction n with
  | zero => intro u LW lo x D LW' hi s; exact s.elim
  | succ n ih =>
    intro u LW lo x D LW' hi s
    obtain ⟨s0, s⟩ := s
    rcases s with s | s | s | s | s
    · obtain ⟨y, w, k, Dy, a1, a2, a3, a4, a5, a6, rfl, rfl⟩ := s
      intro e l l' r A
      have e0 := a6.inn (e := e) (r := r.1) A
      cases q : Dy e l r.1 with
      | none =>
        have e1 : zLt LW.length Dy e (l, r) = (-3, (l, r)) := by
          unfold zLt
          show (match Dy e l r.1 with | none => _ | some v => _) = _
          rw [q]
        have e2 : zLt LW.length Dy e (l', r) = (-3, (l', r)) := by
          unfold zLt
          show (match Dy e l' r.1 with | none => _ | some v => _) = _
          rw [e0, q]
        rw [e1, e2]
        exact ⟨rfl, rfl, fun y => absurd y m3n⟩
      | some v =>
        have e1 : zLt LW.length Dy e (l, r) = (0, (fun k => if k = LW.length then v else l k, r)) := by
          unfold zLt
          show (match Dy e l r.1 with | none => _ | some v => _) = _
          rw [q]
        have e2 : zLt LW.length Dy e (l', r) = (0, (fun k => if k = LW.length then v else l' k, r)) := by
          unfold zLt
          show (match Dy e l' r.1 with | none => _ | some v => _) = _
          rw [e0, q]
        rw [e1, e2]
        refine ⟨rfl, rfl, fun _ i u hu h0 => ?_⟩
        show (if i = LW.length then v else l' i) = if i = LW.length then v else l i
        by_cases c : i = LW.length
        · rw [if_pos c, if_pos c]
        · rw [if_neg c, if_neg c]
          by_cases c2 : i < LW.length
          · rw [List.getElem?_append_left c2] at hu
            exact A i u hu h0
          · rw [List.getElem?_eq_none (by rw [List.length_append]; show LW.length + 1 ≤ i; omega)] at hu
            cases hu
    · obtain ⟨t, y, w, k, Dy, a1, a2, a3, a4, a5, a6, a7, a8, rfl, rfl⟩ := s
      intro e l l' r A
      have e0 := a7.inn (e := e) (r := r.1) A
      cases q : Dy e l r.1 with
      | none =>
        have e1 : zRg t Dy e (l, r) = (-3, (l, r)) := by
          unfold zRg
          show (match Dy e l r.1 with | none => _ | some v => _) = _
          rw [q]
        have e2 : zRg t Dy e (l', r) = (-3, (l', r)) := by
          unfold zRg
          show (match Dy e l' r.1 with | none => _ | some v => _) = _
          rw [e0, q]
        rw [e1, e2]
        exact ⟨rfl, rfl, fun y => absurd y m3n⟩
      | some v =>
        have e1 : zRg t Dy e (l, r) = (0, (l, wrT e t 0 v r.1, fun k => if k = t then true else r.2 k)) := by
          unfold zRg
          show (match Dy e l r.1 with | none => _ | some v => _) = _
          rw [q]
        have e2 : zRg t Dy e (l', r) = (0, (l', wrT e t 0 v r.1, fun k => if k = t then true else r.2 k)) := by
          unfold zRg
          show (match Dy e l' r.1 with | none => _ | some v => _) = _
          rw [e0, q]
        rw [e1, e2]
        exact ⟨rfl, rfl, fun _ => A⟩
    · obtain ⟨t, y, z, w, wz, k, Dy, Dz, a1, a2, a3, a4, a5, a6, a7, a8, a9, a10, a11, rfl, rfl⟩ := s
      intro e l l' r A
      have e0 := a9.inn (e := e) (r := r.1) A
      have e9 := a10.inn (e := e) (r := r.1) A
      have ec : ∀ m : Nat → Int64, Dy e m r.1 = Dy e l r.1 → Dz e m r.1 = Dz e l r.1 → (zCl t Dz Dy e (m, r)).1 = (zCl t Dz Dy e (l, r)).1 ∧ (zCl t Dz Dy e (m, r)).2.2 = (zCl t Dz Dy e (l, r)).2.2 ∧ (zCl t Dz Dy e (m, r)).2.1 = m := fun m m1 m2 => by
        unfold zCl
        show ((match Dz e m r.1, Dy e m r.1 with | some i, some v => _ | _, _ => _) : Int32 × STq).1 = ((match Dz e l r.1, Dy e l r.1 with | some i, some v => _ | _, _ => _) : Int32 × STq).1 ∧ ((match Dz e m r.1, Dy e m r.1 with | some i, some v => _ | _, _ => _) : Int32 × STq).2.2 = ((match Dz e l r.1, Dy e l r.1 with | some i, some v => _ | _, _ => _) : Int32 × STq).2.2 ∧ ((match Dz e m r.1, Dy e m r.1 with | some i, some v => _ | _, _ => _) : Int32 × STq).2.1 = m
        rw [m1, m2]
        cases Dz e l r.1 with
        | none => exact ⟨rfl, rfl, rfl⟩
        | some i =>
          cases Dy e l r.1 with
          | none => exact ⟨rfl, rfl, rfl⟩
          | some v =>
            by_cases c : i.toBitVec.toNat < (e.2 t).2.1
            · simp only [if_pos c]; exact ⟨trivial, trivial, trivial⟩
            · simp only [if_neg c]; exact ⟨trivial, trivial, trivial⟩
      obtain ⟨x1, x2, x3⟩ := ec l' e0 e9
      obtain ⟨-, -, y3⟩ := ec l rfl rfl
      refine ⟨x1, x2, fun _ => ?_⟩
      rw [x3, y3]
      exact A
    · obtain ⟨k, a1, a2, a3, a4, rfl, rfl⟩ := s
      exact fun e l l' r A => ⟨rfl, rfl, fun _ => A⟩
    · obtain ⟨s1, L, s2⟩ := s
      exact s2.inn (fun LW lo a D LW' hi q => by
        obtain ⟨L, q⟩ := q
        exact q.inn (ih (u - 1)))
/-- an op's body hangs on no lets that stood before -/
theorem BKq.in0 {P T : Nat} {h : mv_H} {C : List Nat} {n u lo : Nat} {a : Int32} {D : DnS} {LW' : List Nat} {hi : Nat} (B : BKq P h (SN P h T C n u) [] lo a D LW' hi) (e : E0q) (l l' : Nat → Int64) (r : (Nat → Nat → Int64) × (Nat → Bool)) : (D e (l', r)).1 = (D e (l, r)).1 ∧ (D e (l', r)).2.2 = (D e (l, r)).2.2 := by
  obtain ⟨L, q⟩ := B
  have := q.inn (SN.inn n u) e l l' r (fun i w hw => by cases hw)
  exact ⟨this.1, this.2.1⟩
