/-! the code of an EXPR that is not over: what the marks hold of it; r: the marks' row of payloads -/
def LEM (L : CDq) (r : Nat → Int32) (e0 : Nat) : List MkA → MDq → List DnE → Nat → Prop
  | [], md, hd, a => md = [] ∧ hd = [] ∧ a = e0
  | m :: M, md, hd, a => ∃ (Dc : DnE) (t : Nat) (md' : MDq), md = (Dc, t) :: md' ∧
      (if m.k = 63 then ∃ a0 y, SgE L a0 y Dc ∧ L y = (312, 0) ∧ a = y + 1 ∧ r M.length = nI y ∧ LEM L r e0 M md' hd a0
      else if m.k = 58 then ∃ (a0 y z0 : Nat) (Dy : DnE) (hd' : List DnE), hd = Dy :: hd' ∧ SgE L a0 y Dc ∧ L y = (312, nJ (z0 + 1)) ∧ SgE L (y + 1) z0 Dy ∧ L z0 = (311, 0) ∧ a = z0 + 1 ∧ r M.length = nI z0 ∧ LEM L r e0 M md' hd' a0
      else (m.k = 91 → r M.length = nI t ∧ t < 64) ∧ if nHm m = 1 then ∃ (a0 : Nat) (D : DnE) (hd' : List DnE), hd = D :: hd' ∧ SgE L a0 a D ∧ LEM L r e0 M md' hd' a0 else LEM L r e0 M md' hd a)
theorem LEM.le {L : CDq} {r : Nat → Int32} {e0 : Nat} : ∀ {M : List MkA} {md : MDq} {hd : List DnE} {a : Nat}, LEM L r e0 M md hd a → e0 ≤ a := by
  intro M
  induction M with
  | nil => intro md hd a h; exact Nat.le_of_eq h.2.2.symm
  | cons m M ih =>
    intro md hd a h
    obtain ⟨Dc, t, md', -, h⟩ := h
    by_cases c1 : m.k = 63
    · rw [if_pos c1] at h
      obtain ⟨a0, y, s1, -, s3, -, s5⟩ := h
      have := ih s5
      have := s1.1
      omega
    rw [if_neg c1] at h
    by_cases c2 : m.k = 58
    · rw [if_pos c2] at h
      obtain ⟨a0, y, z0, Dy, hd', -, s1, -, s3, -, s5, -, s7⟩ := h
      have := ih s7
      have := s1.1
      have := s3.1
      omega
    rw [if_neg c2] at h
    obtain ⟨-, h⟩ := h
    by_cases c3 : nHm m = 1
    · rw [if_pos c3] at h
      obtain ⟨a0, D, hd', -, s1, s2⟩ := h
      have := ih s2
      have := s1.1
      omega
    · rw [if_neg c3] at h
      exact ih h
/-- the code below a and the payloads stand -/
theorem LEM.up {L L2 : CDq} {r r2 : Nat → Int32} {e0 : Nat} : ∀ {M : List MkA} {md : MDq} {hd : List DnE} {a : Nat}, LEM L r e0 M md hd a → (∀ i, e0 ≤ i → i < a → L2 i = L i) → (∀ i, i < M.length → r2 i = r i) → LEM L2 r2 e0 M md hd a := by
  intro M
  induction M with
  | nil => intro md hd a h _ _; exact h
  | cons m M ih =>
    intro md hd a h hL hr
    obtain ⟨Dc, t, md', e, h⟩ := h
    have hr0 : r2 M.length = r M.length := hr _ (Nat.lt_succ_self _)
    have hr1 : ∀ i, i < M.length → r2 i = r i := fun i q => hr i (Nat.lt_succ_of_lt q)
    refine ⟨Dc, t, md', e, ?_⟩
    by_cases c1 : m.k = 63
    · rw [if_pos c1] at h ⊢
      obtain ⟨a0, y, s1, s2, s3, s4, s5⟩ := h
      have l0 := s5.le
      have l1 := s1.1
      exact ⟨a0, y, s1.up (fun i q1 q2 => hL i (by omega) (by omega)), by rw [hL y (by omega) (by omega)]; exact s2, s3, by rw [hr0]; exact s4, ih s5 (fun i q1 q2 => hL i q1 (by omega)) hr1⟩
    rw [if_neg c1] at h ⊢
    by_cases c2 : m.k = 58
    · rw [if_pos c2] at h ⊢
      obtain ⟨a0, y, z0, Dy, hd', s0, s1, s2, s3, s4, s5, s6, s7⟩ := h
      have l0 := s7.le
      have l1 := s1.1
      have l3 := s3.1
      exact ⟨a0, y, z0, Dy, hd', s0, s1.up (fun i q1 q2 => hL i (by omega) (by omega)), by rw [hL y (by omega) (by omega)]; exact s2, s3.up (fun i q1 q2 => hL i (by omega) (by omega)), by rw [hL z0 (by omega) (by omega)]; exact s4, s5, by rw [hr0]; exact s6, ih s7 (fun i q1 q2 => hL i q1 (by omega)) hr1⟩
    rw [if_neg c2] at h ⊢
    obtain ⟨h0, h⟩ := h
    refine ⟨fun z => by rw [hr0]; exact h0 z, ?_⟩
    by_cases c3 : nHm m = 1
    · rw [if_pos c3] at h ⊢
      obtain ⟨a0, D, hd', s0, s1, s2⟩ := h
      have l0 := s2.le
      have l1 := s1.1
      exact ⟨a0, D, hd', s0, s1.up (fun i q1 q2 => hL i (by omega) (by omega)), ih s2 (fun i q1 q2 => hL i q1 (by omega)) hr1⟩
    · rw [if_neg c3] at h ⊢
      exact ih h hL hr1
/-- behind an operand: its code ends at z -/
def L3 (L : CDq) (r : Nat → Int32) (e0 : Nat) (M : List MkA) (md : MDq) (hd : List DnE) (z : Nat) : Prop := ∃ (D : DnE) (hd' : List DnE) (a : Nat), hd = D :: hd' ∧ SgE L a z D ∧ LEM L r e0 M md hd' a
def uL (L : CDq) (z : Nat) (x : Nat × Int64) : CDq := fun i => if i = z then x else L i
theorem uL_s (L : CDq) (z : Nat) (x : Nat × Int64) : uL L z x z = x := if_pos rfl
theorem uL_n (L : CDq) {z i : Nat} (x : Nat × Int64) (h : ¬ i = z) : uL L z x i = L i := if_neg h
section LS
variable {L : CDq} {r : Nat → Int32} {e0 : Nat} {M : List MkA} {md : MDq} {hd : List DnE} {z : Nat}
theorem L3.up {L2 : CDq} {r2 : Nat → Int32} (h : L3 L r e0 M md hd z) (hL : ∀ i, e0 ≤ i → i < z → L2 i = L i) (hr : ∀ i, i < M.length → r2 i = r i) : L3 L2 r2 e0 M md hd z := by
  obtain ⟨D, hd', a, e, s, l⟩ := h
  have l0 := l.le
  have l1 := s.1
  exact ⟨D, hd', a, e, s.up (fun i q1 q2 => hL i (by omega) q2), l.up (fun i q1 q2 => hL i q1 (by omega)) hr⟩
/-- a mark that holds nothing -/
theorem LEM.mk0 {m : MkA} {r2 : Nat → Int32} (t : Nat) (h : LEM L r e0 M md hd z) (h1 : ¬ m.k = 63) (h2 : ¬ m.k = 58) (h3 : ¬ nHm m = 1) (h9 : m.k = 91 → r2 M.length = nI t ∧ t < 64) (hr : ∀ i, i < M.length → r2 i = r i) : LEM L r2 e0 (m :: M) ((dN, t) :: md) hd z := by
  refine ⟨dN, t, md, rfl, ?_⟩
  rw [if_neg h1, if_neg h2, if_neg h3]
  exact ⟨h9, h.up (fun _ _ _ => rfl) hr⟩
/-- a binary's mark holds one -/
theorem L3.mk1 {m : MkA} {r2 : Nat → Int32} (h : L3 L r e0 M md hd z) (h1 : ¬ m.k = 63) (h2 : ¬ m.k = 58) (h3 : nHm m = 1) (h9 : ¬ m.k = 91) (hr : ∀ i, i < M.length → r2 i = r i) (D0 : DnE) (t : Nat) : LEM L r2 e0 (m :: M) ((D0, t) :: md) hd z := by
  obtain ⟨D, hd', a, e, s, l⟩ := h
  refine ⟨D0, t, md, rfl, ?_⟩
  rw [if_neg h1, if_neg h2, if_pos h3]
  exact ⟨fun q => absurd q h9, a, D, hd', e, s, l.up (fun _ _ _ => rfl) hr⟩
/-- an operand of one doing -/
theorem LEM.op {D : DnE} {x : Nat × Int64} (h : LEM L r e0 M md hd z) (s : ∀ L' : CDq, L' z = x → SgE L' z (z + 1) D) : L3 (uL L z x) r e0 M md (D :: hd) (z + 1) :=
  ⟨D, hd, z, rfl, s _ (uL_s L z x), h.up (fun i _ q => uL_n L x (by omega)) (fun _ _ => rfl)⟩
/-- the value on top is worked on -/
theorem L3.o1 {k : Nat} {w : Int64} (h : L3 L r e0 M md hd z) (hk : k = 305 ∨ k = 306 ∨ k = 307 ∨ k = 308 ∨ k = 310) : L3 (uL L z (k, w)) r e0 M md (d1 k w (hd.headD dN) :: hd.tail) (z + 1) := by
  obtain ⟨D, hd', a, e, s, l⟩ := h
  subst e
  have l1 := s.1
  refine ⟨_, hd', a, rfl, (s.up (fun i _ q => uL_n L (k, w) (by omega))).o1 (uL_s L z (k, w)) hk, l.up (fun i _ q => uL_n L (k, w) (by omega)) (fun _ _ => rfl)⟩
theorem L3.ce {t : Nat} (ht : t < 64) (h : L3 L r e0 M md hd z) : L3 (uL L z (304, nJ t)) r e0 M md (dCel t (hd.headD dN) :: hd.tail) (z + 1) := by
  obtain ⟨D, hd', a, e, s, l⟩ := h
  subst e
  have l1 := s.1
  exact ⟨_, hd', a, rfl, SgE.ce (by omega) (s.up (fun i _ q => uL_n L _ (by omega))) (uL_s L z _), l.up (fun i _ q => uL_n L _ (by omega)) (fun _ _ => rfl)⟩
/-- a mark that holds nothing goes -/
theorem L3.po0 {m : MkA} (h : L3 L r e0 (m :: M) md hd z) (h1 : ¬ m.k = 63) (h2 : ¬ m.k = 58) (h3 : ¬ nHm m = 1) : L3 L r e0 M md.tail hd z ∧ (m.k = 91 → r M.length = nI (md.headD (dN, 0)).2 ∧ (md.headD (dN, 0)).2 < 64) := by
  obtain ⟨D, hd', a, e, s, l⟩ := h
  obtain ⟨Dc, t, md', e2, l⟩ := l
  subst e2
  rw [if_neg h1, if_neg h2, if_neg h3] at l
  exact ⟨⟨D, hd', a, e, s, l.2⟩, l.1⟩
/-- two values and a doing -/
theorem L3.o2 {m : MkA} {k : Nat} {w : Int64} (h : L3 L r e0 (m :: M) md hd z) (h1 : ¬ m.k = 63) (h2 : ¬ m.k = 58) (h3 : nHm m = 1) (hk : k < 300 ∨ k = 309) : L3 (uL L z (k, w)) r e0 M md.tail (d2 k w (hd.tail.headD dN) (hd.headD dN) :: hd.tail.tail) (z + 1) := by
  obtain ⟨D, hd', a, e, s, l⟩ := h
  obtain ⟨Dc, t, md', e2, l⟩ := l
  subst e2
  rw [if_neg h1, if_neg h2, if_pos h3] at l
  obtain ⟨-, a0, Dx, hd2, e3, s2, l⟩ := l
  subst e3
  subst e
  have l1 := s.1
  have l2 := s2.1
  exact ⟨_, hd2, a0, rfl, SgE.o2 (s2.up (fun i _ q => uL_n L _ (by omega))) (s.up (fun i _ q => uL_n L _ (by omega))) (uL_s L z _) hk, l.up (fun i _ q => uL_n L _ (by omega)) (fun _ _ => rfl)⟩
/-- the same, the mark stays with one part more -/
theorem L3.o2m {m m2 : MkA} {k : Nat} {w : Int64} {r2 : Nat → Int32} (h : L3 L r e0 (m :: M) md hd z) (h1 : ¬ m.k = 63) (h2 : ¬ m.k = 58) (h3 : nHm m = 1) (hk : k < 300 ∨ k = 309) (g1 : ¬ m2.k = 63) (g2 : ¬ m2.k = 58) (g3 : nHm m2 = 1) (g9 : ¬ m2.k = 91) (hr : ∀ i, i < M.length → r2 i = r i) : LEM (uL L z (k, w)) r2 e0 (m2 :: M) md (d2 k w (hd.tail.headD dN) (hd.headD dN) :: hd.tail.tail) (z + 1) := by
  have q := L3.o2 (w := w) h h1 h2 h3 hk
  obtain ⟨D, hd', a, e, s, l⟩ := h
  obtain ⟨Dc, t, md', e2, l⟩ := l
  subst e2
  exact q.mk1 g1 g2 g3 g9 hr Dc t
/-- the first part is over: the mark holds it -/
theorem L3.hm {m m2 : MkA} {r2 : Nat → Int32} (h : L3 L r e0 (m :: M) md hd z) (h1 : ¬ m.k = 63) (h2 : ¬ m.k = 58) (h3 : ¬ nHm m = 1) (g1 : ¬ m2.k = 63) (g2 : ¬ m2.k = 58) (g3 : nHm m2 = 1) (g9 : ¬ m2.k = 91) (hr : ∀ i, i < M.length → r2 i = r i) : LEM L r2 e0 (m2 :: M) md hd z := by
  have q := (L3.po0 h h1 h2 h3).1
  obtain ⟨D, hd', a, e, s, l⟩ := h
  obtain ⟨Dc, t, md', e2, l⟩ := l
  subst e2
  exact q.mk1 g1 g2 g3 g9 hr Dc t
/-- ? -/
theorem L3.ch63 {m : MkA} {r2 : Nat → Int32} (h : L3 L r e0 M md hd z) (hm : m.k = 63) (hr0 : r2 M.length = nI z) (hr : ∀ i, i < M.length → r2 i = r i) : LEM (uL L z (312, 0)) r2 e0 (m :: M) ((hd.headD dN, 0) :: md) hd.tail (z + 1) := by
  obtain ⟨D, hd', a, e, s, l⟩ := h
  subst e
  have l1 := s.1
  refine ⟨D, 0, md, rfl, ?_⟩
  rw [if_pos hm]
  exact ⟨a, z, s.up (fun i _ q => uL_n L _ (by omega)), uL_s L z _, rfl, hr0, l.up (fun i _ q => uL_n L _ (by omega)) hr⟩
/-- : of a choice; y, where the UNLESS stands, is aimed behind the JUMP -/
theorem L3.ot {m m2 : MkA} {r2 : Nat → Int32} (h : L3 L r e0 (m :: M) md hd z) (hm : m.k = 63) (hm2 : m2.k = 58) (hr0 : r2 M.length = nI z) (hr : ∀ i, i < M.length → r2 i = r i) : ∃ y, r M.length = nI y ∧ y < z ∧ L y = (312, 0) ∧ LEM (uL (uL L z (311, 0)) y (312, nJ (z + 1))) r2 e0 (m2 :: M) md hd (z + 1) := by
  obtain ⟨D, hd', a, e, s, l⟩ := h
  obtain ⟨Dc, t, md', e2, l⟩ := l
  subst e2
  rw [if_pos hm] at l
  obtain ⟨a0, y, s1, s2, s3, s4, s5⟩ := l
  have l1 := s.1
  have l2 := s1.1
  have l3 := s5.le
  subst s3
  refine ⟨y, s4, by omega, s2, Dc, t, md', rfl, ?_⟩
  rw [if_neg (by omega), if_pos hm2]
  have hn : ∀ i, ¬ i = y → ¬ i = z → uL (uL L z (311, 0)) y (312, nJ (z + 1)) i = L i := fun i q1 q2 => (uL_n _ _ q1).trans (uL_n L _ q2)
  exact ⟨a0, y, z, D, hd', e, s1.up (fun i _ q => hn i (by omega) (by omega)), uL_s _ _ _, s.up (fun i q1 q2 => hn i (by omega) (by omega)), (uL_n _ _ (by omega)).trans (uL_s L z _), rfl, hr0, s5.up (fun i _ q => hn i (by omega) (by omega)) hr⟩
/-- a choice is over: its JUMP is aimed here -/
theorem L3.ec {m : MkA} (hz : z < 2147483648) (h : L3 L r e0 (m :: M) md hd z) (hm : m.k = 58) : ∃ z0, r M.length = nI z0 ∧ z0 < z ∧ L z0 = (311, 0) ∧ L3 (uL L z0 (311, nJ z)) r e0 M md.tail (dCh (md.headD (dN, 0)).1 (hd.tail.headD dN) (hd.headD dN) :: hd.tail.tail) z := by
  obtain ⟨D, hd', a, e, s, l⟩ := h
  obtain ⟨Dc, t, md', e2, l⟩ := l
  subst e2
  rw [if_neg (by omega), if_pos hm] at l
  obtain ⟨a0, y, z0, Dy, hd2, e3, s1, s2, s3, s4, s5, s6, s7⟩ := l
  subst e3
  subst e
  subst s5
  have l1 := s.1
  have l2 := s1.1
  have l3 := s3.1
  have l4 := s7.le
  have hn : ∀ i, ¬ i = z0 → uL L z0 (311, nJ z) i = L i := fun i q => uL_n L _ q
  exact ⟨z0, s6, by omega, s4, _, hd2, a0, rfl, SgE.ch hz (s1.up (fun i _ q => hn i (by omega))) ((hn y (by omega)).trans s2) (s3.up (fun i _ q => hn i (by omega))) (uL_s L z0 _) (s.up (fun i q _ => hn i (by omega))), s7.up (fun i _ q => hn i (by omega)) (fun _ _ => rfl)⟩
/-- the EXPR is over -/
theorem L3.fi (h : L3 L r e0 [] md hd z) : SgE L e0 z (hd.headD dN) ∧ md = [] ∧ hd.tail = [] := by
  obtain ⟨D, hd', a, e, s, l⟩ := h
  obtain ⟨l1, l2, l3⟩ := l
  subst e
  subst l3
  exact ⟨s, l1, l2⟩
end LS
/-- doings that the marks still owe -/
def nO : List MkA → Nat
  | [] => 0
  | m :: M => (if m.k = 63 ∨ m.k = 58 then 0 else 1) + nO M
