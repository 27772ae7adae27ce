/-! blocks open and close -/
section BLS
variable {L : CDq} {u x u2 x2 : Nat → Int32} {s : Nat} {bl : List (Nat × LK)} {bz : List BZq}
/-- an op's block -/
theorem BLk.op (L : CDq) (u x : Nat → Int32) (s : Nat) (k : Nat × LK) (hk : k.1 = 206) (c : BZq) : BLk L u x s [k] [c] s := by
  refine ⟨c, [], rfl, ?_⟩
  rw [if_pos hk]
  exact ⟨rfl, rfl⟩
/-- an if's block opens: UNLESS at z -/
theorem BLk.o9 {b1 p0 p z : Nat} {Js : List Nat} {c : BZq} {k : Nat × LK} (hk : k.1 = 209) (B : BLk L u x s bl bz b1) (S : SgS L b1 p0 c.2.1) (Ch : ChS L p0 p Js c.2.2.1) (E : SgE L p z c.2.2.2) (hu : u2 bl.length = nI z) (hx : JL L (x2 bl.length) Js) (hr : ∀ i, i < bl.length → u2 i = u i ∧ x2 i = x i) : BLk (uL L z (312, 0)) u2 x2 s (k :: bl) (c :: bz) (z + 1) := by
  have l1 := B.le
  have l2 := S.1
  have l3 := Ch.1
  have l4 := E.1
  refine ⟨c, bz, rfl, ?_⟩
  rw [if_neg (by omega), if_pos hk]
  exact ⟨b1, p0, p, z, Js, B.up (fun i _ q => uL_n L _ (by omega)) hr, S.up (fun i _ q => uL_n L _ (by omega)), Ch.up (fun i _ q _ => uL_n L _ (by omega)), E.up (fun i _ q => uL_n L _ (by omega)), uL_s L z _, rfl, hu, hx.up (fun j q => uL_n L _ (by have := Ch.js j q; omega))⟩
/-- an else's block opens -/
theorem BLk.o0 {b1 p0 z : Nat} {Js : List Nat} {c : BZq} {k : Nat × LK} (hk : k.1 = 210) (B : BLk L u x s bl bz b1) (S : SgS L b1 p0 c.2.1) (Ch : ChS L p0 z Js c.2.2.1) (hu : u2 bl.length = -1) (hx : JL L (x2 bl.length) Js) (hr : ∀ i, i < bl.length → u2 i = u i ∧ x2 i = x i) : BLk L u2 x2 s (k :: bl) (c :: bz) z := by
  refine ⟨c, bz, rfl, ?_⟩
  rw [if_neg (by omega), if_neg (by omega)]
  exact ⟨b1, p0, Js, B.up (fun _ _ _ => rfl) hr, S, Ch, hu, hx⟩
/-- an op's block closes -/
theorem BLk.c6 {b z : Nat} {k : Nat × LK} {D : DnS} (hk : k.1 = 206) (B : BLk L u x s (k :: bl) bz b) (S : SgS L b z D) : bl = [] ∧ SgS (uL L z (317, 0)) s z D ∧ uL L z (317, 0) z = (317, 0) := by
  obtain ⟨c, bz', -, B⟩ := B
  rw [if_pos hk] at B
  obtain ⟨B1, B2⟩ := B
  subst B2
  exact ⟨B1, S.up (fun i _ q => uL_n L _ (by omega)), uL_s L z _⟩
/-- an if's block closes, no else: its UNLESS and its exits are aimed here -/
theorem BLk.c9 {b z : Nat} {k : Nat × LK} {A : DnS} (hz : z < 2147483648) (hk : k.1 = 209) (B : BLk L u x s (k :: bl) bz b) (S : SgS L b z A) : ∃ (c : BZq) (bz' : List BZq) (b1 y : Nat) (Js : List Nat), bz = c :: bz' ∧ u bl.length = nI y ∧ s ≤ y ∧ y < z ∧ L y = (312, 0) ∧ JL (uL L y (312, nJ z)) (x bl.length) Js ∧ (∀ j, j ∈ Js → s ≤ j ∧ j < z) ∧ BLk (aiL (uL L y (312, nJ z)) z Js) u x s bl bz' b1 ∧ SgS (aiL (uL L y (312, nJ z)) z Js) b1 z (zSq c.2.1 (c.2.2.1 (zIf c.2.2.2 A zSk))) := by
  obtain ⟨c, bz', e, B⟩ := B
  rw [if_neg (by omega), if_pos hk] at B
  obtain ⟨b1, p0, p, y, Js, h1, h2, h3, h4, h5, h6, h7, h8⟩ := B
  subst h6
  have l1 := h1.le
  have l2 := h2.1
  have l3 := h3.1
  have l4 := h4.1
  have l5 := S.1
  have hn : ∀ i, ¬ i = y → ¬ i ∈ Js → aiL (uL L y (312, nJ z)) z Js i = L i := fun i q1 q2 => (aiL_n q2).trans (uL_n L _ q1)
  have hj : ∀ i, (i < p0 ∨ p ≤ i) → ¬ i ∈ Js := fun i q w => by have := h3.js i w; omega
  refine ⟨c, bz', b1, y, Js, e, h7, by omega, by omega, h5, h8.up (fun j q => uL_n L _ (by have := h3.js j q; omega)), fun j q => by have := h3.js j q; omega, h1.up (fun i _ q => hn i (by omega) (hj i (by omega))) (fun _ _ => ⟨rfl, rfl⟩), SgS.sq (h2.up (fun i _ q => hn i (by omega) (hj i (by omega)))) ?_⟩
  refine h3.2.2 _ z _ hz (fun i q1 q2 q3 => hn i (by omega) q3) (fun j q => aiL_s q) ?_
  exact SgS.if1 hz (h4.up (fun i q1 q2 => hn i (by omega) (hj i (by omega)))) ((aiL_n (hj y (by omega))).trans (uL_s L y _)) (S.up (fun i q1 q2 => hn i (by omega) (hj i (by omega))))
/-- an if's block closes, an else follows: a JUMP at z, the UNLESS is aimed behind it -/
theorem BLk.ce {b z : Nat} {k : Nat × LK} {A : DnS} (hz : z < 2147483647) (hk : k.1 = 209) (B : BLk L u x s (k :: bl) bz b) (S : SgS L b z A) : ∃ (c : BZq) (bz' : List BZq) (b1 p0 y : Nat) (Js : List Nat), bz = c :: bz' ∧ u bl.length = nI y ∧ s ≤ y ∧ y < z ∧ L y = (312, 0) ∧ BLk (uL (uL L z (311, (x bl.length).toInt64)) y (312, nJ (z + 1))) u x s bl bz' b1 ∧ SgS (uL (uL L z (311, (x bl.length).toInt64)) y (312, nJ (z + 1))) b1 p0 c.2.1 ∧ ChS (uL (uL L z (311, (x bl.length).toInt64)) y (312, nJ (z + 1))) p0 (z + 1) (z :: Js) (fun e => c.2.2.1 (zIf c.2.2.2 A e)) ∧ JL (uL (uL L z (311, (x bl.length).toInt64)) y (312, nJ (z + 1))) (nI z) (z :: Js) := by
  obtain ⟨c, bz', e, B⟩ := B
  rw [if_neg (by omega), if_pos hk] at B
  obtain ⟨b1, p0, p, y, Js, h1, h2, h3, h4, h5, h6, h7, h8⟩ := B
  subst h6
  have l1 := h1.le
  have l2 := h2.1
  have l3 := h3.1
  have l4 := h4.1
  have l5 := S.1
  have hn : ∀ i, ¬ i = y → ¬ i = z → uL (uL L z (311, (x bl.length).toInt64)) y (312, nJ (z + 1)) i = L i := fun i q1 q2 => (uL_n _ _ q1).trans (uL_n L _ q2)
  have hj : ∀ j, j ∈ Js → j < z := fun j q => by have := h3.js j q; omega
  refine ⟨c, bz', b1, p0, y, Js, e, h7, by omega, by omega, h5, h1.up (fun i _ q => hn i (by omega) (by omega)) (fun _ _ => ⟨rfl, rfl⟩), h2.up (fun i _ q => hn i (by omega) (by omega)), ?_, (h8.cs hj).up (fun j q => uL_n _ _ ?_)⟩
  · exact (h3.up (fun i q1 q2 _ => hn i (by omega) (by omega))).cs (h4.up (fun i q1 q2 => hn i (by omega) (by omega))) (uL_s _ y _) (S.up (fun i q1 q2 => hn i (by omega) (by omega))) hz
  · rcases List.mem_cons.mp q with q | q
    · omega
    · have := h3.js j q; omega
/-- an else's block closes: its exits are aimed here -/
theorem BLk.c0 {b z : Nat} {k : Nat × LK} {A : DnS} (hz : z < 2147483648) (hk : ¬ k.1 = 206 ∧ ¬ k.1 = 209) (B : BLk L u x s (k :: bl) bz b) (S : SgS L b z A) : ∃ (c : BZq) (bz' : List BZq) (b1 : Nat) (Js : List Nat), bz = c :: bz' ∧ u bl.length = -1 ∧ JL L (x bl.length) Js ∧ (∀ j, j ∈ Js → s ≤ j ∧ j < z) ∧ BLk (aiL L z Js) u x s bl bz' b1 ∧ SgS (aiL L z Js) b1 z (zSq c.2.1 (c.2.2.1 A)) := by
  obtain ⟨c, bz', e, B⟩ := B
  rw [if_neg hk.1, if_neg hk.2] at B
  obtain ⟨b1, p0, Js, h1, h2, h3, h7, h8⟩ := B
  have l1 := h1.le
  have l2 := h2.1
  have l3 := h3.1
  have l5 := S.1
  have hj : ∀ i, (i < p0 ∨ b ≤ i) → ¬ i ∈ Js := fun i q w => by have := h3.js i w; omega
  refine ⟨c, bz', b1, Js, e, h7, h8, fun j q => by have := h3.js j q; omega, h1.up (fun i _ q => aiL_n (hj i (by omega))) (fun _ _ => ⟨rfl, rfl⟩), SgS.sq (h2.up (fun i _ q => aiL_n (hj i (by omega)))) ?_⟩
  exact h3.2.2 _ z _ hz (fun i q1 q2 q3 => aiL_n q3) (fun j q => aiL_s q) (S.up (fun i q1 q2 => aiL_n (hj i (by omega))))
end BLS
/-! what stands before an EXPR, by its goal; e: where its code begins -/
def GLk (L : CDq) (x10 : Int32) (b e : Nat) (o : OuA) (q : ODq) : Prop :=
  if o.gl = 4 then ∃ p Js, SgS L b p q.D ∧ ChS L p e Js q.ch ∧ JL L x10 Js
  else if o.gl = 3 then ∃ p, SgS L b p q.D ∧ SgE L p e q.ix
  else SgS L b e q.D
theorem GLk.le {L : CDq} {x10 : Int32} {b e : Nat} {o : OuA} {q : ODq} (h : GLk L x10 b e o q) : b ≤ e := by
  unfold GLk at h
  by_cases c4 : o.gl = 4
  · rw [if_pos c4] at h
    obtain ⟨p, Js, h1, h2, -⟩ := h
    have := h1.1
    have := h2.1
    omega
  rw [if_neg c4] at h
  by_cases c3 : o.gl = 3
  · rw [if_pos c3] at h
    obtain ⟨p, h1, h2⟩ := h
    have := h1.1
    have := h2.1
    omega
  · rw [if_neg c3] at h
    exact h.1
theorem GLk.up {L L2 : CDq} {x10 : Int32} {b e : Nat} {o : OuA} {q : ODq} (h : GLk L x10 b e o q) (hL : ∀ i, b ≤ i → i < e → L2 i = L i) : GLk L2 x10 b e o q := by
  unfold GLk at h ⊢
  by_cases c4 : o.gl = 4
  · rw [if_pos c4] at h ⊢
    obtain ⟨p, Js, h1, h2, h3⟩ := h
    have l1 := h1.1
    have l2 := h2.1
    exact ⟨p, Js, h1.up (fun i q1 q2 => hL i q1 (by omega)), h2.up (fun i q1 q2 _ => hL i (by omega) q2), h3.up (fun j w => by have := h2.js j w; exact hL j (by omega) (by omega))⟩
  rw [if_neg c4] at h ⊢
  by_cases c3 : o.gl = 3
  · rw [if_pos c3] at h ⊢
    obtain ⟨p, h1, h2⟩ := h
    have l1 := h1.1
    have l2 := h2.1
    exact ⟨p, h1.up (fun i q1 q2 => hL i q1 (by omega)), h2.up (fun i q1 q2 => hL i (by omega) q2)⟩
  · rw [if_neg c3] at h ⊢
    exact SgS.up h hL
/-- the class between statements: blocks, code, what was done -/
def KSq (X : TX) (P : Nat) (fs : Nat → Nat) (h : mv_H) (j : Nat) (o : OuA) (q : ODq) (L : CDq) (s b z : Nat) : Prop := CRw P fs h L z ∧ z ≤ j ∧ BLk L (mv_a h 29) (mv_a h 30) s o.bl q.bz b ∧ SgS L b z q.D
/-- the class in an EXPR -/
def KGq (h : mv_H) (o : OuA) (q : ODq) (L : CDq) (s b e : Nat) : Prop := BLk L (mv_a h 29) (mv_a h 30) s o.bl q.bz b ∧ GLk L (mv_i h 2 10) b e o q
theorem KGq.up {h h' : mv_H} {o : OuA} {q : ODq} {L L' : CDq} {s b e : Nat} (K : KGq h o q L s b e) (hL : ∀ i, i < e → L' i = L i) (e29 : mv_a h' 29 = mv_a h 29) (e30 : mv_a h' 30 = mv_a h 30) (e10 : mv_i h' 2 10 = mv_i h 2 10) : KGq h' o q L' s b e := by
  obtain ⟨K1, K2⟩ := K
  have l2 := K2.le
  unfold KGq
  rw [e29, e30, e10]
  exact ⟨K1.up (fun i _ q => hL i (by omega)) (fun _ _ => ⟨rfl, rfl⟩), K2.up (fun i _ q => hL i q)⟩
