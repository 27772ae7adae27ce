/-! Weaver: the code of statements; blocks that are not over -/
/-- a block: its jump over it, and the chain of jumps to its end -/
abbrev Bk : Type := Int32 × List Nat
def Oa (ol : List Bk) (a : Nat) : Prop := ∃ b ∈ ol, b.1.toInt = a ∨ a ∈ b.2
def Oh (hg : Nat → Nat) (ol : List Bk) : Prop := ∀ b ∈ ol, (∀ u : Nat, b.1.toInt = u → hg u = 1 ∧ hg (u + 1) = 0) ∧ ∀ y ∈ b.2, hg y = 0
def Bo (f : Nat → Int32) (s : Nat) (ol : List Bk) : Prop := ∀ b ∈ ol, (∀ u : Nat, b.1.toInt = u → u < s ∧ f u = 312) ∧ (∀ y ∈ b.2, y < s ∧ f y = 311) ∧ -1 ≤ b.1.toInt
def Ost (st : Nat → Int32) (no s : Nat) (hg : Nat → Nat) : Prop := ∀ j, j < no → ∃ m : Nat, (st j).toInt = m ∧ m ≤ s ∧ hg m = 0
def CS (th s : Nat) (f : Nat → Int32) (g : Nat → Int64) (st : Nat → Int32) (no : Nat) (ol : List Bk) (hg : Nat → Nat) (h : Nat) : Prop := (∀ a, hg a ≤ 1000) ∧ hg s = h ∧ (∀ a, a < s → Oa ol a ∨ Ins th s hg a (f a) (g a)) ∧ Oh hg ol ∧ Ost st no s hg
theorem Bo.up {f f' : Nat → Int32} {s s' : Nat} {ol : List Bk} (h : Bo f s ol) (hs : s ≤ s') (hf : ∀ a, a < s → f' a = f a) : Bo f' s' ol := fun b hb => by
  obtain ⟨h1, h2, h3⟩ := h b hb
  exact ⟨fun u hu => by obtain ⟨k1, k2⟩ := h1 u hu; exact ⟨by omega, (hf u k1).trans k2⟩, fun y hy => by obtain ⟨k1, k2⟩ := h2 y hy; exact ⟨by omega, (hf y k1).trans k2⟩, h3⟩
theorem Bo.tail {f : Nat → Int32} {s : Nat} {b : Bk} {ol : List Bk} (h : Bo f s (b :: ol)) : Bo f s ol := fun x hx => h x (List.mem_cons_of_mem _ hx)
theorem Bo.head {f : Nat → Int32} {s : Nat} {b : Bk} {ol : List Bk} (h : Bo f s (b :: ol)) : (∀ u : Nat, b.1.toInt = u → u < s ∧ f u = 312) ∧ (∀ y ∈ b.2, y < s ∧ f y = 311) ∧ -1 ≤ b.1.toInt := h b List.mem_cons_self
theorem Bo.cons {f : Nat → Int32} {s : Nat} {b : Bk} {ol : List Bk} (h : Bo f s ol) (hb : (∀ u : Nat, b.1.toInt = u → u < s ∧ f u = 312) ∧ (∀ y ∈ b.2, y < s ∧ f y = 311) ∧ -1 ≤ b.1.toInt) : Bo f s (b :: ol) := fun x hx => by
  rcases List.mem_cons.mp hx with e | e
  · rw [e]; exact hb
  · exact h x e
theorem Oh.up {hg hg' : Nat → Nat} {f : Nat → Int32} {s : Nat} {ol : List Bk} (h : Oh hg ol) (ho : Bo f s ol) (he : ∀ a, a ≤ s → hg' a = hg a) : Oh hg' ol := fun b hb => by
  obtain ⟨h1, h2⟩ := h b hb
  obtain ⟨k1, k2, -⟩ := ho b hb
  exact ⟨fun u hu => by have := k1 u hu; rw [he u (by omega), he (u + 1) (by omega)]; exact h1 u hu, fun y hy => by have := k2 y hy; rw [he y (by omega)]; exact h2 y hy⟩
theorem Oh.tail {hg : Nat → Nat} {b : Bk} {ol : List Bk} (h : Oh hg (b :: ol)) : Oh hg ol := fun x hx => h x (List.mem_cons_of_mem _ hx)
theorem Oh.cons {hg : Nat → Nat} {b : Bk} {ol : List Bk} (h : Oh hg ol) (hb : (∀ u : Nat, b.1.toInt = u → hg u = 1 ∧ hg (u + 1) = 0) ∧ ∀ y ∈ b.2, hg y = 0) : Oh hg (b :: ol) := fun x hx => by
  rcases List.mem_cons.mp hx with e | e
  · rw [e]; exact hb
  · exact h x e
theorem Oa.tail {b : Bk} {ol : List Bk} {a : Nat} (h : Oa ol a) : Oa (b :: ol) a := by
  obtain ⟨x, h1, h2⟩ := h
  exact ⟨x, List.mem_cons_of_mem _ h1, h2⟩
theorem Oa.inv {b : Bk} {ol : List Bk} {a : Nat} (h : Oa (b :: ol) a) : (b.1.toInt = a ∨ a ∈ b.2) ∨ Oa ol a := by
  obtain ⟨x, h1, h2⟩ := h
  rcases List.mem_cons.mp h1 with e | e
  · left; rw [← e]; exact h2
  · right; exact ⟨x, e, h2⟩
theorem Ost.up {st : Nat → Int32} {no s s' : Nat} {hg hg' : Nat → Nat} (h : Ost st no s hg) (hs : s ≤ s') (he : ∀ a, a ≤ s → hg' a = hg a) : Ost st no s' hg' := fun j hj => by
  obtain ⟨m, h1, h2, h3⟩ := h j hj
  exact ⟨m, h1, by omega, (he m h2).trans h3⟩
section CSS
variable {th s no x : Nat} {f f' : Nat → Int32} {g g' : Nat → Int64} {st : Nat → Int32} {ol : List Bk} {hg : Nat → Nat} {d : Int32} {w : Int64}
theorem CS.emit (h : CS th s f g st no ol hg x) (ho : Bo f s ol) (hf : ∀ j, f' j = if j = s then d else f j) (hw : ∀ j, g' j = if j = s then w else g j) (y : Nat) (hi : Ins th (s + 1) (hgx hg s y) s d w) (hy : y ≤ 1000) : CS th (s + 1) f' g' st no ol (hgx hg s y) y := by
  obtain ⟨h1, h2, h3, h4, h5⟩ := h
  refine ⟨hgx_le h1 hy, hgx_at, fun a q => ?_, h4.up ho hgx_lo, h5.up (by omega) hgx_lo⟩
  by_cases e : a = s
  · right
    subst e
    rw [hf, hw, if_pos rfl, if_pos rfl]
    exact hi
  · rw [hf, hw, if_neg e, if_neg e]
    rcases h3 a (by omega) with q1 | q1
    · exact Or.inl q1
    · exact Or.inr (q1.up (by omega) (by omega) hgx_lo)
theorem CS.op (h : CS th s f g st no ol hg x) (ho : Bo f s ol) (hf : ∀ j, f' j = if j = s then d else f j) (hw : ∀ j, g' j = if j = s then w else g j) (y : Nat) (hd : ¬ d = 311 ∧ ¬ d = 312 ∧ ¬ d = 316 ∧ ¬ d = 317) (hO : Op1 th d w x y) (hy : y ≤ 1000) : CS th (s + 1) f' g' st no ol (hgx hg s y) y :=
  h.emit ho hf hw y (Or.inr (Or.inr (Or.inr (Or.inr ⟨hd.1, hd.2.1, hd.2.2.1, hd.2.2.2, by rw [hgx_at, hgx_lo s (Nat.le_refl _), h.2.1]; exact hO⟩)))) hy
/-- the jump over a block -/
theorem CS.unless {ex : List Nat} {bl : List Bk} {u u0 : Int32} (h : CS th s f g st no ((u0, ex) :: bl) hg 1) (hu0 : u0.toInt = -1) (ho : Bo f s ((u0, ex) :: bl)) (hu : u.toInt = s) (hf : ∀ j, f' j = if j = s then 312 else f j) (hw : ∀ j, g' j = if j = s then w else g j) : CS th (s + 1) f' g' st no ((u, ex) :: bl) (hgx hg s 0) 0 ∧ Bo f' (s + 1) ((u, ex) :: bl) := by
  obtain ⟨h1, h2, h3, h4, h5⟩ := h
  have hf2 : ∀ a, a < s → f' a = f a := fun a q => by rw [hf, if_neg (by omega)]
  have h4' := h4.up ho (hg' := hgx hg s 0) hgx_lo
  have ho' := ho.up (f' := f') (s' := s + 1) (by omega) hf2
  refine ⟨⟨hgx_le h1 (by omega), hgx_at, fun a q => ?_, h4'.tail.cons ⟨fun v hv => ?_, (h4' _ List.mem_cons_self).2⟩, h5.up (by omega) hgx_lo⟩, ho'.tail.cons ⟨fun v hv => ?_, ho'.head.2.1, by show -1 ≤ u.toInt; omega⟩⟩
  · by_cases e : a = s
    · left
      exact ⟨(u, ex), List.mem_cons_self, Or.inl (by rw [e]; exact hu)⟩
    · rw [hf, hw, if_neg e, if_neg e]
      rcases h3 a (by omega) with q1 | q1
      · left
        rcases q1.inv with q2 | q2
        · rcases q2 with q2 | q2
          · have : u0.toInt = a := q2
            omega
          · exact ⟨(u, ex), List.mem_cons_self, Or.inr q2⟩
        · exact q2.tail
      · exact Or.inr (q1.up (by omega) (by omega) hgx_lo)
  · have e : v = s := by have : u.toInt = v := hv; omega
    subst e
    exact ⟨by rw [hgx_lo _ (Nat.le_refl _)]; exact h2, hgx_at⟩
  · have e : v = s := by have : u.toInt = v := hv; omega
    subst e
    exact ⟨by omega, by rw [hf, if_pos rfl]⟩
/-- one more jump to the end -/
theorem CS.jump {ex : List Nat} {bl : List Bk} {u : Int32} (h : CS th s f g st no ((u, ex) :: bl) hg 0) (ho : Bo f s ((u, ex) :: bl)) (hf : ∀ j, f' j = if j = s then 311 else f j) (hw : ∀ j, g' j = if j = s then w else g j) : CS th (s + 1) f' g' st no ((u, s :: ex) :: bl) (hgx hg s 0) 0 ∧ Bo f' (s + 1) ((u, s :: ex) :: bl) := by
  obtain ⟨h1, h2, h3, h4, h5⟩ := h
  have hf2 : ∀ a, a < s → f' a = f a := fun a q => by rw [hf, if_neg (by omega)]
  have h4' := h4.up ho (hg' := hgx hg s 0) hgx_lo
  have ho' := ho.up (f' := f') (s' := s + 1) (by omega) hf2
  refine ⟨⟨hgx_le h1 (by omega), hgx_at, fun a q => ?_, h4'.tail.cons ⟨(h4' _ List.mem_cons_self).1, fun y hy => ?_⟩, h5.up (by omega) hgx_lo⟩, ho'.tail.cons ⟨ho'.head.1, fun y hy => ?_, ho'.head.2.2⟩⟩
  · by_cases e : a = s
    · left
      exact ⟨(u, s :: ex), List.mem_cons_self, Or.inr (by rw [e]; exact List.mem_cons_self)⟩
    · rw [hf, hw, if_neg e, if_neg e]
      rcases h3 a (by omega) with q1 | q1
      · left
        rcases q1.inv with q2 | q2
        · exact ⟨(u, s :: ex), List.mem_cons_self, q2.elim Or.inl (fun z => Or.inr (List.mem_cons_of_mem _ z))⟩
        · exact q2.tail
      · exact Or.inr (q1.up (by omega) (by omega) hgx_lo)
  · rcases List.mem_cons.mp hy with e | e
    · rw [e, hgx_lo _ (Nat.le_refl _)]; exact h2
    · exact (h4' _ List.mem_cons_self).2 y e
  · rcases List.mem_cons.mp hy with e | e
    · rw [e]; exact ⟨by omega, by rw [hf, if_pos rfl]⟩
    · exact ho'.head.2.1 y e
/-- the jump over a block goes here -/
theorem CS.aimU {ex : List Nat} {bl : List Bk} {u u0 : Int32} {w1 : Int64} (h : CS th s f g st no ((u, ex) :: bl) hg 0) (ho : Bo f s ((u, ex) :: bl)) (hu0 : u0.toInt = -1) (hw : ∀ j : Nat, g' j = if (j : Int) = u.toInt then w1 else g j) (hw1 : w1.toInt = s) : CS th s f g' st no ((u0, ex) :: bl) hg 0 := by
  obtain ⟨h1, h2, h3, h4, h5⟩ := h
  refine ⟨h1, h2, fun a q => ?_, h4.tail.cons ⟨fun v hv => ?_, (h4 _ List.mem_cons_self).2⟩, h5⟩
  · by_cases e : (a : Int) = u.toInt
    · right
      rw [hw, if_pos e]
      have k1 := ho.head.1 a e.symm
      have k2 := (h4 _ List.mem_cons_self).1 a e.symm
      rw [k1.2]
      exact Or.inr (Or.inr (Or.inr (Or.inl ⟨rfl, s, hw1, k1.1, Nat.le_refl _, by rw [h2, k2.1], by rw [h2, k2.2]⟩)))
    · rw [hw, if_neg e]
      rcases h3 a q with q1 | q1
      · left
        rcases q1.inv with q2 | q2
        · rcases q2 with q2 | q2
          · exact absurd (show u.toInt = a from q2) (fun z => e z.symm)
          · exact ⟨(u0, ex), List.mem_cons_self, Or.inr q2⟩
        · exact q2.tail
      · exact Or.inr q1
  · have : u0.toInt = v := hv
    omega
/-- all jumps of a chain go here -/
theorem CS.aimAll {ex : List Nat} {bl : List Bk} {u0 : Int32} {w1 : Int64} (h : CS th s f g st no ((u0, ex) :: bl) hg 0) (ho : Bo f s ((u0, ex) :: bl)) (hu0 : u0.toInt = -1) (hw : ∀ j : Nat, (j ∈ ex → g' j = w1) ∧ (¬ j ∈ ex → g' j = g j)) (hw1 : w1.toInt = s) : CS th s f g' st no bl hg 0 := by
  obtain ⟨h1, h2, h3, h4, h5⟩ := h
  refine ⟨h1, h2, fun a q => ?_, h4.tail, h5⟩
  by_cases e : a ∈ ex
  · right
    rw [(hw a).1 e]
    have k1 := ho.head.2.1 a e
    have k2 := (h4 _ List.mem_cons_self).2 a e
    rw [k1.2]
    exact Or.inr (Or.inr (Or.inl ⟨rfl, s, hw1, k1.1, Nat.le_refl _, by rw [h2, k2]⟩))
  · rw [(hw a).2 e]
    rcases h3 a q with q1 | q1
    · left
      rcases q1.inv with q2 | q2
      · rcases q2 with q2 | q2
        · have : u0.toInt = a := q2
          omega
        · exact absurd q2 e
      · exact q2
    · exact Or.inr q1
theorem Ins.upt {th th' s a : Nat} {hg : Nat → Nat} (h : Ins th s hg a d w) (ht : th ≤ th') : Ins th' s hg a d w := by
  rcases h with h | h | h | h | ⟨h1, h2, h3, h4, h5, h6, h7⟩
  · exact Or.inl h
  · exact Or.inr (Or.inl h)
  · exact Or.inr (Or.inr (Or.inl h))
  · exact Or.inr (Or.inr (Or.inr (Or.inl h)))
  · exact Or.inr (Or.inr (Or.inr (Or.inr ⟨h1, h2, h3, h4, h5, h6, h7.1, h7.2.1, fun q => by have := h7.2.2 q; omega⟩)))
theorem CS.upt {th' : Nat} (h : CS th s f g st no ol hg x) (ht : th ≤ th') : CS th' s f g st no ol hg x := ⟨h.1, h.2.1, fun a q => (h.2.2.1 a q).elim Or.inl (fun z => Or.inr (z.upt ht)), h.2.2.2⟩
theorem CS.start {st' : Nat → Int32} {v : Int32} (h : CS th s f g st no ol hg 0) (hv : v.toInt = s) (hs : ∀ j, st' j = if j = no then v else st j) : CS th s f g st' (no + 1) ol hg 0 := ⟨h.1, h.2.1, h.2.2.1, h.2.2.2.1, fun j hj => by
  rw [hs]
  by_cases e : j = no
  · rw [if_pos e]
    exact ⟨s, hv, Nat.le_refl _, h.2.1⟩
  · rw [if_neg e]
    exact h.2.2.2.2 j (by omega)⟩
end CSS
/-- what an EXPR's code rests on: the code before it; gi: what it is for is there -/
def BLx (th e0 : Nat) (f0 : Nat → Int32) (g0 : Nat → Int64) (st : Nat → Int32) (no : Nat) (ol : List Bk) (gi : Prop) (hg : Nat → Nat) : Prop := gi ∧ (∀ a, a < e0 → Oa ol a ∨ Ins th e0 hg a (f0 a) (g0 a)) ∧ Oh hg ol ∧ Ost st no e0 hg
theorem BLx.ok {th e0 : Nat} {f0 : Nat → Int32} {g0 : Nat → Int64} {st : Nat → Int32} {no : Nat} {ol : List Bk} {gi : Prop} (ho : Bo f0 e0 ol) : BLok e0 (BLx th e0 f0 g0 st no ol gi) := fun hg hg' he h => ⟨h.1, fun a q => (h.2.1 a q).elim Or.inl (fun z => Or.inr (z.up q (Nat.le_refl _) he)), h.2.2.1.up ho he, h.2.2.2.up (Nat.le_refl _) he⟩
/-- an EXPR begins -/
theorem XM.begin {P th s bs ns no : Nat} {σ τ : mv_H} {st : Nat → Int32} {ol : List Bk} {gi : Prop} (hP : PQ P) (hs : (mv_i σ P 17).toInt = s) (hn : nSet (mv_a σ (P + 9)) s = ns) (hM : Mt (mv_a σ 24)) (ho : Bo (mv_a σ (P + 9)) s ol) (hC : mv_i σ 21 0 = 0 → gi ∧ ∃ hg, CS th s (mv_a σ (P + 9)) (mv_b σ (P + 10)) st no ol hg bs)
    (e8 : (mv_i τ 22 8).toInt = 0) (e10 : (mv_i τ 22 10).toInt = 0) (e17 : mv_i τ P 17 = mv_i σ P 17) (e21 : mv_i τ 21 0 = mv_i σ 21 0) (a24 : mv_a τ 24 = mv_a σ 24) (a9 : mv_a τ (P + 9) = mv_a σ (P + 9)) (b10 : mv_b τ (P + 10) = mv_b σ (P + 10)) :
    XM P th s bs (BLx th s (mv_a σ (P + 9)) (mv_b σ (P + 10)) st no ol gi) (mv_a σ (P + 9)) (mv_b σ (P + 10)) ns τ [] 0 0 s := by
  unfold XM
  rw [e17, e21, a24, a9, b10]
  refine ⟨⟨e8, trivial, e10, hM, trivial, fun m hm => absurd hm (List.not_mem_nil)⟩, ⟨hs, Nat.le_refl _, fun _ _ => ⟨rfl, rfl⟩, hn, BLx.ok ho⟩, fun q => ?_⟩
  obtain ⟨k1, hg, k2⟩ := hC q
  exact ⟨hg, ⟨k1, k2.2.2.1, k2.2.2.2.1, k2.2.2.2.2⟩, k2.1, k2.2.1, trivial, fun a q1 q2 => by omega⟩
/-- an EXPR is over -/
theorem XM.over {P th e0 bs ns no s : Nat} {σ : mv_H} {f0 : Nat → Int32} {g0 : Nat → Int64} {st : Nat → Int32} {ol : List Bk} {gi : Prop} {hl ht : Nat} (h : XM P th e0 bs (BLx th e0 f0 g0 st no ol gi) f0 g0 ns σ [] hl ht s) (ho : Bo f0 e0 ol) : Bo (mv_a σ (P + 9)) s ol ∧ (mv_i σ 21 0 = 0 → gi ∧ ∃ hg, CS th s (mv_a σ (P + 9)) (mv_b σ (P + 10)) st no ol hg (bs + ht)) := by
  obtain ⟨-, ⟨h1, h2, h3, h4, -⟩, h5⟩ := h
  refine ⟨ho.up h2 (fun a q => (h3 a q).1), fun q => ?_⟩
  obtain ⟨hg, ⟨k1, k2, k3, k4⟩, k5, k6, -, k7⟩ := h5 q
  refine ⟨k1, hg, k5, k6, fun a qa => ?_, k3, k4.up h2 (fun _ _ => rfl)⟩
  by_cases e : a < e0
  · rw [(h3 a e).1, (h3 a e).2]
    exact (k2 a e).elim Or.inl (fun z => Or.inr (z.up e h2 (fun _ _ => rfl)))
  · exact (k7 a (by omega) qa).elim (fun z => by obtain ⟨m, hm, -⟩ := z; exact absurd hm (List.not_mem_nil)) Or.inr
theorem Lk.con {f f' : Nat → Int64} : ∀ (c : List Nat) (p : Int), Lk f p c → (∀ y ∈ c, f' y = f y) → Lk f' p c := by
  intro c
  induction c with
  | nil => intro p h _; exact h
  | cons x c ih =>
    intro p h he
    refine ⟨h.1, h.2.1, ?_⟩
    rw [he x List.mem_cons_self]
    exact ih _ h.2.2 (fun y hy => he y (List.mem_cons_of_mem _ hy))
/-- the rows hold the blocks, the latest first -/
def BkR (fk fu fe fs : Nat → Int32) (g : Nat → Int64) : Int → List Bk → Prop
  | _, [] => True
  | hi, b :: r => ((fk r.length = 206 ↔ r = []) ∧ (r = [] → b.1 = -1 ∧ b.2 = [])) ∧ fu r.length = b.1 ∧ Lk g (fe r.length).toInt b.2 ∧ 0 ≤ (fs r.length).toInt ∧ (fs r.length).toInt ≤ hi ∧ (∀ y ∈ b.2, ∀ b' ∈ r, ∀ y' ∈ b'.2, y' < y) ∧ BkR fk fu fe fs g (fs r.length).toInt r
theorem BkR.con {fk fu fe fs fk' fu' fe' fs' : Nat → Int32} {g g' : Nat → Int64} : ∀ (bl : List Bk) (hi hi' : Int), BkR fk fu fe fs g hi bl → hi ≤ hi' → (∀ i, i < bl.length → fk' i = fk i ∧ fu' i = fu i ∧ fe' i = fe i ∧ fs' i = fs i) → (∀ b ∈ bl, ∀ y ∈ b.2, g' y = g y) → BkR fk' fu' fe' fs' g' hi' bl := by
  intro bl
  induction bl with
  | nil => intro _ _ _ _ _ _; trivial
  | cons b r ih =>
    intro hi hi' h hh hr hg
    obtain ⟨h1, h2, h3, h4, h5, h6, h7⟩ := h
    obtain ⟨r1, r2, r3, r4⟩ := hr r.length (by show r.length < r.length + 1; omega)
    unfold BkR
    rw [r1, r2, r3, r4]
    exact ⟨h1, h2, Lk.con _ _ h3 (hg b List.mem_cons_self), h4, by omega, h6, ih _ _ h7 (Int.le_refl _) (fun i q => hr i (by show i < r.length + 1; omega)) (fun b' hb y hy => hg b' (List.mem_cons_of_mem _ hb) y hy)⟩
