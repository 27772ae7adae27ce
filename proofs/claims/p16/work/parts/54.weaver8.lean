/-! Weaver: closeBlock -/
/-- a block that is being closed: its jump u, its chain ex that begins at x -/
def KB (P : Nat) (σ : mv_H) (th s ns no : Nat) (u x : Int32) (ex : List Nat) (r : List Bk) : Prop :=
  ((mv_i σ 2 15).toInt = r.length ∧ BkR (mv_a σ 28) (mv_a σ 29) (mv_a σ 30) (mv_a σ 31) (mv_b σ (P + 10)) (mv_i σ 13 7).toInt r ∧ Bo (mv_a σ (P + 9)) s ((u, ex) :: r) ∧ Lk (mv_b σ (P + 10)) x.toInt ex ∧ ∀ y ∈ ex, ∀ b ∈ r, ∀ y' ∈ b.2, y' < y) ∧ ((mv_i σ P 17).toInt = s ∧ nSet (mv_a σ (P + 9)) s = ns ∧ (mv_i σ 21 0 = 0 → ∃ hg, CS th s (mv_a σ (P + 9)) (mv_b σ (P + 10)) (mv_a σ (P + 7)) no ((u, ex) :: r) hg 0))
section KBS
variable {P M : Nat} {σ τ : mv_H} {th s ns no : Nat} {u x : Int32} {ex : List Nat} {r : List Bk}
theorem BkR.gcon {fk fu fe fs : Nat → Int32} {g g' : Nat → Int64} {bl : List Bk} {hi : Int} (h : BkR fk fu fe fs g hi bl) (hg : ∀ b ∈ bl, ∀ y ∈ b.2, g' y = g y) : BkR fk fu fe fs g' hi bl := BkR.con bl hi hi h (Int.le_refl _) (fun _ _ => ⟨rfl, rfl, rfl, rfl⟩) hg
theorem KB.jump (h : KB P σ th s ns no u x ex r) (hP : PQ P) (hs : s < 1000000) {v : Int32} (hv : v.toInt = s) : KB P (pr_emit P σ 311 x.toInt64) th (s + 1) ns no u v (s :: ex) r := by
  obtain ⟨⟨h1, h2, h3, h4, h5⟩, h6, h7, h8⟩ := h
  unfold PQ at hP
  have en : (mv_i σ P 17).toNatClampNeg = s := by have := i32_cl (x := mv_i σ P 17) (by omega); omega
  have ef : ∀ j, mv_a (pr_emit P σ 311 x.toInt64) (P + 9) j = if j = s then 311 else mv_a σ (P + 9) j := fun j => by rw [em_f, en]
  have eg : ∀ j, mv_b (pr_emit P σ 311 x.toInt64) (P + 10) j = if j = s then x.toInt64 else mv_b σ (P + 10) j := fun j => by rw [em_g, en]
  have hb : ∀ b ∈ ((u, ex) :: r), ∀ y ∈ b.2, mv_b (pr_emit P σ 311 x.toInt64) (P + 10) y = mv_b σ (P + 10) y := fun b hb y hy => by
    have := (h3 b hb).2.1 y hy
    rw [eg, if_neg (by omega)]
  have ho : Bo (mv_a (pr_emit P σ 311 x.toInt64) (P + 9)) (s + 1) ((u, s :: ex) :: r) := by
    have h3' := h3.up (f' := mv_a (pr_emit P σ 311 x.toInt64) (P + 9)) (s' := s + 1) (by omega) (fun a q => by rw [ef, if_neg (by omega)])
    refine h3'.tail.cons ⟨h3'.head.1, fun y hy => ?_, h3'.head.2.2⟩
    rcases List.mem_cons.mp hy with e | e
    · rw [e]; exact ⟨by omega, by rw [ef, if_pos rfl]⟩
    · exact h3'.head.2.1 y e
  unfold KB
  rw [em_i σ 311 x.toInt64 (show ¬ (2 = P ∧ 15 = 17) by omega), em_a σ 311 x.toInt64 (show 28 ≠ P + 9 by omega), em_a σ 311 x.toInt64 (show 29 ≠ P + 9 by omega), em_a σ 311 x.toInt64 (show 30 ≠ P + 9 by omega), em_a σ 311 x.toInt64 (show 31 ≠ P + 9 by omega), em_i σ 311 x.toInt64 (show ¬ (13 = P ∧ 7 = 17) by omega), em_i17, em_i σ 311 x.toInt64 (show ¬ (21 = P ∧ 0 = 17) by omega), em_a σ 311 x.toInt64 (show P + 7 ≠ P + 9 by omega)]
  refine ⟨⟨h1, h2.gcon (fun b q y hy => hb b (List.mem_cons_of_mem _ q) y hy), ho, ⟨hv, fun y hy => (h3.head.2.1 y hy).1, ?_⟩, fun y hy b q y' hy' => ?_⟩, by rw [i32_inc (by omega)]; omega, ?_, fun q => ?_⟩
  · rw [eg, if_pos rfl, lg_toInt]
    exact Lk.con _ _ h4 (hb _ List.mem_cons_self)
  · rcases List.mem_cons.mp hy with e | e
    · rw [e]; exact ((h3 b (List.mem_cons_of_mem _ q)).2.1 y' hy').1
    · exact h5 y e b q y' hy'
  · rw [nSet_up ef, h7]
    show ns + isSet (311 : Int32) = ns
    rw [show isSet (311 : Int32) = 0 by decide]
    omega
  · obtain ⟨hg, k⟩ := h8 q
    exact ⟨_, (k.jump h3 ef eg).1⟩
theorem KB.aim (h : KB P σ th s ns no u x ex r) (hP : PQ P) (ht : (u.toInt < 0 ∧ τ = σ) ∨ (0 ≤ u.toInt ∧ τ = mv_sb σ (P + 10) u.toNatClampNeg (mv_i σ P 17).toInt64)) : KB P τ th s ns no (-1) x ex r := by
  obtain ⟨⟨h1, h2, h3, h4, h5⟩, h6, h7, h8⟩ := h
  have ei : mv_i τ = mv_i σ := ht.elim (fun q => by rw [q.2]) (fun q => by rw [q.2]; rfl)
  have ea : mv_a τ = mv_a σ := ht.elim (fun q => by rw [q.2]) (fun q => by rw [q.2]; rfl)
  have eg : ∀ j : Nat, mv_b τ (P + 10) j = if (j : Int) = u.toInt then (mv_i σ P 17).toInt64 else mv_b σ (P + 10) j := fun j => by
    rcases ht with ⟨q1, q⟩ | ⟨q1, q⟩
    · rw [q, if_neg (by omega)]
    · have ec := i32_cl q1
      rw [q, row2]
      by_cases e : j = u.toNatClampNeg
      · rw [if_pos e, if_pos (by omega)]
      · rw [if_neg e, if_neg (by omega)]
  have hb : ∀ b ∈ ((u, ex) :: r), ∀ y ∈ b.2, mv_b τ (P + 10) y = mv_b σ (P + 10) y := fun b hb y hy => by
    rw [eg]
    refine if_neg (fun q => ?_)
    have k1 := (h3 b hb).2.1 y hy
    have k2 := h3.head.1 y q.symm
    rw [k1.2] at k2
    exact absurd k2.2 (by decide)
  have ho : Bo (mv_a σ (P + 9)) s (((-1 : Int32), ex) :: r) := h3.tail.cons ⟨fun v hv => absurd (show (-1 : Int) = v from hv) (by omega), h3.head.2.1, by show (-1 : Int) ≤ (-1 : Int32).toInt; decide⟩
  unfold KB
  rw [ei, ea]
  refine ⟨⟨h1, h2.gcon (fun b q y hy => hb b (List.mem_cons_of_mem _ q) y hy), ho, Lk.con _ _ h4 (hb _ List.mem_cons_self), h5⟩, h6, h7, fun q => ?_⟩
  obtain ⟨hg, k⟩ := h8 q
  exact ⟨hg, k.aimU h3 (show (-1 : Int32).toInt = -1 by decide) eg (by rw [lg_toInt]; exact h6)⟩
theorem KB.all (h : KB P σ th s ns no (-1) x ex r) (hP : PQ P) (hf : Fr (fun _ _ => False) (fun _ => False) (fun o => o = P + 10) σ τ) (hg : ∀ j, (j ∈ ex → mv_b τ (P + 10) j = (mv_i σ P 17).toInt64) ∧ (¬ j ∈ ex → mv_b τ (P + 10) j = mv_b σ (P + 10) j)) : ((mv_i τ 2 15).toInt = r.length ∧ BkR (mv_a τ 28) (mv_a τ 29) (mv_a τ 30) (mv_a τ 31) (mv_b τ (P + 10)) (mv_i τ 13 7).toInt r ∧ Bo (mv_a τ (P + 9)) s r) ∧ ((mv_i τ P 17).toInt = s ∧ nSet (mv_a τ (P + 9)) s = ns ∧ (mv_i τ 21 0 = 0 → ∃ hg, CS th s (mv_a τ (P + 9)) (mv_b τ (P + 10)) (mv_a τ (P + 7)) no r hg 0)) := by
  obtain ⟨⟨h1, h2, h3, h4, h5⟩, h6, h7, h8⟩ := h
  have ei : mv_i τ = mv_i σ := funext fun o => funext fun k => hf.1 o k (fun q => q)
  have ea : mv_a τ = mv_a σ := funext fun o => hf.2.1 o (fun q => q)
  rw [ei, ea]
  refine ⟨⟨h1, h2.gcon (fun b q y hy => (hg y).2 (fun z => ?_)), h3.tail⟩, h6, h7, fun q => ?_⟩
  · have := h5 y z b q y hy
    omega
  · obtain ⟨hg9, k⟩ := h8 q
    exact ⟨hg9, k.aimAll h3 (show (-1 : Int32).toInt = -1 by decide) hg (by rw [lg_toInt]; exact h6)⟩
theorem CS.drop {x9 : Nat} {f : Nat → Int32} {g : Nat → Int64} {st : Nat → Int32} {hg : Nat → Nat} (h : CS th s f g st no (((-1 : Int32), []) :: r) hg x9) : CS th s f g st no r hg x9 := ⟨h.1, h.2.1, fun a q => (h.2.2.1 a q).elim (fun z => Or.inl (z.inv.resolve_left (fun y => y.elim (fun w => absurd (show (-1 : Int) = a from w) (by omega)) (fun w => absurd w List.not_mem_nil)))) Or.inr, h.2.2.2.1.tail, h.2.2.2.2⟩
/-- the end of an op -/
theorem KB.over (h : KB P σ th s ns no (-1) x [] []) (hP : PQ P) (hs : s < 1000000) : ((mv_i (pr_emit P σ 317 0) 2 15).toInt = 0) ∧ ((mv_i (pr_emit P σ 317 0) P 17).toInt = (s + 1 : Nat) ∧ nSet (mv_a (pr_emit P σ 317 0) (P + 9)) (s + 1) = ns ∧ (mv_i (pr_emit P σ 317 0) 21 0 = 0 → ∃ hg, CS th (s + 1) (mv_a (pr_emit P σ 317 0) (P + 9)) (mv_b (pr_emit P σ 317 0) (P + 10)) (mv_a (pr_emit P σ 317 0) (P + 7)) no [] hg 0)) := by
  obtain ⟨⟨h1, h2, h3, h4, h5⟩, h6, h7, h8⟩ := h
  unfold PQ at hP
  have en : (mv_i σ P 17).toNatClampNeg = s := by have := i32_cl (x := mv_i σ P 17) (by omega); omega
  have ef : ∀ j, mv_a (pr_emit P σ 317 0) (P + 9) j = if j = s then 317 else mv_a σ (P + 9) j := fun j => by rw [em_f, en]
  have eg : ∀ j, mv_b (pr_emit P σ 317 0) (P + 10) j = if j = s then 0 else mv_b σ (P + 10) j := fun j => by rw [em_g, en]
  rw [em_i σ 317 0 (show ¬ (2 = P ∧ 15 = 17) by omega), em_i17, em_i σ 317 0 (show ¬ (21 = P ∧ 0 = 17) by omega), em_a σ 317 0 (show P + 7 ≠ P + 9 by omega)]
  refine ⟨h1, by rw [i32_inc (by omega)]; omega, ?_, fun q => ?_⟩
  · rw [nSet_up ef, h7]
    show ns + isSet (317 : Int32) = ns
    rw [show isSet (317 : Int32) = 0 by decide]
    omega
  · obtain ⟨hg, k⟩ := h8 q
    exact ⟨_, (k.drop).emit h3.tail ef eg 0 (Or.inr (Or.inl rfl)) (by omega)⟩
theorem WN.forget {n sl : Nat} {k : Int32} (h : WN P M σ n th sl no) (hP : PQ P) (g : Fr (fun o k => o = 13 ∧ k = 7) (fun o => o = 14) (fun _ => False) σ τ) (hf : Nf σ τ) (hk : mv_i τ 13 7 = k) (k0 : 0 ≤ k.toInt) (k1 : k.toInt ≤ (mv_i σ 13 7).toInt) : WN P M τ n th sl no := by
  obtain ⟨h1, h2, h3, h4, h5, h6, h7⟩ := h
  unfold PQ at hP
  have c1 := i32_cl (x := k) k0
  have c2 := i32_cl (x := mv_i σ 13 7) (by omega)
  unfold WN NM Th Ns at *
  rw [hk, g.1 13 9 (by omega), g.1 P 0 (by omega), g.1 P 1 (by omega), g.1 P 6 (by omega), g.1 P 7 (by omega), g.1 P 8 (by omega), g.1 P 9 (by omega), g.1 P 10 (by omega), g.2.1 15 (by omega), g.2.1 19 (by omega), g.2.1 (P + 2) (by omega), g.2.1 (P + 3) (by omega)]
  refine ⟨fun y hy => ?_, h2, ⟨k0, by omega, fun i hi => h3.2.2 i (by omega)⟩, ⟨by omega, h4.2⟩, h5, h6, h7⟩
  rcases hf y with q | q
  · rw [q]; exact h1 y hy
  · rw [q]; exact ⟨fun z => absurd z (by decide), fun z => absurd z (by decide)⟩
theorem WN.leave {n sl : Nat} (h : WN P M σ n th sl no) (hP : PQ P) (g : NmF σ τ) (hf : Nf σ τ) (h7 : mv_i τ 13 7 = 0) (h9 : mv_i τ 13 9 = 0) : WN P M τ n th sl no := by
  obtain ⟨h1, h2, h3, h4, h5, h6, h7'⟩ := h
  unfold PQ at hP
  unfold WN NM Th Ns at *
  rw [h7, h9, g.1 P 0 (by omega), g.1 P 1 (by omega), g.1 P 6 (by omega), g.1 P 7 (by omega), g.1 P 8 (by omega), g.1 P 9 (by omega), g.1 P 10 (by omega), g.2.1 15 (by omega), g.2.1 19 (by omega), g.2.1 (P + 2) (by omega), g.2.1 (P + 3) (by omega)]
  refine ⟨fun y hy => ?_, h2, ⟨by decide, by decide, fun i hi => absurd hi (by show ¬ i < 0; omega)⟩, ⟨by decide, by decide⟩, h5, h6, h7'⟩
  rcases hf y with q | q
  · rw [q]; exact h1 y hy
  · rw [q]; exact ⟨fun z => absurd z (by decide), fun z => absurd z (by decide)⟩
theorem TP.tr {υ : mv_H} {n sz a a' : Nat} (g : WT P σ τ) (h : TP P M τ υ n sz a') (ha : a ≤ a') : TP P M σ υ n sz a := by
  obtain ⟨h1, h2, th2, sl2, no2, h3, h4⟩ := h
  exact ⟨g.tr h1, h2, th2, sl2, no2, h3, h4.elim Or.inl (fun q => by obtain ⟨a2, q1, q2⟩ := q; exact Or.inr ⟨a2, by omega, q2⟩)⟩
theorem KB.fr (h : KB P σ th s ns no u x ex r) (hP : PQ P) (e2 : mv_i τ 2 15 = mv_i σ 2 15) (e13 : mv_i τ 13 7 = mv_i σ 13 7) (e17 : mv_i τ P 17 = mv_i σ P 17) (e21 : mv_i τ 21 0 = mv_i σ 21 0) (ea : mv_a τ = mv_a σ) (eb : mv_b τ = mv_b σ) : KB P τ th s ns no u x ex r := by
  unfold KB at h ⊢
  rw [e2, e13, e17, e21, ea, eb]
  exact h
end KBS
