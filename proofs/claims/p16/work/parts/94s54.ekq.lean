/-! what stands beside RW where T reads the TEXT -/
def EKq (X : TX) (J P : Nat) (sy : List Nat → Nat) (fs : Nat → Nat) (h : mv_H) (c : CfA) (hd : List DnE) (md : MDq) (q : ODq) : Prop :=
  TBk P c.o.s h ∧ FEk P c.o.s q.lt h ∧ ZTk X J sy h c.o.s q.lt ∧ ∃ (L : CDq) (s z : Nat), CRw P fs h L z ∧ OPk P h L s q.B ∧
    if c.md = 0 then q.B.length = c.o.s.ops.length ∧ s = z ∧ z ≤ c.j
    else c.o.s.ops.length = q.B.length + 1 ∧ mv_a h (P + 7) q.B.length = nI s ∧ ZC X J sy h q.C c.o.s c.o.lk q.lz c.o.bl q.bz ∧
      if c.md = 1 then ∃ b, KSq X P fs h c.j c.o q L s b z
      else ∃ b e0, KXq X J P fs h c.j c.d c.M c.H L e0 z c.md md hd ∧ KGq h c.o q L s b e0 ∧ ((c.o.gl = 1 ∨ c.o.gl = 2 ∨ c.o.gl = 3) → mv_i h 2 9 = nI q.gi ∧ q.gi < 64)
/-- the program that was read -/
def KOw (P : Nat) (r : SI × LZ × List DnS) (h : mv_H) : Prop := (r.1.tl.length ≤ 64 ∧ r.1.ops.length ≤ 512 ∧ ∀ x, r.2.1 x < 64) ∧ TBk P r.1 h ∧ FEk P r.1 r.2.1 h ∧ r.2.2.length = r.1.ops.length ∧ ∃ (L : CDq) (z : Nat), CRw P (fsL r.1.tl) h L z ∧ OPk P h L z r.2.2
def KEx (X : TX) (J P : Nat) (sy : List Nat → Nat) (h : mv_H) (c : CfA) (C : List Nat) : Prop := ∀ r, tTx X = some r → ∃ (hd : List DnE) (md : MDq) (q : ODq), EndK X r c hd md q ∧ EKq X J P sy (fsL r.1.tl) h c hd md q ∧ (¬ c.md = 0 → C = q.C)
def KFn (X : TX) (P : Nat) (h : mv_H) : Prop := ∀ r, tTx X = some r → KOw P r h
section AST
variable {X : TX}
theorem aSt_M {j d : Nat} {o : OuA} {c' : CfA} (es : aSt X j d o = some c') : c'.M = [] ∧ c'.H = [] ∧ c'.md ≤ 2 := by
  unfold aSt at es
  repeat' split at es
  all_goals first
    | (cases es; exact ⟨rfl, rfl, (by show (0 : Nat) ≤ 2; omega)⟩)
    | (cases es; exact ⟨rfl, rfl, (by show (1 : Nat) ≤ 2; omega)⟩)
    | (cases es; exact ⟨rfl, rfl, (by show (2 : Nat) ≤ 2; omega)⟩)
    | cases es
theorem aSt_g {j d : Nat} {o : OuA} {c' : CfA} (es : aSt X j d o = some c') (w : c'.md = 2) (g : c'.o.gl = 1 ∨ c'.o.gl = 2 ∨ c'.o.gl = 3) : X.kd j = 3 ∧ ((o.lk (X.nm j)).1 = 1 ∨ (o.lk (X.nm j)).1 = 2) := by
  unfold aSt at es
  repeat' split at es
  all_goals first
    | (cases es; exact absurd g (by show ¬ ((0 : Nat) = 1 ∨ (0 : Nat) = 2 ∨ (0 : Nat) = 3); omega))
    | (cases es; exact absurd g (by show ¬ ((4 : Nat) = 1 ∨ (4 : Nat) = 2 ∨ (4 : Nat) = 3); omega))
    | (cases es; exact absurd w (by show ¬ (1 : Nat) = 2; omega))
    | (cases es; exact absurd w (by show ¬ (0 : Nat) = 2; omega))
    | (cases es; refine ⟨by assumption, ?_⟩; omega)
    | cases es
theorem aGo_oK {m : MkA} {j d : Nat} {M : List MkA} {H : List Nat} {o : OuA} {c : CfA} (e : aGo X m j d M H o = some c) : c.o = o ∧ (c.md = 2 ∨ c.md = 3) := by
  unfold aGo at e
  repeat' split at e
  all_goals first
    | (cases e; exact ⟨rfl, Or.inl rfl⟩)
    | (cases e; exact ⟨rfl, Or.inr rfl⟩)
    | (cases e; done)
    | (cases ez : tw m.k (H.tail.headD 0) (H.headD 0) with
       | none => rw [ez] at e; cases e
       | some z => rw [ez] at e; cases e; exact ⟨rfl, Or.inr rfl⟩)
theorem aOp_o {j d : Nat} {M : List MkA} {H : List Nat} {o : OuA} {c : CfA} (e : aOp X j d M H o = some c) : c.o = o ∧ (c.md = 2 ∨ c.md = 3) := by
  unfold aOp at e
  repeat' split at e
  all_goals first
    | (cases e; exact ⟨rfl, Or.inl rfl⟩)
    | (cases e; exact ⟨rfl, Or.inr rfl⟩)
    | cases e
theorem kOp_q (j : Nat) (o : OuA) (hd : List DnE) (md : MDq) (q : ODq) : (kOp X j o hd md q).2.2 = q := by
  unfold kOp
  repeat' split
  all_goals rfl
theorem aAf_s {j d : Nat} {M : List MkA} {H : List Nat} {o : OuA} {c' : CfA} (e : aAf X j d M H o = some c') : c'.o.s = o.s := by
  unfold aAf at e
  by_cases c1 : X.kd j = 91
  · rw [if_pos c1] at e
    unfold aPk at e
    repeat' split at e
    all_goals first
      | (cases e; rfl)
      | cases e
  rw [if_neg c1] at e
  cases eS : popS M H d with
  | none => rw [eS] at e; cases e
  | some r =>
  rw [eS] at e
  have e : (if 0 < lvq (X.kd j) then (popB (lvq (X.kd j)) r.1 r.2.1).bind fun t => some (CfA.mk 2 (j + 1) r.2.2 (MkA.mk (X.kd j) 0 0 :: t.1) t.2 o) else (popB 1 r.1 r.2.1).bind fun t => aCh X j r.2.2 t.1 t.2 o) = some c' := e
  by_cases c2 : 0 < lvq (X.kd j)
  · rw [if_pos c2] at e
    cases eB : popB (lvq (X.kd j)) r.1 r.2.1 with
    | none => rw [eB] at e; cases e
    | some t =>
      rw [eB] at e
      have e : some (CfA.mk 2 (j + 1) r.2.2 (MkA.mk (X.kd j) 0 0 :: t.1) t.2 o) = some c' := e
      rw [← Option.some.inj e]
  · rw [if_neg c2] at e
    cases eB : popB 1 r.1 r.2.1 with
    | none => rw [eB] at e; cases e
    | some t =>
      rw [eB] at e
      have e : aCh X j r.2.2 t.1 t.2 o = some c' := e
      unfold aCh at e
      by_cases c3 : X.kd j = 63
      · rw [if_pos c3] at e
        split at e
        · rw [← Option.some.inj e]
        · cases e
      · rw [if_neg c3] at e
        cases eC : popC t.1 t.2 r.2.2 with
        | none => rw [eC] at e; cases e
        | some u =>
          rw [eC] at e
          have e : (match (generalizing := false) u.1 with | [] => aFi X j u.2.2 u.2.1 o | m :: M' => aGo X m j u.2.2 M' u.2.1 o) = some c' := e
          obtain ⟨L, eL⟩ : ∃ L, L = u.1 := ⟨_, rfl⟩
          rw [← eL] at e
          cases L with
          | nil =>
            have e : aFi X j u.2.2 u.2.1 o = some c' := e
            exact (aFi_oK e).1
          | cons m M' =>
            have e : aGo X m j u.2.2 M' u.2.1 o = some c' := e
            rw [(aGo_oK e).1]
theorem aSp_tl {c c' : CfA} (e : aSp X c = some c') : ∃ m, c'.o.s.tl = c.o.s.tl ++ m := by
  unfold aSp at e
  split at e
  · unfold aIt aNw at e
    repeat' split at e
    all_goals first
      | (cases e; exact ⟨_, rfl⟩)
      | (cases e; exact ⟨[], (List.append_nil _).symm⟩)
      | cases e
  · exact ⟨[], by rw [aSt_o e, List.append_nil]⟩
  · exact ⟨[], by rw [(aOp_o e).1, List.append_nil]⟩
  · exact ⟨[], by rw [aAf_s e, List.append_nil]⟩
theorem EndK.tl {r : SI × LZ × List DnS} {c : CfA} {hd : List DnE} {md : MDq} {q : ODq} (t : EndK X r c hd md q) : ∃ m, r.1.tl = c.o.s.tl ++ m := by
  refine t (fun c _ _ _ => ∃ m, r.1.tl = c.o.s.tl ++ m) (fun c hd md q h e => ⟨[], ?_⟩) (fun c c' hd md q h k => ?_)
  · rw [e, List.append_nil]
  · obtain ⟨m, k⟩ := k
    obtain ⟨m', e⟩ := aSp_tl h
    exact ⟨m' ++ m, by rw [k, e, List.append_assoc]⟩
end AST
section STE
variable {X : TX} {J P : Nat} {sy : List Nat → Nat} {h h' : mv_H} {c c' : CfA} {lkB lkB' : LK} {C C' : List Nat} {SC SC' : List (List Nat)}
/-- a statement's turn -/
theorem st_E (R : RW X J P sy h c lkB C SC) (hm : c.md = 1) (KE : KEx X J P sy h c C) (es : aSp X c = some c') (e : f_Weaver_statement P h = some h') (R' : RW X J P sy h' c' lkB' C' SC') (hC' : ¬ c'.md = 0 → C' = C) : KEx X J P sy h' c' C' := by
  intro r hr
  obtain ⟨hd, md, q, EK, E, hC⟩ := KE r hr
  have hC := hC (by omega)
  have hpp := R.pp
  rcases EK.inv with ⟨w, -⟩ | ⟨c2, e2, EK'⟩
  · have := w.1; omega
  obtain rfl : c2 = c' := Option.some.inj (e2.symm.trans es)
  have eA : aSp X c = aSt X c.j c.d c.o := by unfold aSp; rw [hm]; rfl
  have es' : aSt X c.j c.d c.o = some c2 := eA.symm.trans es
  have ek : kSp X c hd md q = ([], [], kSt X c.j c.o q) := by unfold kSp; rw [hm]; rfl
  rw [ek] at EK'
  have kC := kSt_C (X := X) c.j c.o q
  refine ⟨[], [], kSt X c.j c.o q, EK', ?_, fun w => ?_⟩
  rotate_left
  · rw [hC' w, hC, kC.1]
  subst hC
  obtain ⟨E1, E2, E3, L, s, z, E4, E5, E6⟩ := E
  rw [if_neg (by omega)] at E6
  obtain ⟨E7, E8, E9, E10⟩ := E6
  rw [if_pos hm] at E10
  obtain ⟨b, KS⟩ := E10
  obtain ⟨h9, e9, SN, t9⟩ := st_K R hm KS (fun b bl w => by
    rw [w] at E9
    obtain ⟨c9, bz', ⟨-, k⟩, -⟩ := E9
    exact k) es'
  obtain rfl : h9 = h' := Option.some.inj (e9.symm.trans e)
  obtain ⟨g1, g2, g3, g4, -⟩ := fr_Weaver_statement (b1 := True) (b2 := True) (b3 := True) (b4 := True) (b5 := False) hpp (fun w => w) h h9 e
  have g1 := g1 trivial
  have g2 := g2 trivial
  have g3 := g3 trivial
  have g4 := g4 trivial
  have eo := aSt_o es'
  obtain ⟨eM, eH, m2⟩ := aSt_M es'
  unfold SNq at SN
  refine ⟨by rw [eo]; exact E1.gf g1.1 g1.2.1 g1.2.2, by rw [eo, kC.2]; exact E2.gf g3.1 g3.2, by rw [eo, kC.2]; exact E3.fr g4, ?_⟩
  by_cases m0 : c2.md = 0
  · rw [if_pos m0] at SN
    obtain ⟨L', z', s1, s2, s3, s4, s5, s6⟩ := SN
    have kB := kSt_0 E9 es' m0
    refine ⟨L', z' + 1, z' + 1, s1, ?_, ?_⟩
    · rw [kB]
      exact (E5.up (fun o _ => congrFun g2 o) (by omega) s3).ad (by rw [g2]; exact E8) (Nat.lt_succ_self z') s5 s6
    · rw [if_pos m0, kB, eo, List.length_append, E7]
      exact ⟨rfl, rfl, s2⟩
  · rw [if_neg m0] at SN
    obtain ⟨L', z', b', f1, f2, f3, f4⟩ := SN
    obtain ⟨zc, kB⟩ := zc_st E9 es' m0
    refine ⟨L', s, z', f1, ?_, ?_⟩
    · rw [kB]
      exact E5.up (fun o _ => congrFun g2 o) (Nat.le_refl _) f3
    rw [if_neg m0]
    refine ⟨by rw [eo, kB]; exact E7, by rw [kB, g2]; exact E8, by rw [kC.1, eo]; exact zc.fr g4, ?_⟩
    by_cases w : c2.md = 1
    · rw [if_pos w]
      rw [if_neg (by omega)] at f4
      exact ⟨b', f4⟩
    · have w2 : c2.md = 2 := by omega
      rw [if_neg w]
      rw [if_pos w2] at f4
      obtain ⟨Cx, -, -, -⟩ := R'.ex (Or.inl w2)
      refine ⟨b', z', ⟨Cx, f1, ?_, ?_⟩, f4, fun g => ?_⟩
      · rw [eM]; exact f2
      · rw [if_neg (by omega), eM]
        exact ⟨rfl, rfl, rfl⟩
      · obtain ⟨k3, kn⟩ := aSt_g es' w2 g
        have ek2 : (kSt X c.j c.o q).gi = q.lz (X.nm c.j) := by
          unfold kSt
          rw [if_pos k3]
        obtain ⟨lzB, z1, z2, z3⟩ := E9.zn
        have nl : nLt q.C (X.nm c.j) := by
          rintro ⟨c9, e9, hc, hn⟩
          have el := (R.lk (by omega)).1 (X.nm c.j)
          rw [e9] at el
          have el : c.o.lk [c9] = (if isl c9 = true ∧ 0 < cntL c9 q.C then (3, cntL c9 q.C) else lkB [c9]) := el
          rw [if_pos ⟨hc, hn⟩] at el
          rw [e9, el] at kn
          have kn : (3 : Nat) = 1 ∨ (3 : Nat) = 2 := kn
          omega
        rw [ek2, t9 k3, z1, lzO_n nl]
        exact ⟨z3 c.j R.jJ k3 nl (by omega), z2 _⟩
end STE
