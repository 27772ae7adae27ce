/-! names' numbers through statements -/
section ZST
variable {X : TX} {J : Nat} {sy : List Nat → Nat} {h : mv_H} {C : List Nat} {s : SI}
theorem aSt_o {j d : Nat} {o : OuA} {c' : CfA} (es : aSt X j d o = some c') : c'.o.s = o.s := by
  unfold aSt at es
  repeat' split at es
  all_goals (cases es; try rfl)
theorem aFi_oK {j d : Nat} {H : List Nat} {o : OuA} {c' : CfA} (es : aFi X j d H o = some c') : c'.o.s = o.s ∧ ¬ c'.md = 0 := by
  unfold aFi at es
  repeat' split at es
  all_goals first
    | (cases es; exact ⟨rfl, (by show ¬ (1 : Nat) = 0; omega)⟩)
    | (cases es; exact ⟨rfl, (by show ¬ (2 : Nat) = 0; omega)⟩)
    | (cases es; done)
theorem kSt_C (j : Nat) (o : OuA) (q : ODq) : (kSt X j o q).C = q.C ∧ (kSt X j o q).lt = q.lt := by
  unfold kSt kCl
  repeat' split
  all_goals exact ⟨rfl, rfl⟩
theorem kFi_C (D : DnE) (o : OuA) (q : ODq) : (kFi D o q).C = q.C ∧ (kFi D o q).lt = q.lt ∧ (kFi D o q).B = q.B := by
  unfold kFi
  repeat' split
  all_goals exact ⟨rfl, rfl, rfl⟩
theorem zc_st {j d : Nat} {o : OuA} {q : ODq} {c' : CfA} (Z : ZC X J sy h C s o.lk q.lz o.bl q.bz) (es : aSt X j d o = some c') (hm : ¬ c'.md = 0) : ZC X J sy h C s c'.o.lk (kSt X j o q).lz c'.o.bl (kSt X j o q).bz ∧ (kSt X j o q).B = q.B := by
  by_cases c5 : X.kd j = 125
  · have ek : kSt X j o q = kCl X j (o.bl.headD (0, o.lk)).1 q := by
      unfold kSt
      rw [if_neg (by omega), if_neg (by omega), if_neg (by omega), if_pos c5]
    have eA : aSt X j d o = match o.bl with
      | [] => none
      | (k, lk0) :: bl => if k = 206 then some (CfA.mk 0 (j + 1) (d - 1) [] [] (OuA.mk o.gl o.gn o.gw bl lk0 o.le o.s))
        else if k = 209 ∧ X.kd (j + 1) = 210 then
          (if X.kd (j + 2) = 209 then some (CfA.mk 2 (j + 3) (d - 1) [] [] (OuA.mk 4 o.gn o.gw bl lk0 o.le o.s))
           else if X.kd (j + 2) = 123 then some (CfA.mk 1 (j + 3) d [] [] (OuA.mk o.gl o.gn o.gw ((210, lk0) :: bl) lk0 o.le o.s)) else none)
        else some (CfA.mk 1 (j + 1) (d - 1) [] [] (OuA.mk o.gl o.gn o.gw bl lk0 o.le o.s)) := by
      unfold aSt
      rw [if_neg (by omega), if_neg (by omega), if_neg (by omega), if_neg (by omega), if_pos c5]
      first | rfl | (rcases o.bl with _ | ⟨⟨k, lk0⟩, bl⟩ <;> rfl)
    rw [eA] at es
    rw [ek]
    clear eA ek
    revert Z es
    generalize o.bl = bl0
    intro Z es
    cases bl0 with
    | nil => cases es
    | cons b0 bl =>
    obtain ⟨k, lk0⟩ := b0
    obtain ⟨c9, bz', ⟨z1, z5⟩, z2, z3, z4⟩ := Z
    have es : (if k = 206 then some (CfA.mk 0 (j + 1) (d - 1) [] [] (OuA.mk o.gl o.gn o.gw bl lk0 o.le o.s))
        else if k = 209 ∧ X.kd (j + 1) = 210 then
          (if X.kd (j + 2) = 209 then some (CfA.mk 2 (j + 3) (d - 1) [] [] (OuA.mk 4 o.gn o.gw bl lk0 o.le o.s))
           else if X.kd (j + 2) = 123 then some (CfA.mk 1 (j + 3) d [] [] (OuA.mk o.gl o.gn o.gw ((210, lk0) :: bl) lk0 o.le o.s)) else none)
        else some (CfA.mk 1 (j + 1) (d - 1) [] [] (OuA.mk o.gl o.gn o.gw bl lk0 o.le o.s))) = some c' := es
    have ek : kCl X j (((k, lk0) :: bl).headD (0, o.lk)).1 q = if k = 206 then ODq.mk c9.1 bz' zSk q.ch q.gi q.ix q.C q.lt (q.B ++ [q.D])
      else if k = 209 ∧ X.kd (j + 1) = 210 then (if X.kd (j + 2) = 209 then ODq.mk c9.1 bz' c9.2.1 (fun e => c9.2.2.1 (zIf c9.2.2.2 q.D e)) q.gi q.ix q.C q.lt q.B
        else ODq.mk c9.1 ((c9.1, c9.2.1, (fun e => c9.2.2.1 (zIf c9.2.2.2 q.D e)), dN) :: bz') zSk q.ch q.gi q.ix q.C q.lt q.B)
      else if k = 209 then ODq.mk c9.1 bz' (zSq c9.2.1 (c9.2.2.1 (zIf c9.2.2.2 q.D zSk))) q.ch q.gi q.ix q.C q.lt q.B
      else ODq.mk c9.1 bz' (zSq c9.2.1 (c9.2.2.1 q.D)) q.ch q.gi q.ix q.C q.lt q.B := by
      unfold kCl
      rw [z1]
      rfl
    rw [ek]
    by_cases c6 : k = 206
    · rw [if_pos c6] at es
      exact absurd (by rw [← Option.some.inj es]) hm
    rw [if_neg c6] at es ⊢
    by_cases c1 : k = 209 ∧ X.kd (j + 1) = 210
    · rw [if_pos c1] at es ⊢
      by_cases c2 : X.kd (j + 2) = 209
      · rw [if_pos c2] at es ⊢
        obtain rfl := Option.some.inj es
        exact ⟨z4, rfl⟩
      · rw [if_neg c2] at es ⊢
        by_cases c4 : X.kd (j + 2) = 123
        · rw [if_pos c4] at es
          obtain rfl := Option.some.inj es
          exact ⟨⟨_, bz', ⟨rfl, Or.inr (Or.inr rfl)⟩, z4.zn, fun _ w => w, z4⟩, rfl⟩
        · rw [if_neg c4] at es; cases es
    · rw [if_neg c1] at es ⊢
      obtain rfl := Option.some.inj es
      by_cases c2 : k = 209
      · rw [if_pos c2]; exact ⟨z4, rfl⟩
      · rw [if_neg c2]; exact ⟨z4, rfl⟩
  · have e1 : c'.o.lk = o.lk ∧ c'.o.bl = o.bl := by
      unfold aSt at es
      repeat' split at es
      all_goals first
        | (exfalso; omega)
        | (cases es; exact ⟨rfl, rfl⟩)
        | cases es
    have e2 : (kSt X j o q).lz = q.lz ∧ (kSt X j o q).bz = q.bz ∧ (kSt X j o q).B = q.B := by
      unfold kSt
      repeat' split
      all_goals first
        | (exfalso; omega)
        | exact ⟨rfl, rfl, rfl⟩
    rw [e1.1, e1.2, e2.1, e2.2.1, e2.2.2]
    exact ⟨Z, rfl⟩
/-- an op is over -/
theorem kSt_0 {j d : Nat} {o : OuA} {q : ODq} {c' : CfA} (Z : ZC X J sy h C s o.lk q.lz o.bl q.bz) (es : aSt X j d o = some c') (hm : c'.md = 0) : (kSt X j o q).B = q.B ++ [q.D] := by
  by_cases c5 : X.kd j = 125
  · have ek : kSt X j o q = kCl X j (o.bl.headD (0, o.lk)).1 q := by
      unfold kSt
      rw [if_neg (by omega), if_neg (by omega), if_neg (by omega), if_pos c5]
    have eA : aSt X j d o = match o.bl with
      | [] => none
      | (k, lk0) :: bl => if k = 206 then some (CfA.mk 0 (j + 1) (d - 1) [] [] (OuA.mk o.gl o.gn o.gw bl lk0 o.le o.s))
        else if k = 209 ∧ X.kd (j + 1) = 210 then
          (if X.kd (j + 2) = 209 then some (CfA.mk 2 (j + 3) (d - 1) [] [] (OuA.mk 4 o.gn o.gw bl lk0 o.le o.s))
           else if X.kd (j + 2) = 123 then some (CfA.mk 1 (j + 3) d [] [] (OuA.mk o.gl o.gn o.gw ((210, lk0) :: bl) lk0 o.le o.s)) else none)
        else some (CfA.mk 1 (j + 1) (d - 1) [] [] (OuA.mk o.gl o.gn o.gw bl lk0 o.le o.s)) := by
      unfold aSt
      rw [if_neg (by omega), if_neg (by omega), if_neg (by omega), if_neg (by omega), if_pos c5]
      first | rfl | (rcases o.bl with _ | ⟨⟨k, lk0⟩, bl⟩ <;> rfl)
    rw [eA] at es
    rw [ek]
    clear eA ek
    revert Z es
    generalize o.bl = bl0
    intro Z es
    cases bl0 with
    | nil => cases es
    | cons b0 bl =>
    obtain ⟨k, lk0⟩ := b0
    obtain ⟨c9, bz', ⟨z1, z5⟩, z2, z3, z4⟩ := Z
    have es : (if k = 206 then some (CfA.mk 0 (j + 1) (d - 1) [] [] (OuA.mk o.gl o.gn o.gw bl lk0 o.le o.s))
        else if k = 209 ∧ X.kd (j + 1) = 210 then
          (if X.kd (j + 2) = 209 then some (CfA.mk 2 (j + 3) (d - 1) [] [] (OuA.mk 4 o.gn o.gw bl lk0 o.le o.s))
           else if X.kd (j + 2) = 123 then some (CfA.mk 1 (j + 3) d [] [] (OuA.mk o.gl o.gn o.gw ((210, lk0) :: bl) lk0 o.le o.s)) else none)
        else some (CfA.mk 1 (j + 1) (d - 1) [] [] (OuA.mk o.gl o.gn o.gw bl lk0 o.le o.s))) = some c' := es
    by_cases c6 : k = 206
    · show (kCl X j k q).B = _
      unfold kCl
      rw [z1, c6]
      rfl
    · rw [if_neg c6] at es
      exfalso
      repeat' split at es
      all_goals first
        | (cases es; exact absurd hm (by show ¬ (1 : Nat) = 0; omega))
        | (cases es; exact absurd hm (by show ¬ (2 : Nat) = 0; omega))
        | cases es
  · exfalso
    unfold aSt at es
    repeat' split at es
    all_goals first
      | omega
      | (cases es; exact absurd hm (by show ¬ (1 : Nat) = 0; omega))
      | (cases es; exact absurd hm (by show ¬ (2 : Nat) = 0; omega))
      | cases es
theorem zc_fi {D : DnE} {j d w : Nat} {o : OuA} {q : ODq} {c' : CfA} (Z : ZC X J sy h C s o.lk q.lz o.bl q.bz) (h0 : ¬ o.gl = 0) (es : aFi X j d [w] o = some c') : ZC X J sy h C s c'.o.lk (kFi D o q).lz c'.o.bl (kFi D o q).bz := by
  by_cases c4 : o.gl = 4
  · have ek : kFi D o q = ODq.mk q.lz ((q.lz, q.D, q.ch, D) :: q.bz) zSk q.ch q.gi q.ix q.C q.lt q.B := by
      unfold kFi
      rw [if_neg (by omega), if_pos c4]
    have e1 : c'.o.lk = o.lk ∧ c'.o.bl = (209, o.lk) :: o.bl := by
      unfold aFi at es
      rw [if_neg (by omega), if_pos c4] at es
      split at es
      · cases es; exact ⟨rfl, rfl⟩
      · cases es
    rw [e1.1, e1.2, ek]
    exact ⟨_, q.bz, ⟨rfl, Or.inr (Or.inl rfl)⟩, Z.zn, fun _ w => w, Z⟩
  · have e1 : c'.o.lk = o.lk ∧ c'.o.bl = o.bl := by
      unfold aFi at es
      repeat' split at es
      all_goals first
        | (exfalso; omega)
        | (cases es; exact ⟨rfl, rfl⟩)
        | cases es
    have e2 : (kFi D o q).lz = q.lz ∧ (kFi D o q).bz = q.bz := by
      unfold kFi
      repeat' split
      all_goals first
        | (exfalso; omega)
        | exact ⟨rfl, rfl⟩
    rw [e1.1, e1.2, e2.1, e2.2]
    exact Z
theorem zc_f0 {h' : mv_H} {D : DnE} {j d w u : Nat} {o : OuA} {q : ODq} {c' : CfA} (Z : ZC X J sy h C s o.lk q.lz o.bl q.bz) (h0 : o.gl = 0) (es : aFi X j d [w] o = some c') (hu : u ≤ J) (hku : X.kd u = 3) (eu : X.nm u = o.gn) (inj : ∀ i, i ≤ J → X.kd i = 3 → sy (X.nm i) = sy (X.nm u) → X.nm i = X.nm u) (hz : (o.lk o.gn).1 = 0) (hl : nLt C o.gn) (hv : o.le < 64) (e : ∀ k, mv_a h' 15 k = if k = sy o.gn then nI o.le else mv_a h 15 k) : ZC X J sy h' C s c'.o.lk (kFi D o q).lz c'.o.bl (kFi D o q).bz := by
  have ek : kFi D o q = ODq.mk (updZ q.lz o.gn o.le) q.bz (zSq q.D (zLt o.le D)) q.ch q.gi q.ix q.C q.lt q.B := by
    unfold kFi
    rw [if_neg (by omega), if_neg (by omega), if_pos h0]
  have e1 : c'.o.lk = updK o.lk o.gn (3, w) ∧ c'.o.bl = o.bl := by
    unfold aFi at es
    rw [if_neg (by omega), if_neg (by omega), if_pos h0] at es
    split at es
    · cases es; exact ⟨rfl, rfl⟩
    · cases es
  rw [e1.1, e1.2, ek]
  show ZC X J sy h' C s (updK o.lk o.gn (3, w)) (updZ q.lz o.gn o.le) o.bl q.bz
  rw [← eu] at hz hl e ⊢
  have e' : ∀ k, ¬ k = sy (X.nm u) → mv_a h' 15 k = mv_a h 15 k := fun k hk => by rw [e, if_neg hk]
  have mo : ∀ x, ¬ (o.lk x).1 = 0 → ¬ (updK o.lk (X.nm u) (3, w) x).1 = 0 := fun x hx => by
    unfold updK
    split
    · show ¬ 3 = 0; omega
    · exact hx
  revert Z
  generalize o.bl = bl0
  generalize q.bz = bz0
  intro Z
  cases bl0 with
  | nil => exact ⟨Z.1, Z.2.1.al hu hku inj hz hl hv e, fun x hx => mo x (Z.2.2 x hx)⟩
  | cons b bl =>
    obtain ⟨c9, bz', z1, z2, z3, z4⟩ := Z
    exact ⟨c9, bz', z1, z2.al hu hku inj hz hl hv e, fun x hx => mo x (z3 x hx), z4.wr hu hku inj e' (Decidable.byContradiction fun q => z3 _ q hz)⟩
end ZST
/-! the end of an EXPR -/
theorem KXq.f26 {X : TX} {J P : Nat} {fs : Nat → Nat} {h : mv_H} {j d : Nat} {M : List MkA} {H : List Nat} {L : CDq} {e0 z t : Nat} {md : MDq} {hd : List DnE} (K : KXq X J P fs h j d M H L e0 z t md hd) (v : Int32) : KXq X J P fs (mv_si h 2 6 v) j d M H L e0 z t md hd := by
  have hpp := K.1.pp
  exact ⟨K.1.f26 v, K.2.1.kc (KC9.si h v (by omega)), K.2.2.1, K.2.2.2⟩
section FNK
variable {X : TX} {J P : Nat} {sy : List Nat → Nat} {fs : Nat → Nat} {h u1 : mv_H} {c : CfA} {lkB : LK} {C : List Nat} {SC : List (List Nat)} {L L' : CDq} {s b e0 z' d' w : Nat} {q : ODq} {D : DnE} {c' : CfA}
theorem fn_K (R : RW X J P sy h c lkB C SC) (hm : c.md = 3) (F : RFq P h u1) (K : KXq X J P fs u1 c.j d' [] [w] L' e0 z' 3 [] [D]) (G : KGq h c.o q L s b e0) (hL : ∀ i, i < e0 → L' i = L i) (hd' : d' + nD c.M = c.d) (GI : (c.o.gl = 1 ∨ c.o.gl = 2 ∨ c.o.gl = 3) → mv_i h 2 9 = nI q.gi ∧ q.gi < 64) (es : aFi X c.j d' [w] c.o = some c') : ∃ h', f_Weaver_finish P (mv_si u1 2 6 3) = some h' ∧ FKq X P fs h' c' (kFi D c.o q) L s ∧ (c.o.gl = 1 → mv_i h' 2 9 = mv_i h 2 9) ∧ (c.o.gl = 0 → ∀ k, mv_a h' 15 k = if k = sy c.o.gn then nI c.o.le else mv_a h 15 k) ∧ (¬ c.o.gl = 0 → mv_a h' 15 = mv_a h 15) := by
  have hpp := R.pp
  have hJ := R.hJ
  have hJb := R.tb.jb
  obtain ⟨-, -, -, G0⟩ := R.ex (Or.inr hm)
  obtain ⟨h2, eh2⟩ : ∃ h2, h2 = mv_si u1 2 6 3 := ⟨_, rfl⟩
  rw [← eh2]
  have K2 : KXq X J P fs h2 c.j d' [] [w] L' e0 z' 3 [] [D] := by rw [eh2]; exact K.f26 3
  have C2 := K2.1
  have Go : GoR X J P sy h2 c.o := by rw [eh2]; exact G0.rf hpp F 3
  have r0 := R.rn
  rw [if_neg (by omega)] at r0
  have r : RN X J P sy h2 c.o.s c.o.bl lkB C SC c.o.le := by rw [eh2]; exact r0.kp hpp (F.kp 3)
  obtain ⟨elk, hb⟩ := R.lk (by omega)
  have de := R.de
  have e27 : mv_a h2 27 0 = nI w := C2.hr.1.1
  have e10 : mv_i h2 22 10 = nI 1 := C2.hl
  have t2 := r.t2
  have s2 := r.s2
  have l2 := r.l2
  have i2 : ∀ k, ¬ k = 6 → mv_i h2 2 k = mv_i h 2 k := fun k hk => by rw [eh2]; exact (mv_u_ne (mv_i u1) _ (by omega)).trans (F.i 2 k (by omega))
  have a15 : mv_a h2 15 = mv_a h 15 := by rw [eh2]; exact F.a 15 (by omega)
  have W : WA X J P sy h2 c.j d' := by
    refine ⟨⟨C2.tb, Sm.rf, C2.at', C2.jJ, C2.dp, C2.d2, by rw [C2.ok]; decide, rfl, fun z => z⟩, r.S, hpp, hJ, C2.sz, fun i k1 k2 z => ?_⟩
    rcases r.kn i k1 k2 with ⟨k, -⟩ | ⟨v, u, w, -, -, k3, k4, -⟩ | ⟨u, w, k, -⟩
    · rw [k] at z; exact absurd z (by decide)
    · exact ⟨u, k3, by omega⟩
    · rw [k] at z; exact absurd z (by decide)
  have db : d' = c.o.bl.length + (if c.o.gl = 1 then 1 else 0) := by
    by_cases z : c.o.gl = 1
    · rw [if_pos ⟨z, by omega, by omega⟩] at de
      rw [if_pos z]; omega
    · rw [if_neg (fun y => z y.1)] at de
      rw [if_neg z]; omega
  have g4 := Go.g4
  have hd2 := C2.d2
  have G2 : KGq h2 c.o q L' s b e0 := G.up hL (by rw [eh2]; exact F.a 29 (by omega)) (by rw [eh2]; exact F.a 30 (by omega)) (i2 10 (by omega))
  have lb1 := G.1.le
  have lb2 := G.2.le
  have bl6 : c.o.bl.length ≤ 60 := by
    by_cases z : c.o.gl = 1
    · rw [if_pos z] at db; omega
    · rw [if_neg z] at db; omega
  obtain ⟨h', e, FK⟩ := fin_K K2 G2 hJ Go.g g4 r.k0 bl6 (fun z => by rw [if_pos z] at db; omega) (fun z => by
    obtain ⟨⟨i, i1, i2, i3⟩, l9, -, l64⟩ := Go.l z
    obtain ⟨-, sb, -⟩ := r.S.t i i1 i2
    rw [i3] at sb
    exact ⟨sy c.o.gn, SC.length, l9, by omega, r.l0, l64, r.s0, s2⟩) (fun z => by
    obtain ⟨u, u1, u2, u3, -⟩ := Go.w (by omega)
    obtain ⟨v1, v2⟩ := GI (by omega)
    rw [← i2 9 (by omega)] at v1
    have eu : u = q.gi := (nIinj (by omega) (by omega)).mp (u1.symm.trans v1)
    rw [← eu]
    exact ⟨u1, by omega, u3⟩) es
  refine ⟨h', e, ?_, ?_⟩
  · obtain ⟨L2, z2, b2, f1, f2, f3, f4⟩ := FK
    exact ⟨L2, z2, b2, f1, f2, fun i hi => (f3 i hi).trans (hL i (by omega)), f4⟩
  have eFi : aFi X c.j d' [w] c.o = if c.o.gl = 1 then (if X.kd c.j = 93 ∧ X.kd (c.j + 1) = 61 then some (CfA.mk 2 (c.j + 2) (d' - 1) [] [] (OuA.mk 3 c.o.gn c.o.gw c.o.bl c.o.lk c.o.le c.o.s)) else none)
    else if c.o.gl = 4 then (if w = 1 ∧ d' < 60 ∧ X.kd c.j = 123 then some (CfA.mk 1 (c.j + 1) (d' + 1) [] [] (OuA.mk c.o.gl c.o.gn c.o.gw ((209, c.o.lk) :: c.o.bl) c.o.lk c.o.le c.o.s)) else none)
    else if c.o.gl = 0 then (if X.kd c.j = 59 then some (CfA.mk 1 (c.j + 1) d' [] [] (OuA.mk c.o.gl c.o.gn c.o.gw c.o.bl (updK c.o.lk c.o.gn (3, w)) (c.o.le + 1) c.o.s)) else none)
    else if c.o.gw = w ∧ X.kd c.j = 59 then some (CfA.mk 1 (c.j + 1) d' [] [] c.o) else none := rfl
  rw [eFi] at es
  by_cases c1 : c.o.gl = 1
  · rw [if_pos c1] at es db
    by_cases cc : X.kd c.j = 93 ∧ X.kd (c.j + 1) = 61
    rotate_left
    · rw [if_neg cc] at es; cases es
    obtain ⟨h9, e9, q9⟩ := fin1_A W e10 (by rw [Go.g, c1]; rfl) (by omega)
    obtain rfl : h9 = h' := Option.some.inj (e9.symm.trans e)
    rcases q9 with ⟨-, Q, -, -, t9⟩ | ⟨p, -⟩
    · exact ⟨fun _ => t9.trans (i2 9 (by omega)), fun z => by omega, fun _ => (Q.kp.a 15 (by omega) (by omega)).trans a15⟩
    · exact absurd cc p
  rw [if_neg c1] at es db
  obtain ⟨t, t8, ht⟩ := Go.t c1
  by_cases c4 : c.o.gl = 4
  · rw [if_pos c4] at es
    by_cases cc : w = 1 ∧ d' < 60 ∧ X.kd c.j = 123
    rotate_left
    · rw [if_neg cc] at es; cases es
    obtain ⟨h9, e9, q9⟩ := fin4_A W e10 (by rw [Go.g, c4]; rfl) t8 ht r.k0 (by omega)
    obtain rfl : h9 = h' := Option.some.inj (e9.symm.trans e)
    rcases q9 with ⟨-, -, g1, a1, a2, Q, eh⟩ | ⟨p, -⟩
    · refine ⟨fun z => by omega, fun z => by omega, fun _ => ?_⟩
      have oa : mv_a h9 15 = mv_a g1 15 := by
        rw [eh]
        unfold OBk
        funext f
        simp only [rw_ii, rw_aa, rw_bb, rw_ia, rw_ib, rw_ai, rw_ab, rw_bi, rw_ba]
        rw [if_neg (by omega), if_neg (by omega), if_neg (by omega), if_neg (by omega)]
      exact oa.trans ((Q.kp.a 15 (by omega) (by omega)).trans a15)
    · refine absurd ⟨?_, cc.2.2, cc.2.1⟩ p
      rw [e27, cc.1]; decide
  rw [if_neg c4] at es
  by_cases c0 : c.o.gl = 0
  · rw [if_pos c0] at es
    by_cases cc : X.kd c.j = 59
    rotate_left
    · rw [if_neg cc] at es; cases es
    obtain ⟨⟨i, i1, i2', i3⟩, l9, l0, l64⟩ := Go.l c0
    obtain ⟨-, sb, -⟩ := r.S.t i i1 i2'
    rw [i3] at sb
    obtain ⟨h9, e9, q9⟩ := fin0_A W e10 (by rw [Go.g, c0]; rfl) r.l0 r.s0 s2 (Or.inr ⟨sy c.o.gn, l9, by omega, l64⟩)
    obtain rfl : h9 = h' := Option.some.inj (e9.symm.trans e)
    refine ⟨fun z => by omega, fun _ k => ?_, fun z => absurd c0 z⟩
    rcases q9 with ⟨s9, es9, hs9, hl9, -, g3, k9, Q, -, A, T, -⟩ | ⟨p, -⟩ | ⟨p, -⟩
    · have es2 : s9 = sy c.o.gn := (nIinj (by omega) (by omega)).mp (es9.symm.trans l9)
      rw [T.sm.a, A.a15, es2, Q.kp.a 15 (by omega) (by omega), a15]
    · exact absurd cc p
    · rw [l9] at p
      have := (nIlt (b := 0) (by omega) (by omega)).mp p
      omega
  · rw [if_neg c0] at es
    by_cases cc : c.o.gw = w ∧ X.kd c.j = 59
    rotate_left
    · rw [if_neg cc] at es; cases es
    obtain ⟨u, u1, u2, u3, u4, u5⟩ := Go.w (by omega)
    obtain ⟨h9, e9, q9⟩ := fin2_A W e10 (by
      rw [Go.g]
      have : c.o.gl = 2 ∨ c.o.gl = 3 := by omega
      rcases this with z | z <;> rw [z]
      · exact Or.inl rfl
      · exact Or.inr rfl) t8 ht (Or.inr ⟨u, u1, by omega⟩)
    obtain rfl : h9 = h' := Option.some.inj (e9.symm.trans e)
    refine ⟨fun z => by omega, fun z => absurd z c0, fun _ => ?_⟩
    rcases q9 with ⟨u', v1, v2, q1, q2, Q, m3⟩ | ⟨p, -⟩ | ⟨p, -⟩
    · exact (Q.kp.a 15 (by omega) (by omega)).trans a15
    · refine absurd ⟨cc.2, ?_⟩ (p u u1 (by omega))
      rw [e27, u3, cc.1]; exact Or.inr (Or.inr rfl)
    · rw [u1] at p
      have := (nIlt (b := 0) (by omega) (by omega)).mp p
      omega
end FNK
