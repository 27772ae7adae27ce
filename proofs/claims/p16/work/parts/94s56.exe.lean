/-! turns in an EXPR -/
theorem aFi_j {X : TX} {j d : Nat} {H : List Nat} {o : OuA} {c' : CfA} (es : aFi X j d H o = some c') : j < c'.j := by
  unfold aFi at es
  repeat' split at es
  all_goals first
    | (cases es; show j < j + 1; omega)
    | (cases es; show j < j + 2; omega)
    | cases es
theorem patE_kc (P : Nat) (u h' : mv_H) : KC9 P h' (patE P u h') := ⟨by rw [patE_i, if_pos (by omega)], by rw [patE_a, if_pos (Or.inr rfl)], by rw [patE_b, if_pos rfl]⟩
section EXE
variable {X : TX} {J P : Nat} {sy : List Nat → Nat} {h h' : mv_H} {c c' : CfA} {lkB lkB' : LK} {C C' : List Nat} {SC SC' : List (List Nat)}
/-- the next place of an EXPR -/
theorem exn_E {fs : Nat → Nat} {hd' : List DnE} {md' : MDq} {q : ODq} {u : mv_H} {L L' : CDq} {s z' b e0 : Nat} (hpp : P = 32 ∨ P = 48) (F : RFq P h u) (E1 : TBk P c.o.s h) (E2 : FEk P c.o.s q.lt h) (E3 : ZTk X J sy h c.o.s q.lt) (E5 : OPk P h L s q.B) (E7 : c.o.s.ops.length = q.B.length + 1) (E8 : mv_a h (P + 7) q.B.length = nI s) (E9 : ZC X J sy h q.C c.o.s c.o.lk q.lz c.o.bl q.bz) (KG : KGq h c.o q L s b e0) (GI : (c.o.gl = 1 ∨ c.o.gl = 2 ∨ c.o.gl = 3) → mv_i h 2 9 = nI q.gi ∧ q.gi < 64) (hL : ∀ i, i < e0 → L' i = L i) (eo : c'.o = c.o) (hmd : c'.md = 2 ∨ c'.md = 3) (Cx : CXq X J P (mv_si u 2 6 (nI c'.md)) c'.j c'.d c'.M c'.H) (K' : KXq X J P fs h' c'.j c'.d c'.M c'.H L' e0 z' c'.md md' hd') (kc : KC9 P h' u) (r25 : mv_a u 25 = mv_a h' 25) : EKq X J P sy fs (mv_si u 2 6 (nI c'.md)) c' hd' md' q := by
  have ua : ∀ o, ¬ ((23 ≤ o ∧ o ≤ 27) ∨ o = P + 9) → mv_a (mv_si u 2 6 (nI c'.md)) o = mv_a h o := fun o w => F.a o w
  have ui : ∀ o k, ¬ (o = 2 ∧ k = 6) → ¬ ((o = 3 ∧ 7 ≤ k ∧ k ≤ 9) ∨ (o = 22 ∧ (k = 8 ∨ k = 10)) ∨ (o = P ∧ k = 17) ∨ o = 21) → mv_i (mv_si u 2 6 (nI c'.md)) o k = mv_i h o k := fun o k w1 w => (mv_u_ne (mv_i u) _ w1).trans (F.i o k w)
  have l1 := KG.1.le
  have l2 := KG.2.le
  refine ⟨by rw [eo]; exact E1.gf (ua _ (by omega)) (ua _ (by omega)) (ui P 6 (by omega) (by omega)), by rw [eo]; exact E2.gf (ui P 8 (by omega) (by omega)) (ui P 9 (by omega) (by omega)), by rw [eo]; exact E3.fr (ua 15 (by omega)), L', s, z', (K'.2.1.kc kc).kc (KC9.si u _ (by omega)), E5.up (fun o _ => congrFun (ua (P + 7) (by omega)) o) (Nat.le_refl _) (fun i hi => hL i (by omega)), ?_⟩
  rw [if_neg (by omega)]
  refine ⟨by rw [eo]; exact E7, by rw [ua (P + 7) (by omega)]; exact E8, by rw [eo]; exact E9.fr (ua 15 (by omega)), ?_⟩
  rw [if_neg (by omega)]
  refine ⟨b, e0, ⟨Cx, (K'.2.1.kc kc).kc (KC9.si u _ (by omega)), K'.2.2.1, ?_⟩, by rw [eo]; exact KG.up hL (ua 29 (by omega)) (ua 30 (by omega)) (ui 2 10 (by omega) (by omega)), by rw [eo, ui 2 9 (by omega) (by omega)]; exact GI⟩
  have e25 : mv_a (mv_si u 2 6 (nI c'.md)) 25 = mv_a h' 25 := r25
  rw [e25]
  exact K'.2.2.2
theorem op_E {v : Int32} (R : RW X J P sy h c lkB C SC) (hm : c.md = 2) (hM : c.M.length ≤ 1000) (hH : c.H.length < 1024) (KE : KEx X J P sy h c C) (es : aSp X c = some c') (e : f_Exprs_operand P h = some (v, h')) (R' : RW X J P sy (mv_si (patE P h h') 2 6 (nI c'.md)) c' lkB C SC) : KEx X J P sy (mv_si (patE P h h') 2 6 (nI c'.md)) c' C := by
  intro r hr
  obtain ⟨hd, md, q, EK, E, hC⟩ := KE r hr
  have hC := hC (by omega)
  have hpp := R.pp
  obtain ⟨m9, tl9⟩ := EK.tl
  rcases EK.inv with ⟨w, -⟩ | ⟨c2, e2, EK'⟩
  · have := w.1; omega
  obtain rfl : c2 = c' := Option.some.inj (e2.symm.trans es)
  have eA : aSp X c = aOp X c.j c.d c.M c.H c.o := by unfold aSp; rw [hm]; rfl
  have es' : aOp X c.j c.d c.M c.H c.o = some c2 := eA.symm.trans es
  have ek : kSp X c hd md q = kOp X c.j c.o hd md q := by unfold kSp; rw [hm]; rfl
  rw [ek] at EK'
  have kq := kOp_q (X := X) c.j c.o hd md q
  rw [kq] at EK'
  refine ⟨_, _, q, EK', ?_, fun _ => hC⟩
  subst hC
  obtain ⟨E1, E2, E3, L, s, z, E4, E5, E6⟩ := E
  rw [if_neg (by omega)] at E6
  obtain ⟨E7, E8, E9, E10⟩ := E6
  rw [if_neg (by omega)] at E10
  obtain ⟨b, e0, KX, KG, GI⟩ := E10
  rw [hm] at KX
  obtain ⟨v9, h9, L', z', e9, K', hL⟩ := opr_K (q := q) KX hM hH R.hJ R.rn.h36 (fun k3 => nvk_K R.rn (R.lk (by omega)).1 E9.zn E1 tl9 R.jJ k3) es'
  obtain ⟨rfl, rfl⟩ := Prod.mk.inj (Option.some.inj (e9.symm.trans e))
  obtain ⟨eo, hmd⟩ := aOp_o es'
  exact exn_E hpp (patE_F P h h9) E1 E2 E3 E5 E7 E8 E9 KG GI hL eo hmd (R'.ex hmd).1 K' (patE_kc P h h9) (by rw [patE_a, if_pos (by omega)])
/-- ready to end the EXPR, with its code -/
def KFx (X : TX) (J P : Nat) (sy : List Nat → Nat) (h u1 : mv_H) (c : CfA) (C : List Nat) : Prop := ∀ r, tTx X = some r → ∃ (q : ODq) (D : DnE) (c' : CfA) (d' w : Nat) (L L' : CDq) (s b e0 z' : Nat), aSp X c = some c' ∧ aFi X c.j d' [w] c.o = some c' ∧ EndK X r c' [] [] (kFi D c.o q) ∧ C = q.C ∧ TBk P c.o.s h ∧ FEk P c.o.s q.lt h ∧ ZTk X J sy h c.o.s q.lt ∧ OPk P h L s q.B ∧ c.o.s.ops.length = q.B.length + 1 ∧ mv_a h (P + 7) q.B.length = nI s ∧ ZC X J sy h q.C c.o.s c.o.lk q.lz c.o.bl q.bz ∧ KGq h c.o q L s b e0 ∧ ((c.o.gl = 1 ∨ c.o.gl = 2 ∨ c.o.gl = 3) → mv_i h 2 9 = nI q.gi ∧ q.gi < 64) ∧ (∀ i, i < e0 → L' i = L i) ∧ KXq X J P (fsL r.1.tl) u1 c.j d' [] [w] L' e0 z' 3 [] [D]
theorem af_E {v : Int32} (R : RW X J P sy h c lkB C SC) (hm : c.md = 3) (hM : c.M.length ≤ 1000) (hH : nH c.M < 1000) (KE : KEx X J P sy h c C) (e : f_Exprs_after P h = some (v, h')) : (∀ c', aSp X c = some c' → ¬ v = 2 → RW X J P sy (mv_si (patE P h h') 2 6 (nI c'.md)) c' lkB C SC → KEx X J P sy (mv_si (patE P h h') 2 6 (nI c'.md)) c' C) ∧ (v = 2 → ∀ d' w, CXq X J P (patE P h h') c.j d' [] [w] → KFx X J P sy h (patE P h h') c C) := by
  have hpp := R.pp
  obtain ⟨Cx, hA, hW, G⟩ := R.ex (Or.inr hm)
  have eA : aSp X c = aAf X c.j c.d c.M c.H c.o := by unfold aSp; rw [hm]; rfl
  obtain ⟨w, H, eH, hw, hK⟩ : ∃ w H', c.H = w :: H' ∧ w ≤ 64 ∧ HK c.M H' := by
    unfold HW at hW; rw [if_pos hm] at hW; exact hW
  have hL : c.H.length = nH c.M + 1 := by rw [eH, List.length_cons, hK.len]
  have de := R.de
  have hd9 : nD c.M ≤ c.d := by omega
  obtain ⟨va, ha, ea, qa⟩ := aft_C (o := c.o) Cx hL hM hH hd9 (fun m z => (hA m z).1) R.hJ
  obtain ⟨rfl, rfl⟩ := Prod.mk.inj (Option.some.inj (e.symm.trans ea))
  have main : ∀ r, tTx X = some r → ∃ (hd : List DnE) (md : MDq) (q : ODq) (c' : CfA) (L L' : CDq) (s b e0 z' : Nat), aSp X c = some c' ∧ EndK X r c' (kAf X c.j c.d c.M c.H c.o hd md q).1 (kAf X c.j c.d c.M c.H c.o hd md q).2.1 (kAf X c.j c.d c.M c.H c.o hd md q).2.2 ∧ C = q.C ∧ (TBk P c.o.s h ∧ FEk P c.o.s q.lt h ∧ ZTk X J sy h c.o.s q.lt ∧ OPk P h L s q.B ∧ c.o.s.ops.length = q.B.length + 1 ∧ mv_a h (P + 7) q.B.length = nI s ∧ ZC X J sy h q.C c.o.s c.o.lk q.lz c.o.bl q.bz ∧ KGq h c.o q L s b e0 ∧ ((c.o.gl = 1 ∨ c.o.gl = 2 ∨ c.o.gl = 3) → mv_i h 2 9 = nI q.gi ∧ q.gi < 64)) ∧ (∀ i, i < e0 → L' i = L i) ∧ ((v = 2 ∧ ∃ d' w D, some c' = aFi X c.j d' [w] c.o ∧ KXq X J P (fsL r.1.tl) h' c.j d' [] [w] L' e0 z' 3 [] [D] ∧ kAf X c.j c.d c.M c.H c.o hd md q = ([], [], kFi D c.o q)) ∨ ∃ c9, some c' = some c9 ∧ KXq X J P (fsL r.1.tl) h' c9.j c9.d c9.M c9.H L' e0 z' c9.md (kAf X c.j c.d c.M c.H c.o hd md q).2.1 (kAf X c.j c.d c.M c.H c.o hd md q).1 ∧ (kAf X c.j c.d c.M c.H c.o hd md q).2.2 = q ∧ c9.o = c.o) := by
    intro r hr
    obtain ⟨hd, md, q, EK, E, hC⟩ := KE r hr
    rcases EK.inv with ⟨w, -⟩ | ⟨c2, e2, EK'⟩
    · have := w.1; omega
    have ek : kSp X c hd md q = kAf X c.j c.d c.M c.H c.o hd md q := by unfold kSp; rw [hm]; rfl
    rw [ek] at EK'
    obtain ⟨E1, E2, E3, L, s, z, E4, E5, E6⟩ := E
    rw [if_neg (by omega)] at E6
    obtain ⟨E7, E8, E9, E10⟩ := E6
    rw [if_neg (by omega)] at E10
    obtain ⟨b, e0, KX, KG, GI⟩ := E10
    rw [hm] at KX
    obtain ⟨v9, h9, L', z', e9, hL', K'⟩ := aft_K (q := q) (o := c.o) KX hL hM hH hd9 (by rw [eH]; exact hw) (fun m z => (hA m z).1) R.hJ (eA.symm.trans e2)
    obtain ⟨rfl, rfl⟩ := Prod.mk.inj (Option.some.inj (e9.symm.trans e))
    exact ⟨hd, md, q, c2, L, L', s, b, e0, z', e2, EK', hC (by omega), ⟨E1, E2, E3, E5, E7, E8, E9, KG, GI⟩, hL', K'⟩
  refine ⟨fun c' es hv R' r hr => ?_, fun hv d' w Cf r hr => ?_⟩
  · obtain ⟨hd, md, q, c2, L, L', s, b, e0, z', e2, EK', hC, ⟨E1, E2, E3, E5, E7, E8, E9, KG, GI⟩, hL', K'⟩ := main r hr
    obtain rfl : c2 = c' := Option.some.inj (e2.symm.trans es)
    rcases K' with ⟨q1, -⟩ | ⟨c9, q1, K', q2, q3⟩
    · exact absurd q1 hv
    obtain rfl := Option.some.inj q1
    rw [q2] at EK'
    have hmd : c2.md = 2 ∨ c2.md = 3 := by
      have ra9 := eA.symm.trans e2
      rcases qa with ⟨-, qn⟩ | ⟨q9, -⟩ | ⟨c8, ra, -, -, -, m8⟩
      · rw [ra9] at qn; cases qn
      · exact absurd q9 hv
      · rw [ra9] at ra
        rw [Option.some.inj ra]; exact m8
    refine ⟨_, _, q, EK', ?_, fun _ => hC⟩
    exact exn_E hpp (patE_F P h h') E1 E2 E3 E5 E7 E8 E9 KG GI hL' q3 hmd (R'.ex hmd).1 K' (patE_kc P h h') (by rw [patE_a, if_pos (by omega)])
  · obtain ⟨hd, md, q, c2, L, L', s, b, e0, z', e2, EK', hC, ⟨E1, E2, E3, E5, E7, E8, E9, KG, GI⟩, hL', K'⟩ := main r hr
    rcases K' with ⟨-, d9, w9, D, q1, K', q2⟩ | ⟨c9, q1, K', q2, q3⟩
    · rw [q2] at EK'
      have Cf2 : CXq X J P (patE P h h') c.j d9 [] [w9] := by
        have ed : d' = d9 := by
          have z1 := Cf.dp
          rw [patE_i, if_pos (by omega), K'.1.dp] at z1
          have := Cf.d2
          have := K'.1.d2
          exact ((nIinj (by omega) (by omega)).mp z1).symm
        have ew : w = w9 := by
          have z1 := Cf.hr.1.1
          have z2 := K'.1.hr.1.1
          have z1 : mv_a (patE P h h') 27 0 = nI w := z1
          have z2 : mv_a h' 27 0 = nI w9 := z2
          rw [patE_a, if_pos (by omega), z2] at z1
          have b1 := Cf.sm
          have b2 := K'.1.sm
          have b1 : w + 0 ≤ 40000 * (c.j + 1) := b1
          have b2 : w9 + 0 ≤ 40000 * (c.j + 1) := b2
          have := R.tb.jb
          have := R.jJ
          exact ((nIinj (by omega) (by omega)).mp z1).symm
        rw [← ed, ← ew]; exact Cf
      refine ⟨q, D, c2, d9, w9, L, L', s, b, e0, z', e2, q1.symm, EK', hC, E1, E2, E3, E5, E7, E8, E9, KG, GI, hL', Cf2, K'.2.1.kc (patE_kc P h h'), K'.2.2.1, ?_⟩
      rw [patE_a, if_pos (by omega)]
      exact K'.2.2.2
    · exfalso
      obtain rfl := Option.some.inj q1
      have ra9 := eA.symm.trans e2
      rcases qa with ⟨-, qn⟩ | ⟨-, d1, w1, Cx1, ra, -⟩ | ⟨c8, ra, -, ev, -⟩
      · rw [ra9] at qn; cases qn
      · rw [ra9] at ra
        have lj := aFi_j ra.symm
        have z1 := Cx1.at'
        rw [K'.1.at'] at z1
        have b1 := K'.1.jJ
        have b2 := Cx1.jJ
        have b3 := R.tb.jb
        have := (nIinj (by omega) (by omega)).mp z1
        omega
      · rw [hv] at ev
        split at ev
        · exact absurd ev (by decide)
        · exact absurd ev (by decide)
end EXE
/-! the end of an EXPR -/
section FNE
variable {X : TX} {J P : Nat} {sy : List Nat → Nat} {h u1 h' : mv_H} {c c' : CfA} {lkB lkB' : LK} {C C' : List Nat} {SC SC' : List (List Nat)}
theorem fn_E {d1 w1 : Nat} (R : RW X J P sy h c lkB C SC) (hm : c.md = 3) (F : RFq P h u1) (C1 : CXq X J P u1 c.j d1 [] [w1]) (hd1 : d1 + nD c.M = c.d) (KF : KFx X J P sy h u1 c C) (es : aSp X c = some c') (e : f_Weaver_finish P (mv_si u1 2 6 3) = some h') (R' : RW X J P sy h' c' lkB' C' SC') (hC' : ¬ c'.md = 0 → C' = C) : KEx X J P sy h' c' C' := by
  intro r hr
  obtain ⟨q, D, c2, d', w, L, L', s, b, e0, z', e2, ef, EK', hC, E1, E2, E3, E5, E7, E8, E9, KG, GI, hL, K⟩ := KF r hr
  obtain rfl : c2 = c' := Option.some.inj (e2.symm.trans es)
  have hpp := R.pp
  have ed : d1 = d' := by
    have z1 := C1.dp
    rw [K.1.dp] at z1
    have := C1.d2
    have := K.1.d2
    exact ((nIinj (by omega) (by omega)).mp z1).symm
  subst ed
  obtain ⟨eo, m0⟩ := aFi_oK ef
  obtain ⟨kC1, kC2, kC3⟩ := kFi_C D c.o q
  refine ⟨[], [], kFi D c.o q, EK', ?_, fun w => by rw [hC' w, hC, kC1]⟩
  subst hC
  obtain ⟨h9, e9, FK, t9, r15, s15⟩ := fn_K R hm F K KG hL hd1 GI ef
  obtain rfl : h9 = h' := Option.some.inj (e9.symm.trans e)
  obtain ⟨g1, g2, g3, -, -⟩ := fr_Weaver_finish (b1 := True) (b2 := True) (b3 := True) (b4 := False) (b5 := False) hpp (fun w => w) (fun w => w) (mv_si u1 2 6 3) h9 e
  have g1 := g1 trivial
  have g2 := g2 trivial
  have g3 := g3 trivial
  have ua : ∀ o, ¬ ((23 ≤ o ∧ o ≤ 27) ∨ o = P + 9) → mv_a (mv_si u1 2 6 3) o = mv_a h o := fun o w => F.a o w
  have ui : ∀ o k, ¬ (o = 2 ∧ k = 6) → ¬ ((o = 3 ∧ 7 ≤ k ∧ k ≤ 9) ∨ (o = 22 ∧ (k = 8 ∨ k = 10)) ∨ (o = P ∧ k = 17) ∨ o = 21) → mv_i (mv_si u1 2 6 3) o k = mv_i h o k := fun o k w1 w => (mv_u_ne (mv_i u1) _ w1).trans (F.i o k w)
  have a7 : mv_a h9 (P + 7) = mv_a h (P + 7) := g2.trans (ua _ (by omega))
  have inj : ∀ u, u ≤ J → X.kd u = 3 → ∀ i, i ≤ J → X.kd i = 3 → sy (X.nm i) = sy (X.nm u) → X.nm i = X.nm u := fun u hu ku i a b e => R.rn.S.inj i u a hu b ku e
  obtain ⟨-, -, -, Go⟩ := R.ex (Or.inr hm)
  -- names
  have nm : ZTk X J sy h9 c.o.s q.lt ∧ ZC X J sy h9 q.C c.o.s c2.o.lk (kFi D c.o q).lz c2.o.bl (kFi D c.o q).bz := by
    by_cases c0 : c.o.gl = 0
    · obtain ⟨⟨i, i1, i2, i3⟩, -, l0, l64⟩ := Go.l c0
      have e15 := r15 c0
      have nl : nLt q.C c.o.gn := by
        rintro ⟨c9, e9, hc, hn⟩
        have el := (R.lk (by omega)).1 c.o.gn
        rw [e9] at el
        have el : c.o.lk [c9] = (if isl c9 = true ∧ 0 < cntL c9 q.C then (3, cntL c9 q.C) else lkB [c9]) := el
        rw [if_pos ⟨hc, hn⟩] at el
        rw [e9, el] at l0
        exact absurd l0 (by show ¬ 3 = 0; omega)
      refine ⟨?_, zc_f0 E9 c0 ef i1 i2 i3 (inj i i1 i2) l0 nl l64 e15⟩
      have e' : ∀ k, ¬ k = sy (X.nm i) → mv_a h9 15 k = mv_a h 15 k := fun k hk => by rw [e15, if_neg (by rw [← i3]; exact hk)]
      exact E3.wr i1 i2 (inj i i1 i2) (Decidable.byContradiction fun x => E9.mo _ x (by rw [i3]; exact l0)) e'
    · exact ⟨E3.fr (s15 c0), (zc_fi E9 c0 ef).fr (s15 c0)⟩
  obtain ⟨L2, z2, b2, f1, f2, f3, f4⟩ := FK
  refine ⟨by rw [eo]; exact E1.gf (g1.1.trans (ua _ (by omega))) (g1.2.1.trans (ua _ (by omega))) (g1.2.2.trans (ui P 6 (by omega) (by omega))), by rw [eo, kC2]; exact E2.gf (g3.1.trans (ui P 8 (by omega) (by omega))) (g3.2.trans (ui P 9 (by omega) (by omega))), by rw [eo, kC2]; exact nm.1, L2, s, z2, f1, by rw [kC3]; exact E5.up (fun o _ => congrFun a7 o) (Nat.le_refl _) f3, ?_⟩
  rw [if_neg m0]
  refine ⟨by rw [eo, kC3]; exact E7, by rw [kC3, a7]; exact E8, by rw [kC1, eo]; exact nm.2, ?_⟩
  have eFi : aFi X c.j d1 [w] c.o = if c.o.gl = 1 then (if X.kd c.j = 93 ∧ X.kd (c.j + 1) = 61 then some (CfA.mk 2 (c.j + 2) (d1 - 1) [] [] (OuA.mk 3 c.o.gn c.o.gw c.o.bl c.o.lk c.o.le c.o.s)) else none)
    else if c.o.gl = 4 then (if w = 1 ∧ d1 < 60 ∧ X.kd c.j = 123 then some (CfA.mk 1 (c.j + 1) (d1 + 1) [] [] (OuA.mk c.o.gl c.o.gn c.o.gw ((209, c.o.lk) :: c.o.bl) c.o.lk c.o.le c.o.s)) else none)
    else if c.o.gl = 0 then (if X.kd c.j = 59 then some (CfA.mk 1 (c.j + 1) d1 [] [] (OuA.mk c.o.gl c.o.gn c.o.gw c.o.bl (updK c.o.lk c.o.gn (3, w)) (c.o.le + 1) c.o.s)) else none)
    else if c.o.gw = w ∧ X.kd c.j = 59 then some (CfA.mk 1 (c.j + 1) d1 [] [] c.o) else none := rfl
  rw [eFi] at ef
  by_cases c1 : c.o.gl = 1
  · rw [if_pos c1] at ef
    by_cases cc : X.kd c.j = 93 ∧ X.kd (c.j + 1) = 61
    rotate_left
    · rw [if_neg cc] at ef; cases ef
    rw [if_pos cc] at ef
    obtain rfl := Option.some.inj ef
    rw [if_neg (show ¬ 2 = 1 by omega)]
    rw [if_pos (show 2 = 2 from rfl)] at f4
    obtain ⟨Cx, -, -, -⟩ := R'.ex (Or.inl rfl)
    have ek : kFi D c.o q = ODq.mk q.lz q.bz q.D q.ch q.gi D q.C q.lt q.B := if_pos c1
    refine ⟨b2, z2, ⟨Cx, f1, f2, ?_⟩, f4, fun _ => ?_⟩
    · rw [if_neg (show ¬ 2 = 3 by omega)]
      exact ⟨rfl, rfl, rfl⟩
    · rw [ek, t9 c1]
      exact GI (Or.inl c1)
  · have w1 : c2.md = 1 := by
      rw [if_neg c1] at ef
      repeat' split at ef
      all_goals first
        | (rw [← Option.some.inj ef])
        | cases ef
    rw [if_pos w1]
    rw [if_neg (by omega)] at f4
    exact ⟨b2, f4⟩
/-- the TEXT's end -/
theorem fi_E (R : RW X J P sy h c lkB C SC) (hm : c.md = 0) (h1 : X.kd c.j = 1) (KE : KEx X J P sy h c C) {h' : mv_H} (eh : h' = mv_si h 2 6 4) : KFn X P h' := by
  intro r hr
  obtain ⟨hd, md, q, EK, E, -⟩ := KE r hr
  have hpp := R.pp
  obtain ⟨E1, E2, E3, L, s, z, E4, E5, E6⟩ := E
  rw [if_pos hm] at E6
  obtain ⟨E7, E8, E9⟩ := E6
  subst E8
  have er : r = (c.o.s, q.lt, q.B) := by
    rcases EK.inv with ⟨-, w⟩ | ⟨c2, e2, -⟩
    · exact w
    · have eA : aSp X c = aIt X c.j c.o := by unfold aSp; rw [hm]; rfl
      rw [eA] at e2
      unfold aIt at e2
      rw [if_neg (by omega), if_neg (by omega), if_neg (by omega), if_neg (by omega)] at e2
      cases e2
  rw [er] at E4 ⊢
  subst eh
  exact ⟨⟨R.rn.t2, R.rn.o2, E3.1⟩, E1.gf rfl rfl (mv_u_ne (mv_i h) _ (by omega)), E2.gf (mv_u_ne (mv_i h) _ (by omega)) (mv_u_ne (mv_i h) _ (by omega)), E7, L, s, E4.kc (KC9.si h _ (by omega)), E5.up (fun _ _ => rfl) (Nat.le_refl _) (fun _ _ => rfl)⟩
end FNE
