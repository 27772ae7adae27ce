/-! an EXPR is over: the statement's code -/
section FKW
variable {X : TX} {J P : Nat} {fs : Nat → Nat} {h : mv_H} {j d w : Nat}
def FKq (X : TX) (P : Nat) (fs : Nat → Nat) (h' : mv_H) (c : CfA) (q : ODq) (L : CDq) (s : Nat) : Prop := ∃ L' z' b', CRw P fs h' L' z' ∧ z' ≤ c.j ∧ (∀ i, i < s → L' i = L i) ∧ if c.md = 2 then KGq h' c.o q L' s b' z' else KSq X P fs h' c.j c.o q L' s b' z'
theorem fin_K {L : CDq} {e0 z s b : Nat} {o : OuA} {q : ODq} {D : DnE} (K : KXq X J P fs h j d [] [w] L e0 z 3 [] [D]) (G : KGq h o q L s b e0) (hJ : X.kd J = 1 ∨ X.kd J = 2) (g7 : mv_i h 2 7 = nI o.gl) (hgl : o.gl ≤ 4) (hb : mv_i h 2 15 = nI o.bl.length) (hb6 : o.bl.length ≤ 60) (h1 : o.gl = 1 → 0 < d)
    (h0 : o.gl = 0 → ∃ y n, mv_i h 2 9 = nI y ∧ y < 16448 ∧ mv_i h 13 9 = nI o.le ∧ o.le < 64 ∧ mv_i h 13 7 = nI n ∧ n ≤ o.le) (h2 : (o.gl = 2 ∨ o.gl = 3) → mv_i h 2 9 = nI q.gi ∧ q.gi < 64 ∧ mv_a h (P + 1) q.gi = nI o.gw) {c : CfA} (ec : aFi X j d [w] o = some c) : ∃ h', f_Weaver_finish P h = some h' ∧ FKq X P fs h' c (kFi D o q) L s := by
  obtain ⟨C, R, hz, l⟩ := K
  rw [if_pos rfl] at l
  have hz : z + 0 ≤ j := hz
  have E : SgE L e0 z D := (L3.fi l).1
  obtain ⟨G1, G2⟩ := G
  have l1 := G1.le
  have l2 := G2.le
  have l3 := E.1
  have hjb := C.tb.jb
  have hjJ := C.jJ
  have eFi : aFi X j d [w] o = if o.gl = 1 then (if X.kd j = 93 ∧ X.kd (j + 1) = 61 then some (CfA.mk 2 (j + 2) (d - 1) [] [] (OuA.mk 3 o.gn o.gw o.bl o.lk o.le o.s)) else none)
    else if o.gl = 4 then (if w = 1 ∧ d < 60 ∧ X.kd j = 123 then some (CfA.mk 1 (j + 1) (d + 1) [] [] (OuA.mk o.gl o.gn o.gw ((209, o.lk) :: o.bl) o.lk o.le o.s)) else none)
    else if o.gl = 0 then (if X.kd j = 59 then some (CfA.mk 1 (j + 1) d [] [] (OuA.mk o.gl o.gn o.gw o.bl (updK o.lk o.gn (3, w)) (o.le + 1) o.s)) else none)
    else if o.gw = w ∧ X.kd j = 59 then some (CfA.mk 1 (j + 1) d [] [] o) else none := rfl
  rw [eFi] at ec
  have un : ∀ (x : Nat × Int64) i, i < z → uL L z x i = L i := fun x i q => uL_n L x (by omega)
  by_cases c1 : o.gl = 1
  · rw [if_pos c1] at ec
    by_cases cc : X.kd j = 93 ∧ X.kd (j + 1) = 61
    rotate_left
    · rw [if_neg cc] at ec; cases ec
    rw [if_pos cc] at ec
    obtain rfl := Option.some.inj ec
    obtain ⟨e, rfl⟩ : ∃ e, d = e + 1 := ⟨d - 1, by have := h1 c1; omega⟩
    obtain ⟨h', f1, k1, b29, b30, i10⟩ := fin1_K C hJ (by rw [g7, c1]; rfl) cc.1 cc.2
    refine ⟨h', f1, L, z, b, R.kc k1, by show z ≤ j + 2; omega, fun _ _ => rfl, ?_⟩
    rw [if_pos (show 2 = 2 from rfl)]
    have ek : kFi D o q = ODq.mk q.lz q.bz q.D q.ch q.gi D q.C q.lt q.B := if_pos c1
    rw [ek]
    unfold GLk at G2
    rw [if_neg (by omega), if_neg (by omega)] at G2
    refine ⟨?_, ?_⟩
    · rw [b29, b30]; exact G1
    · unfold GLk
      rw [if_neg (show ¬ 3 = 4 by omega), if_pos (show 3 = 3 from rfl)]
      exact ⟨e0, G2, E⟩
  rw [if_neg c1] at ec
  by_cases c4 : o.gl = 4
  · rw [if_pos c4] at ec
    by_cases cc : w = 1 ∧ d < 60 ∧ X.kd j = 123
    rotate_left
    · rw [if_neg cc] at ec; cases ec
    rw [if_pos cc] at ec
    obtain rfl := Option.some.inj ec
    obtain ⟨cw, cd, ck⟩ := cc
    subst cw
    obtain ⟨h', f1, R1, r29, r30, rr⟩ := fin4_K C R (by omega) (by rw [g7, c4]; rfl) hb hb6 cd ck
    refine ⟨h', f1, uL L z (312, 0), z + 1, z + 1, R1, by show z + 1 ≤ j + 1; omega, fun i hi => un _ i (by omega), ?_⟩
    rw [if_neg (show ¬ 1 = 2 by omega)]
    have ek : kFi D o q = ODq.mk q.lz ((q.lz, q.D, q.ch, D) :: q.bz) zSk q.ch q.gi q.ix q.C q.lt q.B := by
      unfold kFi
      rw [if_neg c1, if_pos c4]
    rw [ek]
    unfold GLk at G2
    rw [if_pos c4] at G2
    obtain ⟨p, Js, p1, p2, p3⟩ := G2
    refine ⟨R1, by show z + 1 ≤ j + 1; omega, ?_, SgS.sk⟩
    exact BLk.o9 (k := (209, o.lk)) (c := (q.lz, q.D, q.ch, D)) rfl G1 p1 p2 E r29 (by rw [r30]; exact p3) (fun i hi => rr i (by omega))
  rw [if_neg c4] at ec
  unfold GLk at G2
  rw [if_neg c4] at G2
  by_cases c0 : o.gl = 0
  · rw [if_pos c0] at ec
    by_cases cc : X.kd j = 59
    rotate_left
    · rw [if_neg cc] at ec; cases ec
    rw [if_pos cc] at ec
    obtain rfl := Option.some.inj ec
    rw [if_neg (by omega)] at G2
    obtain ⟨y, n, y1, y2, y3, y4, y5, y6⟩ := h0 c0
    obtain ⟨h', f1, R1, b29, b30, i10⟩ := fin0_K C R (by omega) (by rw [g7, c0]; rfl) y1 y2 y3 y4 y5 y6 cc
    refine ⟨h', f1, uL L z (313, nJ o.le), z + 1, b, R1, by show z + 1 ≤ j + 1; omega, fun i hi => un _ i (by omega), ?_⟩
    rw [if_neg (show ¬ 1 = 2 by omega)]
    have ek : kFi D o q = ODq.mk (updZ q.lz o.gn o.le) q.bz (zSq q.D (zLt o.le D)) q.ch q.gi q.ix q.C q.lt q.B := by
      unfold kFi
      rw [if_neg c1, if_neg c4, if_pos c0]
    rw [ek]
    refine ⟨R1, by show z + 1 ≤ j + 1; omega, ?_, SgS.sq (G2.up (fun i _ q => un _ i (by omega))) (SgS.lt' (by omega) (E.up (fun i _ q => un _ i q)) (uL_s L z _))⟩
    rw [b29, b30]
    exact G1.up (fun i _ q => un _ i (by omega)) (fun _ _ => ⟨rfl, rfl⟩)
  rw [if_neg c0] at ec
  by_cases cc : o.gw = w ∧ X.kd j = 59
  rotate_left
  · rw [if_neg cc] at ec; cases ec
  rw [if_pos cc] at ec
  obtain rfl := Option.some.inj ec
  obtain ⟨u1, u2, u3⟩ := h2 (by omega)
  rw [cc.1] at u3
  obtain ⟨h', f1, R1, b29, b30, i10⟩ := fin2_K C hJ R (by omega) (show o.gl = 2 ∨ o.gl = 3 by omega) g7 u1 u2 u3 cc.2
  refine ⟨h', f1, uL L z (if o.gl = 2 then 314 else 315, nJ q.gi), z + 1, b, R1, by show z + 1 ≤ j + 1; omega, fun i hi => un _ i (by omega), ?_⟩
  rw [if_neg (show ¬ 1 = 2 by omega)]
  refine ⟨R1, by show z + 1 ≤ j + 1; omega, ?_, ?_⟩
  · rw [b29, b30]
    have ebz : (kFi D o q).bz = q.bz := by
      unfold kFi
      rw [if_neg c1, if_neg c4, if_neg c0]
      split <;> rfl
    rw [ebz]
    exact G1.up (fun i _ q => un _ i (by omega)) (fun _ _ => ⟨rfl, rfl⟩)
  · by_cases g2 : o.gl = 2
    · have ek : (kFi D o q).D = zSq q.D (zRg q.gi D) := by
        unfold kFi
        rw [if_neg c1, if_neg c4, if_neg c0, if_pos g2]
      rw [ek, if_pos g2]
      rw [if_neg (by omega)] at G2
      exact SgS.sq (G2.up (fun i _ q => un _ i (by omega))) (SgS.rg (by omega) (E.up (fun i _ q => un _ i q)) (uL_s L z _))
    · have ek : (kFi D o q).D = zSq q.D (zCl q.gi q.ix D) := by
        unfold kFi
        rw [if_neg c1, if_neg c4, if_neg c0, if_neg g2]
      rw [ek, if_neg g2]
      rw [if_pos (by omega)] at G2
      obtain ⟨p, p1, p2⟩ := G2
      have l5 := p2.1
      exact SgS.sq (p1.up (fun i _ q => un _ i (by omega))) (SgS.cl (by omega) (p2.up (fun i _ q => un _ i (by omega))) (E.up (fun i _ q => un _ i q)) (uL_s L z _))
end FKW
