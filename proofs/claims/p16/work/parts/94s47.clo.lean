/-! } of an if, of an else -/
section CLO
variable {X : TX} {J P : Nat} {fs : Nat → Nat} {h : mv_H} {j d : Nat}
theorem clo_K {L : CDq} {s b z kk n : Nat} {sg : Nat → Nat} {o : OuA} {q : ODq} {k : Nat} {lk0 : LK} {bl : List (Nat × LK)} (hpp : P = 32 ∨ P = 48) (K : KSq X P fs h j o q L s b z) (eo : o.bl = (k, lk0) :: bl) (hk9 : k = 209 ∨ k = 210) (T : PT X J h h j d) (hJ : X.kd J = 1 ∨ X.kd J = 2) (hk : X.kd j = 125) (hd0 : 0 < d) (hb : mv_i h 2 15 = nI (bl.length + 1)) (hb2 : bl.length < 60) (a28 : mv_a h 28 bl.length = nI k) (sc : mv_i h 13 7 = nI n) (n2 : n ≤ 64) (k1 : mv_a h 31 bl.length = nI kk) (k2 : kk ≤ n) (ss : ∀ i, i < n → mv_a h 19 i = nI (sg i) ∧ sg i < 16448) {c : CfA} (ec : (if k = 209 ∧ X.kd (j + 1) = 210 then (if X.kd (j + 2) = 209 then some (CfA.mk 2 (j + 3) (d - 1) [] [] (OuA.mk 4 o.gn o.gw bl lk0 o.le o.s)) else if X.kd (j + 2) = 123 then some (CfA.mk 1 (j + 3) d [] [] (OuA.mk o.gl o.gn o.gw ((210, lk0) :: bl) lk0 o.le o.s)) else none) else some (CfA.mk 1 (j + 1) (d - 1) [] [] (OuA.mk o.gl o.gn o.gw bl lk0 o.le o.s))) = some c) : ∃ h', f_Weaver_closeBlock P h = some h' ∧ FKq X P fs h' c (kCl X j k q) L s := by
  obtain ⟨R, hz, B, S⟩ := K
  rw [eo] at B
  have hjb := T.tb.jb
  have hjJ := T.jJ
  have hj1 := nxJ hJ T.jJ (by omega) (by omega)
  have hd2 := T.d2
  obtain ⟨g, e0, kc, ra, rb, g15, Tg, g37, g38, g39, g13, g19, g10⟩ := clh_K (sg := sg) hpp T hJ hk hd0 hb hb2 sc n2 k1 k2 ss
  have Rg := R.kc kc
  have g28 : mv_a g 28 bl.length = nI k := by rw [ra 28 (by omega)]; exact a28
  have l5 := S.1
  have l6 := B.le
  rw [e0]
  by_cases c9 : k = 209
  · subst c9
    by_cases ce : X.kd (j + 1) = 210
    · rw [if_pos ⟨rfl, ce⟩] at ec
      have hj2 := nxJ hJ hj1 (by omega) (by omega)
      have k1' : X.kd (j + 1 + 1) = 209 ∨ X.kd (j + 1 + 1) = 123 := by
        by_cases q1 : X.kd (j + 2) = 209
        · exact Or.inl q1
        · by_cases q2 : X.kd (j + 2) = 123
          · exact Or.inr q2
          · rw [if_neg q1, if_neg q2] at ec; cases ec
      obtain ⟨cz, bz', b1, p0, y, Js, f1, f2, f3, f4, f5, f6, f7, f8, f9⟩ := BLk.ce (by omega) rfl B S
      obtain ⟨h', e1, R1, w1, w2⟩ := clT_e (y := y) hpp Tg g37 hj2 g39 g38 (by omega) Rg (by omega) g15 hb2 g28 (by rw [ra 29 (by omega)]; exact f2) f4 f5 ce k1'
      rw [ra 30 (by omega)] at R1
      have eq : q.bz = cz :: bz' := f1
      have un : ∀ i, i < s → uL (uL L z (311, (mv_a h 30 bl.length).toInt64)) y (312, nJ (z + 1)) i = L i := fun i q => (uL_n _ _ (by omega)).trans (uL_n L _ (by omega))
      refine ⟨h', e1, uL (uL L z (311, (mv_a h 30 bl.length).toInt64)) y (312, nJ (z + 1)), z + 1, ?_⟩
      by_cases q1 : X.kd (j + 2) = 209
      · rw [if_pos q1] at ec
        obtain rfl := Option.some.inj ec
        obtain ⟨v1, v2, v3⟩ := w1 q1
        refine ⟨b1, R1, by show z + 1 ≤ j + 3; omega, un, ?_⟩
        rw [if_pos (show 2 = 2 from rfl)]
        have ek : kCl X j 209 q = ODq.mk cz.1 bz' cz.2.1 (fun e => cz.2.2.1 (zIf cz.2.2.2 q.D e)) q.gi q.ix q.C q.lt q.B := by
          unfold kCl
          rw [eq]
          show (if 209 = 206 then _ else if 209 = 209 ∧ X.kd (j + 1) = 210 then (if X.kd (j + 2) = 209 then _ else _) else _) = _
          rw [if_neg (by omega), if_pos ⟨rfl, ce⟩, if_pos q1]
        rw [ek]
        refine ⟨?_, ?_⟩
        · show BLk _ (mv_a h' 29) (mv_a h' 30) s bl bz' b1
          rw [v1, v2, ra 29 (by omega), ra 30 (by omega)]
          exact f6
        · unfold GLk
          rw [if_pos (show 4 = 4 from rfl)]
          exact ⟨p0, z :: Js, f7, f8, by rw [v3]; exact f9⟩
      · rw [if_neg q1, if_pos (show X.kd (j + 2) = 123 from k1'.resolve_left q1)] at ec
        obtain rfl := Option.some.inj ec
        obtain ⟨v1, v2⟩ := w2 q1
        refine ⟨z + 1, R1, by show z + 1 ≤ j + 3; omega, un, ?_⟩
        rw [if_neg (show ¬ 1 = 2 by omega)]
        have ek : kCl X j 209 q = ODq.mk cz.1 ((cz.1, cz.2.1, (fun e => cz.2.2.1 (zIf cz.2.2.2 q.D e)), dN) :: bz') zSk q.ch q.gi q.ix q.C q.lt q.B := by
          unfold kCl
          rw [eq]
          show (if 209 = 206 then _ else if 209 = 209 ∧ X.kd (j + 1) = 210 then (if X.kd (j + 2) = 209 then _ else _) else _) = _
          rw [if_neg (by omega), if_pos ⟨rfl, ce⟩, if_neg q1]
        rw [ek]
        refine ⟨R1, by show z + 1 ≤ j + 3; omega, ?_, SgS.sk⟩
        show BLk _ (mv_a h' 29) (mv_a h' 30) s ((210, lk0) :: bl) ((cz.1, cz.2.1, (fun e => cz.2.2.1 (zIf cz.2.2.2 q.D e)), dN) :: bz') (z + 1)
        refine BLk.o0 (u := mv_a h 29) (x := mv_a h 30) (k := (210, lk0)) (c := (cz.1, cz.2.1, (fun e => cz.2.2.1 (zIf cz.2.2.2 q.D e)), dN)) (Js := z :: Js) rfl f6 f7 f8 ?_ ?_ (fun i hi => ⟨?_, ?_⟩)
        · rw [v1, if_pos rfl]
        · rw [v2, if_pos rfl]; exact f9
        · rw [v1, if_neg (by omega), ra 29 (by omega)]
        · rw [v2, if_neg (by omega), ra 30 (by omega)]
    · rw [if_neg (fun w => ce w.2)] at ec
      obtain rfl := Option.some.inj ec
      obtain ⟨cz, bz', b1, y, Js, f1, f2, f3, f4, f5, f6, f7, f8, f9⟩ := BLk.c9 (by omega) rfl B S
      obtain ⟨h', e1, R1, i1, a1⟩ := c181_9 (y := y) (Js := Js) hpp Rg g15 (by omega) (by rw [ra 29 (by omega)]; exact f2) f4 f5 (by rw [ra 30 (by omega)]; exact f6) (fun j q => (f7 j q).2)
      have eq : q.bz = cz :: bz' := f1
      refine ⟨h', by rw [clT_9 Tg g37 hj1 g39 g15 hb2 g28 ce]; exact e1, aiL (uL L y (312, nJ z)) z Js, z, b1, R1, by show z ≤ j + 1; omega, fun i hi => (aiL_n (fun w => by have := f7 i w; omega)).trans (uL_n L _ (by omega)), ?_⟩
      rw [if_neg (show ¬ 1 = 2 by omega)]
      have ek : kCl X j 209 q = ODq.mk cz.1 bz' (zSq cz.2.1 (cz.2.2.1 (zIf cz.2.2.2 q.D zSk))) q.ch q.gi q.ix q.C q.lt q.B := by
        unfold kCl
        rw [eq]
        show (if 209 = 206 then _ else if 209 = 209 ∧ X.kd (j + 1) = 210 then _ else if 209 = 209 then _ else _) = _
        rw [if_neg (by omega), if_neg (fun w => ce w.2), if_pos rfl]
      rw [ek]
      refine ⟨R1, by show z ≤ j + 1; omega, ?_, f9⟩
      show BLk _ (mv_a h' 29) (mv_a h' 30) s bl bz' b1
      rw [a1, ra 29 (by omega), ra 30 (by omega)]
      exact f8
  · have c0 : k = 210 := by omega
    subst c0
    rw [if_neg (by omega)] at ec
    obtain rfl := Option.some.inj ec
    obtain ⟨cz, bz', b1, Js, f1, f2, f6, f7, f8, f9⟩ := BLk.c0 (k := (210, lk0)) (by omega) (by show ¬ 210 = 206 ∧ ¬ 210 = 209; omega) B S
    obtain ⟨h', e1, R1, i1, a1⟩ := c181_0 (Js := Js) Rg g15 (by omega) (by rw [ra 29 (by omega)]; exact f2) (by rw [ra 30 (by omega)]; exact f6) (fun j q => (f7 j q).2)
    have eq : q.bz = cz :: bz' := f1
    refine ⟨h', by rw [clT_0 g15 hb2 g28]; exact e1, aiL L z Js, z, b1, R1, by show z ≤ j + 1; omega, fun i hi => aiL_n (fun w => by have := f7 i w; omega), ?_⟩
    rw [if_neg (show ¬ 1 = 2 by omega)]
    have ek : kCl X j 210 q = ODq.mk cz.1 bz' (zSq cz.2.1 (cz.2.2.1 q.D)) q.ch q.gi q.ix q.C q.lt q.B := by
      unfold kCl
      rw [eq]
      show (if 210 = 206 then _ else if 210 = 209 ∧ X.kd (j + 1) = 210 then _ else if 210 = 209 then _ else _) = _
      rw [if_neg (by omega), if_neg (by omega), if_neg (by omega)]
    rw [ek]
    refine ⟨R1, by show z ≤ j + 1; omega, ?_, f9⟩
    show BLk _ (mv_a h' 29) (mv_a h' 30) s bl bz' b1
    rw [a1, ra 29 (by omega), ra 30 (by omega)]
    exact f8
end CLO
