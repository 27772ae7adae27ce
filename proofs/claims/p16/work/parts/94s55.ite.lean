/-! an item's turn -/
theorem vpB (z : Bool) : vp_nar .boolean (b01 z) = b01 z := by cases z <;> rfl
section ITE
variable {X : TX} {J P : Nat} {sy : List Nat → Nat} {h h' : mv_H} {c c' : CfA} {lkB lkB' : LK} {C C' : List Nat} {SC SC' : List (List Nat)} {fs : Nat → Nat} {hd : List DnE} {md : MDq} {q : ODq}
/-- a THING more -/
theorem th_E {g : mv_H} {i v w n j' : Nat} {z : Bool} (hpp : P = 32 ∨ P = 48) (S : SyQ X J sy h) (E : EKq X J P sy fs h c hd md q) (hm : c.md = 0) (hi : i ≤ J) (hk : X.kd i = 3) (sm : Sm h g) (Q : ThQ P g h' (sy (X.nm i)) c.o.s.tl.length (nI v) (nI w) (nI n) (b01 z)) (h0 : (c.o.s.lk (X.nm i)).1 = 0) (ht : c.o.s.tl.length < 64) (hc : c.o.s.cells + n ≤ 65536) (hj : c.j ≤ j') (g2 : mv_a h' (P + 7) = mv_a h (P + 7)) (g3 : mv_i h' P 8 = mv_i h P 8 ∧ mv_i h' P 9 = mv_i h P 9) (g5 : KC9 P h h') : EKq X J P sy fs h' (CfA.mk 0 j' 0 [] [] (OuA.mk c.o.gl c.o.gn c.o.gw c.o.bl c.o.lk c.o.le (SI.mk c.o.s.bits (updK c.o.s.lk (X.nm i) (v, w)) (c.o.s.tl ++ [(w, n, z)]) (c.o.s.cells + n) c.o.s.fe c.o.s.ops))) [] [] (ODq.mk q.lz q.bz q.D q.ch q.gi q.ix q.C (updZ q.lt (X.nm i) c.o.s.tl.length) q.B) := by
  obtain ⟨E1, E2, E3, L, s, y, E4, E5, E6⟩ := E
  rw [if_pos hm] at E6
  obtain ⟨E7, E8, E9⟩ := E6
  have el : (c.o.s.tl ++ [(w, n, z)]).length = c.o.s.tl.length + 1 := by rw [List.length_append]; rfl
  have q1 := E1.2.1
  have i6 : mv_i g P 6 = nI (fsL c.o.s.tl c.o.s.tl.length) := (sm.i P 6 (by omega) (by omega)).trans E1.1
  have en : (if nI n = 0 then (1 : Int32) else nI n) = nI (ncT (w, n, z)) := by
    show _ = nI (if n = 0 then 1 else n)
    by_cases y : n = 0
    · rw [if_pos y, if_pos (by rw [y]; rfl)]; rfl
    · rw [if_neg y, if_neg (show ¬ nI n = (0 : Int32) from fun x => y ((nIinj (b := 0) (by omega) (by omega)).mp x))]
  have nc : ncT (w, n, z) ≤ n + 1 := by
    show (if n = 0 then 1 else n) ≤ n + 1
    split <;> omega
  have inj : ∀ i', i' ≤ J → X.kd i' = 3 → sy (X.nm i') = sy (X.nm i) → X.nm i' = X.nm i := fun i' a b e => S.inj i' i a hi b hk e
  refine ⟨⟨?_, ?_, fun t ht' => ?_⟩, ?_, ⟨fun x => ?_, fun i' a b ne => ?_⟩, L, s, y, E4.kc g5, E5.up (fun o _ => congrFun g2 o) (Nat.le_refl _) (fun _ _ => rfl), ?_⟩
  · show mv_i h' P 6 = nI (fsL (c.o.s.tl ++ [(w, n, z)]) (c.o.s.tl ++ [(w, n, z)]).length)
    rw [el, fsL_s, Q.i6, i6, en]
    exact Int32.toInt_inj.mp (by rw [i32_add (by rw [nIi (by omega), nIi (by omega)]; omega) (by rw [nIi (by omega), nIi (by omega)]; omega), nIi (by omega), nIi (by omega), nIi (by omega)]; omega)
  · show fsL (c.o.s.tl ++ [(w, n, z)]) (c.o.s.tl ++ [(w, n, z)]).length ≤ c.o.s.cells + n + (c.o.s.tl ++ [(w, n, z)]).length
    rw [el, fsL_s]; omega
  · have ht' : t < (c.o.s.tl ++ [(w, n, z)]).length := ht'
    rw [el] at ht'
    show mv_a h' (P + 3) t = nI (fsL (c.o.s.tl ++ [(w, n, z)]) t) ∧ mv_a h' (P + 4) t = b01 ((c.o.s.tl ++ [(w, n, z)]).getD t (0, 0, false)).2.2
    rw [Q.a3, Q.a4, fsL_a _ _ _ (by omega), sm.a]
    by_cases y : t = c.o.s.tl.length
    · have eg : (c.o.s.tl ++ [(w, n, z)]).getD t (0, 0, false) = (w, n, z) := by rw [y, List.getD_eq_getElem?_getD, List.getElem?_append_right (Nat.le_refl _), Nat.sub_self]; rfl
      rw [if_pos y, if_pos y, eg, i6, y]
      exact ⟨rfl, vpB z⟩
    · have hk2 : t < c.o.s.tl.length := by omega
      have eg : (c.o.s.tl ++ [(w, n, z)]).getD t (0, 0, false) = c.o.s.tl.getD t (0, 0, false) := by rw [List.getD_eq_getElem?_getD, List.getElem?_append_left hk2, ← List.getD_eq_getElem?_getD]
      rw [if_neg y, if_neg y, eg]
      exact E1.2.2 t hk2
  · show FEk P (SI.mk c.o.s.bits (updK c.o.s.lk (X.nm i) (v, w)) (c.o.s.tl ++ [(w, n, z)]) (c.o.s.cells + n) c.o.s.fe c.o.s.ops) (updZ q.lt (X.nm i) c.o.s.tl.length) h'
    revert E2
    unfold FEk
    show (match c.o.s.fe with | none => mv_i h P 8 < 0 | some p => (c.o.s.lk p.1).1 = 1 ∧ (c.o.s.lk p.2).1 = 2 ∧ mv_i h P 8 = nI (q.lt p.1) ∧ mv_i h P 9 = nI (q.lt p.2)) → (match c.o.s.fe with | none => mv_i h' P 8 < 0 | some p => (updK c.o.s.lk (X.nm i) (v, w) p.1).1 = 1 ∧ (updK c.o.s.lk (X.nm i) (v, w) p.2).1 = 2 ∧ mv_i h' P 8 = nI (updZ q.lt (X.nm i) c.o.s.tl.length p.1) ∧ mv_i h' P 9 = nI (updZ q.lt (X.nm i) c.o.s.tl.length p.2))
    rw [g3.1, g3.2]
    cases c.o.s.fe with
    | none => exact fun x => x
    | some p =>
      intro k
      have k : (c.o.s.lk p.1).1 = 1 ∧ (c.o.s.lk p.2).1 = 2 ∧ mv_i h P 8 = nI (q.lt p.1) ∧ mv_i h P 9 = nI (q.lt p.2) := k
      have n1 : ¬ p.1 = X.nm i := fun y => by rw [y, h0] at k; have := k.1; omega
      have n2 : ¬ p.2 = X.nm i := fun y => by rw [y, h0] at k; have := k.2.1; omega
      show (updK c.o.s.lk (X.nm i) (v, w) p.1).1 = 1 ∧ (updK c.o.s.lk (X.nm i) (v, w) p.2).1 = 2 ∧ mv_i h P 8 = nI (updZ q.lt (X.nm i) c.o.s.tl.length p.1) ∧ mv_i h P 9 = nI (updZ q.lt (X.nm i) c.o.s.tl.length p.2)
      unfold updK updZ
      rw [if_neg n1, if_neg n2, if_neg n1, if_neg n2]
      exact k
  · show updZ q.lt (X.nm i) c.o.s.tl.length x < 64
    unfold updZ
    split
    · exact ht
    · exact E3.1 x
  · show mv_a h' 15 (sy (X.nm i')) = nI (updZ q.lt (X.nm i) c.o.s.tl.length (X.nm i'))
    rw [Q.a15]
    unfold updZ
    by_cases y : X.nm i' = X.nm i
    · rw [if_pos (by rw [y]), if_pos y]
    · rw [if_neg (fun x => y (inj i' a b x)), if_neg y, sm.a]
      refine E3.2 i' a b ?_
      have ne : ¬ (updK c.o.s.lk (X.nm i) (v, w) (X.nm i')).1 = 0 := ne
      unfold updK at ne
      rw [if_neg y] at ne
      exact ne
  · rw [if_pos (show 0 = 0 from rfl)]
    exact ⟨E7, E8, by show y ≤ j'; omega⟩
theorem it_E (R : RW X J P sy h c lkB C SC) (hm : c.md = 0) (h1 : ¬ X.kd c.j = 1) (KE : KEx X J P sy h c C) (es : aSp X c = some c') (e : f_Weaver_item P h = some h') (hC' : ¬ c'.md = 0 → C' = X.nm (c.j + 2)) : KEx X J P sy h' c' C' := by
  intro r hr
  obtain ⟨hd, md, q, EK, E, -⟩ := KE r hr
  have hpp := R.pp
  have hJ := R.hJ
  have hjJ := R.jJ
  rcases EK.inv with ⟨w, -⟩ | ⟨c2, e2, EK'⟩
  · exact absurd w.2 h1
  obtain rfl : c2 = c' := Option.some.inj (e2.symm.trans es)
  obtain ⟨a1, a2, a3, a4, rn, a6⟩ := R.r0 hm
  have eA : aSp X c = aIt X c.j c.o := by unfold aSp; rw [hm]; rfl
  have es' : aIt X c.j c.o = some c2 := eA.symm.trans es
  have ek : kSp X c hd md q = ([], [], kIt X c.j c.o q) := by unfold kSp; rw [hm]; rfl
  rw [ek] at EK'
  have hkd := (R.tb.k c.j R.jJ).2
  have eI : aIt X c.j c.o = if X.kd c.j = 201 then (if X.kd (c.j + 1) = 3 ∧ X.kd (c.j + 2) = 58 ∧ X.kd (c.j + 3) = 4 ∧ X.kd (c.j + 4) = 59 ∧ 1 ≤ X.nu (c.j + 3) ∧ X.nu (c.j + 3) ≤ 64 then aNw X c.o (c.j + 1) 1 (X.nu (c.j + 3)) 0 false (c.j + 5) else none)
    else if X.kd c.j = 202 then (if X.kd (c.j + 1) = 3 ∧ X.kd (c.j + 2) = 58 ∧ X.kd (c.j + 3) = 4 ∧ X.kd (c.j + 4) = 91 ∧ X.kd (c.j + 5) = 4 ∧ X.kd (c.j + 6) = 93 ∧ (1 ≤ X.nu (c.j + 3) ∧ X.nu (c.j + 3) ≤ 64) ∧ 1 ≤ X.nu (c.j + 5) ∧ X.nu (c.j + 5) ≤ 65536 then
      (if X.kd (c.j + 7) = 203 then (if X.kd (c.j + 8) = 59 then aNw X c.o (c.j + 1) 2 (X.nu (c.j + 3)) (X.nu (c.j + 5)) true (c.j + 9) else none) else if X.kd (c.j + 7) = 59 then aNw X c.o (c.j + 1) 2 (X.nu (c.j + 3)) (X.nu (c.j + 5)) false (c.j + 8) else none) else none)
    else if X.kd c.j = 204 then (if X.kd (c.j + 1) = 3 ∧ X.kd (c.j + 2) = 205 ∧ X.kd (c.j + 3) = 3 ∧ X.kd (c.j + 4) = 59 ∧ (c.o.s.lk (X.nm (c.j + 1))).1 = 1 ∧ c.o.s.lk (X.nm (c.j + 3)) = (2, 8) ∧ c.o.s.fe = none then some (CfA.mk 0 (c.j + 5) 0 [] [] (OuA.mk c.o.gl c.o.gn c.o.gw c.o.bl c.o.lk c.o.le (SI.mk c.o.s.bits c.o.s.lk c.o.s.tl c.o.s.cells (some (X.nm (c.j + 1), X.nm (c.j + 3))) c.o.s.ops))) else none)
    else if X.kd c.j = 206 then (if X.kd (c.j + 1) = 3 ∧ X.kd (c.j + 2) = 5 ∧ X.kd (c.j + 3) = 123 ∧ ¬ X.nm (c.j + 1) ∈ c.o.s.ops.map Prod.fst ∧ c.o.s.ops.length < 512 ∧ (X.nm (c.j + 2)).length = c.o.s.bits then
      some (CfA.mk 1 (c.j + 4) 1 [] [] (OuA.mk c.o.gl c.o.gn c.o.gw [(206, lkO c.o.s.lk (X.nm (c.j + 2)))] (lkO c.o.s.lk (X.nm (c.j + 2))) 0 (SI.mk c.o.s.bits c.o.s.lk c.o.s.tl c.o.s.cells c.o.s.fe (c.o.s.ops ++ [(X.nm (c.j + 1), X.nm (c.j + 2))])))) else none)
    else none := rfl
  have eN : ∀ (i k w n : Nat) (z : Bool) (j' : Nat), aNw X c.o i k w n z j' = if (c.o.s.lk (X.nm i)).1 = 0 ∧ c.o.s.tl.length < 64 ∧ c.o.s.cells + n ≤ 65536 then some (CfA.mk 0 j' 0 [] [] (OuA.mk c.o.gl c.o.gn c.o.gw c.o.bl c.o.lk c.o.le (SI.mk c.o.s.bits (updK c.o.s.lk (X.nm i) (k, w)) (c.o.s.tl ++ [(w, n, z)]) (c.o.s.cells + n) c.o.s.fe c.o.s.ops))) else none := fun _ _ _ _ _ _ => rfl
  rw [eI] at es'
  unfold f_Weaver_item at e
  rw [R.pt.kd, xhb_s] at e
  by_cases k1 : X.kd c.j = 201
  · rw [if_pos k1] at es'
    by_cases cc : X.kd (c.j + 1) = 3 ∧ X.kd (c.j + 2) = 58 ∧ X.kd (c.j + 3) = 4 ∧ X.kd (c.j + 4) = 59 ∧ 1 ≤ X.nu (c.j + 3) ∧ X.nu (c.j + 3) ≤ 64
    rotate_left
    · rw [if_neg cc] at es'; cases es'
    rw [if_pos cc, eN] at es'
    by_cases cn : (c.o.s.lk (X.nm (c.j + 1))).1 = 0 ∧ c.o.s.tl.length < 64 ∧ c.o.s.cells + 0 ≤ 65536
    rotate_left
    · rw [if_neg cn] at es'; cases es'
    rw [if_pos cn] at es'
    obtain rfl := Option.some.inj es'
    have hj1 : c.j + 1 ≤ J := nxJ hJ hjJ (by omega) (by omega)
    obtain ⟨h9, e9, q9⟩ := reg_A R.wa k1 rn.t0 rn.t2 rn.c0 rn.c2
    rw [k1, if_neg (show ¬ (nI 201).toInt = 1 by decide), if_pos (show (nI 201).toInt = 201 from rfl), e9, xhv_s] at e
    obtain rfl := Option.some.inj e
    have ek2 : kIt X c.j c.o q = ODq.mk q.lz q.bz q.D q.ch q.gi q.ix q.C (updZ q.lt (X.nm (c.j + 1)) c.o.s.tl.length) q.B := by
      unfold kIt
      rw [if_neg (by omega), if_neg (by omega)]
    rw [ek2] at EK'
    refine ⟨[], [], _, EK', ?_, fun w => absurd rfl w⟩
    rcases q9 with ⟨-, -, g, T, n, Q⟩ | ⟨p, -⟩
    · obtain ⟨-, g2, g3, -, g5⟩ := fr_Weaver_register (b1 := False) (b2 := True) (b3 := True) (b4 := False) (b5 := True) hpp (fun w => w) (fun w => w) h h9 e9
      exact th_E (v := 1) (z := false) hpp R.rn.S E hm hj1 cc.1 T.sm Q cn.1 cn.2.1 cn.2.2 (by omega) (g2 trivial) (g3 trivial) (g5 trivial)
    · exact absurd ⟨cc, (R.k0 hm hj1 cc.1).1.mpr cn.1, cn.2⟩ p
  rw [if_neg k1] at es'
  by_cases k2 : X.kd c.j = 202
  · rw [if_pos k2] at es'
    by_cases cc : X.kd (c.j + 1) = 3 ∧ X.kd (c.j + 2) = 58 ∧ X.kd (c.j + 3) = 4 ∧ X.kd (c.j + 4) = 91 ∧ X.kd (c.j + 5) = 4 ∧ X.kd (c.j + 6) = 93 ∧ (1 ≤ X.nu (c.j + 3) ∧ X.nu (c.j + 3) ≤ 64) ∧ 1 ≤ X.nu (c.j + 5) ∧ X.nu (c.j + 5) ≤ 65536
    rotate_left
    · rw [if_neg cc] at es'; cases es'
    rw [if_pos cc] at es'
    have hj1 : c.j + 1 ≤ J := nxJ hJ hjJ (by omega) (by omega)
    obtain ⟨h9, e9, q9⟩ := fil_A R.wa k2 rn.t0 rn.t2 rn.c0 rn.c2
    rw [k2, if_neg (show ¬ (nI 202).toInt = 1 by decide), if_neg (show ¬ (nI 202).toInt = 201 by decide), if_pos (show (nI 202).toInt = 202 from rfl), e9, xhv_s] at e
    obtain rfl := Option.some.inj e
    have ek2 : kIt X c.j c.o q = ODq.mk q.lz q.bz q.D q.ch q.gi q.ix q.C (updZ q.lt (X.nm (c.j + 1)) c.o.s.tl.length) q.B := by
      unfold kIt
      rw [if_neg (by omega), if_neg (by omega)]
    rw [ek2] at EK'
    obtain ⟨-, g2, g3, -, g5⟩ := fr_Weaver_file (b1 := False) (b2 := True) (b3 := True) (b4 := False) (b5 := True) hpp (fun w => w) (fun w => w) h h9 e9
    by_cases y : X.kd (c.j + 7) = 203
    · rw [if_pos y] at es'
      by_cases x : X.kd (c.j + 8) = 59
      rotate_left
      · rw [if_neg x] at es'; cases es'
      rw [if_pos x, eN] at es'
      by_cases cn : (c.o.s.lk (X.nm (c.j + 1))).1 = 0 ∧ c.o.s.tl.length < 64 ∧ c.o.s.cells + X.nu (c.j + 5) ≤ 65536
      rotate_left
      · rw [if_neg cn] at es'; cases es'
      rw [if_pos cn] at es'
      obtain rfl := Option.some.inj es'
      refine ⟨[], [], _, EK', ?_, fun w => absurd rfl w⟩
      rcases q9 with ⟨-, -, -, g, T, n, Q⟩ | ⟨p, -⟩
      · rw [if_pos y] at Q
        exact th_E (v := 2) (z := true) hpp R.rn.S E hm hj1 cc.1 T.sm Q cn.1 cn.2.1 cn.2.2 (by omega) (g2 trivial) (g3 trivial) (g5 trivial)
      · exact absurd ⟨cc, by rw [if_pos y]; exact x, (R.k0 hm hj1 cc.1).1.mpr cn.1, cn.2⟩ p
    · rw [if_neg y] at es'
      by_cases x : X.kd (c.j + 7) = 59
      rotate_left
      · rw [if_neg x] at es'; cases es'
      rw [if_pos x, eN] at es'
      by_cases cn : (c.o.s.lk (X.nm (c.j + 1))).1 = 0 ∧ c.o.s.tl.length < 64 ∧ c.o.s.cells + X.nu (c.j + 5) ≤ 65536
      rotate_left
      · rw [if_neg cn] at es'; cases es'
      rw [if_pos cn] at es'
      obtain rfl := Option.some.inj es'
      refine ⟨[], [], _, EK', ?_, fun w => absurd rfl w⟩
      rcases q9 with ⟨-, -, -, g, T, n, Q⟩ | ⟨p, -⟩
      · rw [if_neg y] at Q
        exact th_E (v := 2) (z := false) hpp R.rn.S E hm hj1 cc.1 T.sm Q cn.1 cn.2.1 cn.2.2 (by omega) (g2 trivial) (g3 trivial) (g5 trivial)
      · exact absurd ⟨cc, by rw [if_neg y]; exact x, (R.k0 hm hj1 cc.1).1.mpr cn.1, cn.2⟩ p
  rw [if_neg k2] at es'
  by_cases k4 : X.kd c.j = 204
  · rw [if_pos k4] at es'
    by_cases cc : X.kd (c.j + 1) = 3 ∧ X.kd (c.j + 2) = 205 ∧ X.kd (c.j + 3) = 3 ∧ X.kd (c.j + 4) = 59 ∧ (c.o.s.lk (X.nm (c.j + 1))).1 = 1 ∧ c.o.s.lk (X.nm (c.j + 3)) = (2, 8) ∧ c.o.s.fe = none
    rotate_left
    · rw [if_neg cc] at es'; cases es'
    rw [if_pos cc] at es'
    obtain rfl := Option.some.inj es'
    have hj1 : c.j + 1 ≤ J := nxJ hJ hjJ (by omega) (by omega)
    have hj2 := nxJ hJ hj1 (by omega) (by omega)
    have hj3 := nxJ hJ (j := c.j + 2) hj2 (by omega) (by omega)
    obtain ⟨h9, e9, q9⟩ := fet_A R.wa k4
    rw [k4, if_neg (show ¬ (nI 204).toInt = 1 by decide), if_neg (show ¬ (nI 204).toInt = 201 by decide), if_neg (show ¬ (nI 204).toInt = 202 by decide), if_pos (show (nI 204).toInt = 204 from rfl), e9, xhv_s] at e
    obtain rfl := Option.some.inj e
    have ek2 : kIt X c.j c.o q = q := by
      unfold kIt
      rw [if_neg (by omega), if_pos k4]
    rw [ek2] at EK'
    obtain ⟨g1, g2, -, g4, g5⟩ := fr_Weaver_fetch (b1 := True) (b2 := True) (b3 := False) (b4 := True) (b5 := True) hpp (fun w => w) h h9 e9
    have g1 := g1 trivial
    refine ⟨[], [], q, EK', ?_, fun w => absurd rfl w⟩
    obtain ⟨E1, E2, E3, L, s, y, E4, E5, E6⟩ := E
    rw [if_pos hm] at E6
    obtain ⟨E7, E8, E9⟩ := E6
    refine ⟨E1.gf g1.1 g1.2.1 g1.2.2, ?_, E3.fr (g4 trivial), L, s, y, E4.kc (g5 trivial), E5.up (fun o _ => congrFun (g2 trivial) o) (Nat.le_refl _) (fun _ _ => rfl), ?_⟩
    · have l1 := E3.2 (c.j + 1) hj1 cc.1 (by omega)
      have l3 := E3.2 (c.j + 3) hj3 cc.2.2.1 (by rw [cc.2.2.2.2.2.1]; show ¬ 2 = 0; omega)
      rcases q9 with ⟨-, -, -, g, x, u, T, n, hu, eh, ex, eu⟩ | ⟨p, F⟩
      · refine ⟨cc.2.2.2.2.1, by show (c.o.s.lk (X.nm (c.j + 3))).1 = 2; rw [cc.2.2.2.2.2.1], ?_, ?_⟩
        · rw [eh]
          show mv_u (mv_u (mv_i g) P 8 x) P 9 (nI u) P 8 = nI (q.lt (X.nm (c.j + 1)))
          rw [mv_u_ne _ _ (by omega), mv_u_same, ex]
          exact l1
        · rw [eh]
          show mv_u (mv_u (mv_i g) P 8 x) P 9 (nI u) P 9 = nI (q.lt (X.nm (c.j + 3)))
          rw [mv_u_same, ← eu]
          exact l3
      · refine absurd ⟨⟨cc.1, cc.2.1, cc.2.2.1, cc.2.2.2.1⟩, rn.fe.mpr cc.2.2.2.2.2.2, (R.k0 hm hj1 cc.1).2.1.mpr cc.2.2.2.2.1, (R.k0 hm hj3 cc.2.2.1).2.2.mpr (by rw [cc.2.2.2.2.2.1]), ?_⟩ p
        have kf := rn.kof hj3 cc.2.2.1
        rw [lkO_n, a6, cc.2.2.2.2.2.1] at kf
        rcases kf with ⟨-, kf⟩ | ⟨v, u, w, hv, -, kf2, kf3, kf4, kf5, -⟩ | ⟨-, kf⟩
        · exact absurd kf (by show ¬ 2 = 0; omega)
        · have t2 := rn.t2
          have ew : 8 = w := congrArg Prod.snd kf5
          rw [kf2, cln (by omega), kf4, ← ew]; rfl
        · exact absurd kf (by show ¬ 2 = 3; omega)
    · rw [if_pos (show 0 = 0 from rfl)]
      exact ⟨E7, E8, by show y ≤ c.j + 5; omega⟩
  rw [if_neg k4] at es'
  by_cases k6 : X.kd c.j = 206
  rotate_left
  · rw [if_neg k6] at es'; cases es'
  rw [if_pos k6] at es'
  by_cases cc : X.kd (c.j + 1) = 3 ∧ X.kd (c.j + 2) = 5 ∧ X.kd (c.j + 3) = 123 ∧ ¬ X.nm (c.j + 1) ∈ c.o.s.ops.map Prod.fst ∧ c.o.s.ops.length < 512 ∧ (X.nm (c.j + 2)).length = c.o.s.bits
  rotate_left
  · rw [if_neg cc] at es'; cases es'
  rw [if_pos cc] at es'
  obtain rfl := Option.some.inj es'
  have hj1 : c.j + 1 ≤ J := nxJ hJ hjJ (by omega) (by omega)
  obtain ⟨h9, e9, q9⟩ := op_A R.wa k6 rn.o0 rn.o2 (b := 0) (by rw [rn.k0]; rfl) (by omega) rn.b0 rn.b2
  rw [k6, if_neg (show ¬ (nI 206).toInt = 1 by decide), if_neg (show ¬ (nI 206).toInt = 201 by decide), if_neg (show ¬ (nI 206).toInt = 202 by decide), if_neg (show ¬ (nI 206).toInt = 204 by decide), if_pos (show (nI 206).toInt = 206 from rfl), e9, xhv_s] at e
  obtain rfl := Option.some.inj e
  have ek2 : kIt X c.j c.o q = ODq.mk (lzO q.lt (X.nm (c.j + 2))) [(lzO q.lt (X.nm (c.j + 2)), zSk, (fun e => e), dN)] zSk q.ch q.gi q.ix (X.nm (c.j + 2)) q.lt q.B := by
    unfold kIt
    rw [if_pos k6]
  rw [ek2] at EK'
  obtain ⟨g1, -, g3, g4, g5⟩ := fr_Weaver_op (b1 := True) (b2 := False) (b3 := True) (b4 := True) (b5 := True) hpp (fun w => w) h h9 e9
  have g1 := g1 trivial
  have g3 := g3 trivial
  have g4 := g4 trivial
  have g5 := g5 trivial
  obtain ⟨E1, E2, E3, L, s, y, E4, E5, E6⟩ := E
  rw [if_pos hm] at E6
  obtain ⟨E7, E8, E9⟩ := E6
  subst E8
  have E3' := E3.fr g4
  have r7 : ∀ k, mv_a h9 (P + 7) k = if k = q.B.length then nI s else mv_a h (P + 7) k := fun k => by
    rcases q9 with ⟨q1, q2, g1, g2, T, n, Q, e1, e2, e3, e4, e5⟩ | ⟨p, -⟩
    · rw [e2 (P + 7) (by omega) (by omega), Q.a7, E7]
      have i17 : mv_i (OBk g1 0 206 (-1) (-1)) P 17 = nI s := by
        have : mv_i (OBk g1 0 206 (-1) (-1)) P 17 = mv_i g1 P 17 := by
          unfold OBk
          simp only [rw_ii, rw_aa, rw_bb, rw_ia, rw_ib, rw_ai, rw_ab, rw_bi, rw_ba]
          rw [if_neg (by omega), if_neg (by omega)]
        rw [this, T.sm.i P 17 (by omega) (by omega)]
        exact E4.1
      have a17 : mv_a (OBk g1 0 206 (-1) (-1)) (P + 7) k = mv_a h (P + 7) k := by
        have : mv_a (OBk g1 0 206 (-1) (-1)) (P + 7) k = mv_a g1 (P + 7) k := by
          unfold OBk
          simp only [rw_ii, rw_aa, rw_bb, rw_ia, rw_ib, rw_ai, rw_ab, rw_bi, rw_ba]
          rw [if_neg (by omega), if_neg (by omega), if_neg (by omega), if_neg (by omega)]
        rw [this, T.sm.a]
      rw [i17, a17]
    · refine absurd ⟨⟨cc.1, cc.2.1, cc.2.2.1, by rw [a4]; omega⟩, ?_, cc.2.2.2.2⟩ p
      rw [rn.on (c.j + 1) hj1 cc.1, if_neg cc.2.2.2.1]; decide
  refine ⟨[], [], _, EK', ?_, fun w => by rw [hC' w]⟩
  refine ⟨E1.gf g1.1 g1.2.1 g1.2.2, E2.gf g3.1 g3.2, E3', L, s, s, E4.kc g5, E5.up (fun o ho => by rw [r7, if_neg (by omega)]) (Nat.le_refl _) (fun _ _ => rfl), ?_⟩
  rw [if_neg (show ¬ 1 = 0 by omega)]
  have kno : ∀ x, ¬ (c.o.s.lk x).1 = 0 → ¬ (lkO c.o.s.lk (X.nm (c.j + 2)) x).1 = 0 := fun x hx => by
    rcases lkO_p (X.nm (c.j + 2)) x with ⟨n, e⟩ | e
    · rw [e]; show ¬ 3 = 0; omega
    · rw [e]; exact hx
  refine ⟨?_, ?_, ?_, ?_⟩
  · show (c.o.s.ops ++ [(X.nm (c.j + 1), X.nm (c.j + 2))]).length = q.B.length + 1
    rw [List.length_append, E7]; rfl
  · show mv_a h9 (P + 7) q.B.length = nI s
    rw [r7, if_pos rfl]
  · have zn := ZN.op E3' (X.nm (c.j + 2))
    exact ⟨_, [], ⟨rfl, Or.inl rfl⟩, zn, fun _ w => w, rfl, zn, kno⟩
  · rw [if_pos (show 1 = 1 from rfl)]
    exact ⟨s, E4.kc g5, by show s ≤ c.j + 4; omega, BLk.op L _ _ s _ rfl _, SgS.sk⟩
end ITE
