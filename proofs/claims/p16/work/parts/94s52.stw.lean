/-! what a name is worth to the class -/
theorem lzO_n {lz : LZ} {C x : List Nat} (hx : nLt C x) : lzO lz C x = lz x := by
  cases x with
  | nil => rfl
  | cons a l =>
    cases l with
    | nil =>
      show (if isl a = true ∧ 0 < cntL a C then 64 + a else lz [a]) = lz [a]
      rw [if_neg (fun w => hx ⟨a, rfl, w.1, w.2⟩)]
    | cons b l => rfl
theorem nlt_of {h : mv_H} {C x : List Nat} (L : LTr h C) (hC : C.length ≤ 64) (hx : mv_a h 17 (ltr x) ≤ 0) : nLt C x := by
  rintro ⟨c, rfl, hc, hn⟩
  have el : ltr [c] = c := by
    show (if isl c = true then c else 0) = c
    rw [if_pos hc]
  have hb := isl_b hc
  obtain ⟨l1, -⟩ := L c (by omega)
  rw [el, l1, ltC hc C] at hx
  have hl : cntL c C ≤ C.length := List.countP_le_length
  have := (nIle (b := 0) (by omega) (by omega)).mp hx
  omega
theorem mskE {C : List Nat} {c : Nat} (hc : isl c = true) : mkN (lF (fun i => C.getD i 0) c) C.length = mskC C c := by
  unfold mskC
  refine congrArg (fun f => mkN f C.length) (funext fun k => ?_)
  unfold lF
  rw [show Nat.ble 65 c = true from Nat.ble_eq_true_of_le (by have := isl_b hc; omega)]
  show (true && Nat.beq (C.getD k 0) c) = decide (C.getD k 0 = c)
  rw [Bool.true_and]
  by_cases q : C.getD k 0 = c
  · rw [decide_eq_true q, q]; exact Nat.beq_refl c
  · rw [decide_eq_false q]; exact nbq q
theorem nvk_K {X : TX} {J P : Nat} {sy : List Nat → Nat} {h : mv_H} {s : SI} {bl : List (Nat × LK)} {lkB : LK} {C : List Nat} {SC : List (List Nat)} {le : Nat} (R : RN X J P sy h s bl lkB C SC le) {lk : LK} {lz : LZ} (el : ∀ x, lk x = lkO lkB C x) (Z : ZN X J sy h C lk lz) (TB9 : TBk P s h) {tl m : List (Nat × Nat × Bool)} (ht : tl = s.tl ++ m) {i : Nat} (hi : i ≤ J) (hk : X.kd i = 3) : NVk X P (fsL tl) h lk lz C i := by
  obtain ⟨b1, b2, b3⟩ := R.S.t i hi hk
  obtain ⟨lzB, z1, z2, z3⟩ := Z
  have t2 := R.t2
  have c2 := R.c2
  have l2 := R.l2
  refine ⟨sy (X.nm i), ltr (X.nm i), b1, b2, ltr_b _, b3, ?_⟩
  rcases lkO_c lkB C (X.nm i) h R.lt R.cl with ⟨c, ex, hc, el', n1, n2, e, n, m9⟩ | ⟨e, n⟩
  · refine Or.inl ⟨n, cntL c C, c, ?_, n1, by omega, fun g => ?_, ?_, ?_⟩
    · rw [el]; exact e
    · have hp : 2 ^ C.length ≤ 2 ^ 64 := Nat.pow_le_pow_right (by omega) R.cl
      have := mkN_b (lF (fun i => C.getD i 0) c) C.length
      rw [m9, bc_n g (by omega), pcK_m _ _ 64 R.cl, ltC hc C]
    · rw [z1, ex]
      show (if isl c = true ∧ 0 < cntL c C then 64 + c else lzB [c]) = 64 + c
      rw [if_pos ⟨hc, n1⟩]
    · rw [m9, mskE hc]
  · have hn : nLt C (X.nm i) := nlt_of R.lt R.cl n
    have ez : lz (X.nm i) = lzB (X.nm i) := by rw [z1]; exact lzO_n hn
    have hz := z2 (X.nm i)
    have z4 := z3 i hi hk hn
    rw [el, e] at z4
    refine Or.inr ⟨n, by rw [ez]; exact hz, ?_⟩
    rw [el, e, ez]
    rcases R.kn i hi hk with K | ⟨v, u, w, k1, k2, k3, k4, k5, k6, k7, k8⟩ | ⟨u, w, k2, k3, k4, k5, k6, k7, k8⟩
    · exact Or.inl K
    · have z5 := z4 (by rw [k6]; show ¬ v = 0; omega)
      have eu : u = lzB (X.nm i) := (nIinj (by omega) (by omega)).mp (k3.symm.trans z5)
      rw [← eu]
      obtain ⟨q1, -⟩ := TB9.2.2 u k4
      have q2 := TB9.2.1
      have q3 := fsL_le s.tl u
      have ef : fsL tl u = fsL s.tl u := by rw [ht]; exact fsL_a m s.tl u (by omega)
      refine Or.inr (Or.inl ⟨v, w, k1, k2, k3, k5, k6, k7, by omega, by rw [ef]; exact q1, by rw [ef]; omega, ?_⟩)
      have e2 := fsL_n tl u (by rw [ht, List.length_append]; omega)
      have e3 : 0 < ncT (tl.getD u (0, 0, false)) := by unfold ncT; split <;> omega
      omega
    · have z5 := z4 (by rw [k6]; show ¬ 3 = 0; omega)
      have eu : u = lzB (X.nm i) := (nIinj (by omega) (by omega)).mp (k3.symm.trans z5)
      rw [← eu]
      exact Or.inr (Or.inr ⟨w, k2, k3, k5, k6, k7, by omega⟩)
/-! a statement -/
/-- behind a statement: an op is over, or the next statement, or an EXPR is due -/
def SNq (X : TX) (P : Nat) (fs : Nat → Nat) (h' : mv_H) (c' : CfA) (q q' : ODq) (L : CDq) (s : Nat) : Prop :=
  if c'.md = 0 then ∃ L' z', CRw P fs h' L' (z' + 1) ∧ z' + 1 ≤ c'.j ∧ (∀ i, i < s → L' i = L i) ∧ s ≤ z' ∧ SgS L' s z' q.D ∧ L' z' = (317, 0)
  else FKq X P fs h' c' q' L s
section STW
variable {X : TX} {J P : Nat} {sy : List Nat → Nat} {fs : Nat → Nat} {h : mv_H} {c : CfA} {lkB : LK} {C : List Nat} {SC : List (List Nat)}
theorem st_3 {h' : mv_H} (R : RW X J P sy h c lkB C SC) (hk : X.kd c.j = 3) (e : f_Weaver_beginAssignment h = some h') : f_Weaver_statement P h = some h' := by
  unfold f_Weaver_statement
  rw [R.pt.kd, xhb_s, hk, if_pos (show (nI 3).toInt = 3 from rfl), e, xhv_s]
theorem st_125 {h' : mv_H} (R : RW X J P sy h c lkB C SC) (hk : X.kd c.j = 125) (e : f_Weaver_closeBlock P h = some h') : f_Weaver_statement P h = some h' := by
  unfold f_Weaver_statement
  rw [R.pt.kd, xhb_s, hk, if_neg (show ¬ (nI 125).toInt = 3 by decide), if_pos (show (nI 125).toInt = 125 from rfl), e, xhv_s]
theorem st_207 {h' : mv_H} (R : RW X J P sy h c lkB C SC) (hk : X.kd c.j = 207) (e : f_Weaver_beginLet h = some h') : f_Weaver_statement P h = some h' := by
  unfold f_Weaver_statement
  rw [R.pt.kd, xhb_s, hk, if_neg (show ¬ (nI 207).toInt = 3 by decide), if_neg (show ¬ (nI 207).toInt = 125 by decide), if_pos (show (nI 207).toInt = 207 from rfl), e, xhv_s]
variable {L : CDq} {s b z : Nat} {q : ODq} {c' : CfA}
theorem st_K (R : RW X J P sy h c lkB C SC) (hm : c.md = 1) (K : KSq X P fs h c.j c.o q L s b z) (hkd : ∀ b bl, c.o.bl = b :: bl → b.1 = 206 ∨ b.1 = 209 ∨ b.1 = 210) (es : aSt X c.j c.d c.o = some c') : ∃ h', f_Weaver_statement P h = some h' ∧ SNq X P fs h' c' q (kSt X c.j c.o q) L s ∧ (X.kd c.j = 3 → mv_i h' 2 9 = mv_a h 15 (sy (X.nm c.j))) := by
  obtain ⟨r, de, elk, hb⟩ := R.r1 hm
  have hpp := R.pp
  have hJ := R.hJ
  have hd2 := R.d2
  have K0 := K
  obtain ⟨K1, K2, K3, K4⟩ := K
  have l1 := K3.le
  have l2 := K4.1
  have hjb := R.tb.jb
  have hjJ := R.jJ
  have eA : aSt X c.j c.d c.o = if X.kd c.j = 207 then (if X.kd (c.j + 1) = 3 ∧ X.kd (c.j + 2) = 61 ∧ (c.o.lk (X.nm (c.j + 1))).1 = 0 ∧ c.o.le < 64 then some (CfA.mk 2 (c.j + 3) c.d [] [] (OuA.mk 0 (X.nm (c.j + 1)) c.o.gw c.o.bl c.o.lk c.o.le c.o.s)) else none)
    else if X.kd c.j = 3 then
      (if X.kd (c.j + 1) = 91 then (if (c.o.lk (X.nm c.j)).1 = 2 ∧ c.d < 60 then some (CfA.mk 2 (c.j + 2) (c.d + 1) [] [] (OuA.mk 1 c.o.gn (c.o.lk (X.nm c.j)).2 c.o.bl c.o.lk c.o.le c.o.s)) else none)
       else if (c.o.lk (X.nm c.j)).1 = 1 ∧ X.kd (c.j + 1) = 61 then some (CfA.mk 2 (c.j + 2) c.d [] [] (OuA.mk 2 c.o.gn (c.o.lk (X.nm c.j)).2 c.o.bl c.o.lk c.o.le c.o.s)) else none)
    else if X.kd c.j = 208 then (if X.kd (c.j + 1) = 4 ∧ X.kd (c.j + 2) = 59 ∧ 1 ≤ X.nu (c.j + 1) ∧ X.nu (c.j + 1) ≤ 1000000 then some (CfA.mk 1 (c.j + 3) c.d [] [] c.o) else none)
    else if X.kd c.j = 209 then some (CfA.mk 2 (c.j + 1) c.d [] [] (OuA.mk 4 c.o.gn c.o.gw c.o.bl c.o.lk c.o.le c.o.s))
    else if X.kd c.j = 125 then (match c.o.bl with
      | [] => none
      | (k, lk0) :: bl => if k = 206 then some (CfA.mk 0 (c.j + 1) (c.d - 1) [] [] (OuA.mk c.o.gl c.o.gn c.o.gw bl lk0 c.o.le c.o.s))
        else if k = 209 ∧ X.kd (c.j + 1) = 210 then
          (if X.kd (c.j + 2) = 209 then some (CfA.mk 2 (c.j + 3) (c.d - 1) [] [] (OuA.mk 4 c.o.gn c.o.gw bl lk0 c.o.le c.o.s))
           else if X.kd (c.j + 2) = 123 then some (CfA.mk 1 (c.j + 3) c.d [] [] (OuA.mk c.o.gl c.o.gn c.o.gw ((210, lk0) :: bl) lk0 c.o.le c.o.s)) else none)
        else some (CfA.mk 1 (c.j + 1) (c.d - 1) [] [] (OuA.mk c.o.gl c.o.gn c.o.gw bl lk0 c.o.le c.o.s)))
    else none := rfl
  rw [eA] at es
  clear eA
  by_cases c7 : X.kd c.j = 207
  · rw [if_pos c7] at es
    by_cases cc : X.kd (c.j + 1) = 3 ∧ X.kd (c.j + 2) = 61 ∧ (c.o.lk (X.nm (c.j + 1))).1 = 0 ∧ c.o.le < 64
    rotate_left
    · rw [if_neg cc] at es; cases es
    rw [if_pos cc] at es
    obtain rfl := Option.some.inj es
    have hj1 : c.j + 1 ≤ J := nxJ hJ hjJ (by omega) (by omega)
    have k0 : kOf h sy (X.nm (c.j + 1)) = 0 := by
      rcases R.k1 (by omega) hj1 cc.1 with ⟨k1, -⟩ | ⟨v, u, w, hv, -, -, -, -, k2, -⟩ | ⟨-, k2⟩
      · exact k1
      · rw [k2] at cc; exact absurd cc.2.2.1 (by show ¬ v = 0; omega)
      · omega
    obtain ⟨h', e, kc, a, i10⟩ := leb_K R.wa c7 r.l0 cc.2.2.2 cc.1 cc.2.1 k0
    refine ⟨h', st_207 R c7 e, ?_, fun w => by omega⟩
    unfold SNq
    rw [if_neg (show ¬ 2 = 0 by omega)]
    have ek : kSt X c.j c.o q = q := by
      unfold kSt
      rw [if_neg (by omega), if_neg (by omega), if_neg (by omega), if_neg (by omega)]
    rw [ek]
    refine ⟨L, z, b, K1.kc kc, by show z ≤ c.j + 3; omega, fun _ _ => rfl, ?_⟩
    rw [if_pos (show 2 = 2 from rfl)]
    refine ⟨?_, ?_⟩
    · rw [a]; exact K3
    · unfold GLk
      rw [if_neg (show ¬ 0 = 4 by omega), if_neg (show ¬ 0 = 3 by omega)]
      exact K4
  rw [if_neg c7] at es
  by_cases c3 : X.kd c.j = 3
  · rw [if_pos c3] at es
    have kk : ∀ v, (v = 1 ∨ v = 2) → (c.o.lk (X.nm c.j)).1 = v → kOf h sy (X.nm c.j) = nI v := fun v hv hq => by
      rcases R.k1 (by omega) hjJ c3 with ⟨-, k2⟩ | ⟨v', u, w, hv', k1, -, -, -, k2, -⟩ | ⟨-, k2⟩
      · omega
      · rw [k2] at hq
        have hq : v' = v := hq
        rw [k1, hq]
      · omega
    have ek : kSt X c.j c.o q = ODq.mk q.lz q.bz q.D q.ch (q.lz (X.nm c.j)) q.ix q.C q.lt q.B := by
      unfold kSt
      rw [if_pos c3]
    obtain ⟨h9, e9, q9⟩ := asg_A R.wa c3
    by_cases c91 : X.kd (c.j + 1) = 91
    · rw [if_pos c91] at es
      by_cases cc : (c.o.lk (X.nm c.j)).1 = 2 ∧ c.d < 60
      rotate_left
      · rw [if_neg cc] at es; cases es
      rw [if_pos cc] at es
      obtain rfl := Option.some.inj es
      have ko := kk 2 (Or.inr rfl) cc.1
      obtain ⟨h', e, kc, a, i10⟩ := asb_K R.wa c3 (Or.inl ⟨c91, ko, cc.2⟩)
      have t9 : mv_i h' 2 9 = mv_a h 15 (sy (X.nm c.j)) := by
        have eh : h9 = h' := Option.some.inj (e9.symm.trans e)
        rcases q9 with ⟨-, -, -, -, t⟩ | ⟨p, -⟩ | ⟨p, -⟩
        · rw [← eh]; exact t
        · exact absurd c91 p
        · exact absurd ⟨ko, cc.2⟩ (p c91)
      refine ⟨h', st_3 R c3 e, ?_, fun _ => t9⟩
      unfold SNq
      rw [if_neg (show ¬ 2 = 0 by omega), ek]
      refine ⟨L, z, b, K1.kc kc, by show z ≤ c.j + 2; omega, fun _ _ => rfl, ?_⟩
      rw [if_pos (show 2 = 2 from rfl)]
      refine ⟨?_, ?_⟩
      · rw [a]; exact K3
      · unfold GLk
        rw [if_neg (show ¬ 1 = 4 by omega), if_neg (show ¬ 1 = 3 by omega)]
        exact K4
    · rw [if_neg c91] at es
      by_cases cc : (c.o.lk (X.nm c.j)).1 = 1 ∧ X.kd (c.j + 1) = 61
      rotate_left
      · rw [if_neg cc] at es; cases es
      rw [if_pos cc] at es
      obtain rfl := Option.some.inj es
      have ko := kk 1 (Or.inl rfl) cc.1
      obtain ⟨h', e, kc, a, i10⟩ := asb_K R.wa c3 (Or.inr ⟨cc.2, ko⟩)
      have t9 : mv_i h' 2 9 = mv_a h 15 (sy (X.nm c.j)) := by
        have eh : h9 = h' := Option.some.inj (e9.symm.trans e)
        rcases q9 with ⟨p, -⟩ | ⟨-, -, -, -, -, t⟩ | ⟨-, p, -⟩
        · exact absurd p c91
        · rw [← eh]; exact t
        · exact absurd ⟨ko, cc.2⟩ (p c91)
      refine ⟨h', st_3 R c3 e, ?_, fun _ => t9⟩
      unfold SNq
      rw [if_neg (show ¬ 2 = 0 by omega), ek]
      refine ⟨L, z, b, K1.kc kc, by show z ≤ c.j + 2; omega, fun _ _ => rfl, ?_⟩
      rw [if_pos (show 2 = 2 from rfl)]
      refine ⟨?_, ?_⟩
      · rw [a]; exact K3
      · unfold GLk
        rw [if_neg (show ¬ 2 = 4 by omega), if_neg (show ¬ 2 = 3 by omega)]
        exact K4
  rw [if_neg c3] at es
  by_cases c8 : X.kd c.j = 208
  · rw [if_pos c8] at es
    by_cases cc : X.kd (c.j + 1) = 4 ∧ X.kd (c.j + 2) = 59 ∧ 1 ≤ X.nu (c.j + 1) ∧ X.nu (c.j + 1) ≤ 1000000
    rotate_left
    · rw [if_neg cc] at es; cases es
    rw [if_pos cc] at es
    obtain rfl := Option.some.inj es
    have hj1 : c.j + 1 ≤ J := nxJ hJ hjJ (by omega) (by omega)
    have hj2 : c.j + 2 ≤ J := nxJ hJ hj1 (by omega) (by omega)
    obtain ⟨h', e, K', i10⟩ := stm_tp hpp K0 R.tb R.at' hj2 (by rw [R.ok]; decide) c8 cc.1 cc.2.1 cc.2.2.1 cc.2.2.2
    refine ⟨h', e, ?_, fun w => by omega⟩
    unfold SNq
    rw [if_neg (show ¬ 1 = 0 by omega)]
    have ek : kSt X c.j c.o q = ODq.mk q.lz q.bz (zSq q.D (zTp (X.nu (c.j + 1)))) q.ch q.gi q.ix q.C q.lt q.B := by
      unfold kSt
      rw [if_neg c3, if_pos c8]
    rw [ek]
    refine ⟨_, z + 1, b, K'.1, K'.2.1, fun i hi => uL_n L _ (by omega), ?_⟩
    rw [if_neg (show ¬ 1 = 2 by omega)]
    exact K'
  rw [if_neg c8] at es
  by_cases c9 : X.kd c.j = 209
  · rw [if_pos c9] at es
    obtain rfl := Option.some.inj es
    obtain ⟨h', e, K', G'⟩ := stm_if (o2 := OuA.mk 4 c.o.gn c.o.gw c.o.bl c.o.lk c.o.le c.o.s) hpp K0 R.tb R.at' hjJ (by rw [R.ok]; decide) c9 ⟨rfl, rfl⟩
    refine ⟨h', e, ?_, fun w => by omega⟩
    unfold SNq
    rw [if_neg (show ¬ 2 = 0 by omega)]
    have ek : kSt X c.j c.o q = ODq.mk q.lz q.bz q.D (fun e => e) q.gi q.ix q.C q.lt q.B := by
      unfold kSt
      rw [if_neg c3, if_neg c8, if_pos c9]
    rw [ek]
    refine ⟨L, z, b, K', by show z ≤ c.j + 1; omega, fun _ _ => rfl, ?_⟩
    rw [if_pos (show 2 = 2 from rfl)]
    exact G'
  rw [if_neg c9] at es
  by_cases c5 : X.kd c.j = 125
  rotate_left
  · rw [if_neg c5] at es; cases es
  rw [if_pos c5] at es
  obtain ⟨bl0, eb0⟩ : ∃ bl0, bl0 = c.o.bl := ⟨_, rfl⟩
  have r9 := r
  rw [← eb0] at es r9 hkd hb
  cases bl0 with
  | nil => exact absurd rfl hb
  | cons b0 bl =>
  obtain ⟨k, lk0⟩ := b0
  have hk3 : k = 206 ∨ k = 209 ∨ k = 210 := hkd (k, lk0) bl rfl
  have de : c.d = bl.length + 1 := by rw [de, ← eb0]; rfl
  obtain ⟨S1, S0, lkB0, k1, k2, k3, k4, k5, k6, k7, -⟩ := r9.cls hpp
  have k2 : mv_a h 28 bl.length = nI k := k2
  have hlen : S0.length ≤ SC.length := by rw [k1, List.length_append]; omega
  have hs2 := r.s2
  have hl2 := r.l2
  have hb15 : mv_i h 2 15 = nI (bl.length + 1) := r9.k0
  have ek0 : kSt X c.j c.o q = kCl X c.j k q := by
    unfold kSt
    rw [if_neg c3, if_neg c8, if_neg c9, if_pos c5, ← eb0]
    rfl
  by_cases c6 : k = 206
  · have es : (if k = 206 then some (CfA.mk 0 (c.j + 1) (c.d - 1) [] [] (OuA.mk c.o.gl c.o.gn c.o.gw bl lk0 c.o.le c.o.s))
        else if k = 209 ∧ X.kd (c.j + 1) = 210 then
          (if X.kd (c.j + 2) = 209 then some (CfA.mk 2 (c.j + 3) (c.d - 1) [] [] (OuA.mk 4 c.o.gn c.o.gw bl lk0 c.o.le c.o.s))
           else if X.kd (c.j + 2) = 123 then some (CfA.mk 1 (c.j + 3) c.d [] [] (OuA.mk c.o.gl c.o.gn c.o.gw ((210, lk0) :: bl) lk0 c.o.le c.o.s)) else none)
        else some (CfA.mk 1 (c.j + 1) (c.d - 1) [] [] (OuA.mk c.o.gl c.o.gn c.o.gw bl lk0 c.o.le c.o.s))) = some c' := es
    rw [if_pos c6] at es
    obtain rfl := Option.some.inj es
    obtain ⟨g, e0, kc, ra, rb, g15, Tg, g37, g38, g39, g13, g19, g10⟩ := clh_K (sg := sgF sy SC) hpp R.pt hJ c5 (by omega) hb15 (by omega) r.s0 (by omega) k3 hlen r.sg
    have s0n : S0.length ≤ 64 := by omega
    obtain ⟨h', e1, R1⟩ := clT_6 (n := S0.length) (sg := sgF sy SC) hpp (K1.kc kc) (by omega) g15 (by omega) (by rw [ra 28 (by omega), k2, c6]; rfl) g13 s0n (fun i hi => ⟨g19 i (by omega), (r.sg i (by omega)).2⟩)
    refine ⟨h', st_125 R c5 (e0.trans e1), ?_, fun w => by omega⟩
    unfold SNq
    rw [if_pos (show 0 = 0 from rfl)]
    rw [← eb0] at K3
    obtain ⟨-, f2, f3⟩ := BLk.c6 (k := (k, lk0)) c6 K3 K4
    exact ⟨_, z, R1, by show z + 1 ≤ c.j + 1; omega, fun i hi => uL_n L _ (by omega), by omega, f2, f3⟩
  · have es : (if k = 206 then some (CfA.mk 0 (c.j + 1) (c.d - 1) [] [] (OuA.mk c.o.gl c.o.gn c.o.gw bl lk0 c.o.le c.o.s))
        else if k = 209 ∧ X.kd (c.j + 1) = 210 then
          (if X.kd (c.j + 2) = 209 then some (CfA.mk 2 (c.j + 3) (c.d - 1) [] [] (OuA.mk 4 c.o.gn c.o.gw bl lk0 c.o.le c.o.s))
           else if X.kd (c.j + 2) = 123 then some (CfA.mk 1 (c.j + 3) c.d [] [] (OuA.mk c.o.gl c.o.gn c.o.gw ((210, lk0) :: bl) lk0 c.o.le c.o.s)) else none)
        else some (CfA.mk 1 (c.j + 1) (c.d - 1) [] [] (OuA.mk c.o.gl c.o.gn c.o.gw bl lk0 c.o.le c.o.s))) = some c' := es
    rw [if_neg c6] at es
    obtain ⟨h', e1, F⟩ := clo_K (sg := sgF sy SC) (kk := S0.length) (n := SC.length) (bl := bl) (lk0 := lk0) (k := k) hpp K0 eb0.symm (by omega) R.pt hJ c5 (by omega) hb15 (by omega) k2 r.s0 (by omega) k3 hlen r.sg es
    refine ⟨h', st_125 R c5 e1, ?_, fun w => by omega⟩
    have hmd : ¬ c'.md = 0 := by
      by_cases c1 : k = 209 ∧ X.kd (c.j + 1) = 210
      · rw [if_pos c1] at es
        by_cases c2 : X.kd (c.j + 2) = 209
        · rw [if_pos c2] at es; rw [← Option.some.inj es]; show ¬ 2 = 0; omega
        · rw [if_neg c2] at es
          by_cases c4 : X.kd (c.j + 2) = 123
          · rw [if_pos c4] at es; rw [← Option.some.inj es]; show ¬ 1 = 0; omega
          · rw [if_neg c4] at es; cases es
      · rw [if_neg c1] at es; rw [← Option.some.inj es]; show ¬ 1 = 0; omega
    unfold SNq
    rw [if_neg hmd, ek0]
    exact F
end STW
