/-! choices and cells, on good roads -/
section CHK
variable {X : TX} {J P : Nat} {fs : Nat → Nat} {e0 : Nat}
theorem emH_a {P z : Nat} {x : Int32} {y : Int64} {h : mv_H} {o : Nat} (q : ¬ o = P + 9) : mv_a (emH P z x y h) o = mv_a h o := funext fun i => mv_u_ne (mv_a h) _ (fun w => q w.1)
theorem emH_i {P z : Nat} {x : Int32} {y : Int64} {h : mv_H} {o k : Nat} (q : ¬ (o = P ∧ k = 17)) : mv_i (emH P z x y h) o k = mv_i h o k := mv_u_ne (mv_i h) _ q
/-- ? -/
theorem cho_K {h : mv_H} {j d w : Nat} {M : List MkA} {H : List Nat} {L : CDq} {z : Nat} {md : MDq} {hd : List DnE} (K : KXq X J P fs h j d M (w :: H) L e0 z 3 md hd) (hM : M.length ≤ 1000) (hH : H.length < 1023) (hk : X.kd j = 63) (hJ : X.kd J = 1 ∨ X.kd J = 2) (c : d < 60) : ∃ h', f_Exprs_choose P h = some h' ∧ KXq X J P fs h' (j + 1) (d + 1) (MkA.mk 63 0 w :: M) H (uL L z (312, 0)) e0 (z + 1) 2 ((hd.headD dN, 0) :: md) hd.tail := by
  obtain ⟨C, R, hz, l⟩ := K
  rw [if_pos rfl] at l
  obtain ⟨h', f1, f2⟩ := cho_C C hM hH hk hJ
  have Cx : CXq X J P h' (j + 1) (d + 1) (MkA.mk 63 0 w :: M) H := by
    rcases f2 with f2 | f2
    · exact f2.2
    · exact absurd c f2.1
  have hpp := C.pp
  have hjb := C.jb
  have hjb2 := C.tb.jb
  have hjJ := C.jJ
  have hj1 := nxJ hJ C.jJ (by omega) (by omega)
  obtain ⟨e1, C1⟩ := C.opK hk c hj1
  have R1 := (R.kc (KC9.si h (o := 3) (k := 8) (nI (d + 1)) (by omega))).kc (KC9.si _ (o := 3) (k := 7) (nI (j + 2)) (by omega))
  have r1 : mv_a (mv_si (mv_si h 3 8 (nI (d + 1))) 3 7 (nI (j + 2))) = mv_a h := rfl
  revert e1 C1 R1 r1
  generalize mv_si (mv_si h 3 8 (nI (d + 1))) 3 7 (nI (j + 2)) = h1
  intro e1 C1 R1 r1
  obtain ⟨h2, e2, i2, m2, a2, b2, l2, r23, r24, r25⟩ := C1.mk0 hM 63 (nI (j + 1))
  have E2 : FXq X J P h2 (j + 1 + 1) (M.length + 1) (H.length + 1) := by
    refine ⟨C1.tb.fr (a2 4 (by omega)) (a2 5 (by omega)) (congrFun b2 6), hpp, (i2 3 7 (by omega)).trans C1.at', C1.jb, m2, (i2 22 10 (by omega)).trans C1.hl, ?_⟩
    obtain ⟨z, e, hz⟩ := C1.sz
    exact ⟨z, (i2 P 17 (by omega)).trans e, hz⟩
  obtain ⟨e3, E3, -⟩ := rel_f (k := H.length) E2 (by omega)
  have e27 : mv_a h2 27 H.length = nI w := by rw [a2 27 (by omega)]; exact C1.hr.1.1
  have em : mv_i h2 22 8 - 1 = nI M.length := by rw [m2]; exact nIsub (a := M.length + 1) (b := 1) (by omega) (by omega)
  have k2 : KC9 P h1 h2 := ⟨i2 P 17 (by omega), a2 (P + 9) (by omega), congrFun b2 (P + 10)⟩
  have R3 : CRw P fs (mv_sa (mv_si h2 22 10 (nI H.length)) 26 M.length (nI w)) L z := ((R1.kc k2).kc (KC9.si _ _ (by omega))).kc (KC9.sa _ _ (by omega))
  have em2 : mv_i (mv_sa (mv_si h2 22 10 (nI H.length)) 26 M.length (nI w)) 22 8 - 1 = nI M.length := em
  have e5 := em_e R3.1 (show z < 32768 by omega) (nI 312) 0
  have eF : f_Exprs_choose P h = some (mv_sa (emH P z (nI 312) 0 (mv_sa (mv_si h2 22 10 (nI H.length)) 26 M.length (nI w))) 25 M.length (nI z)) := by
    unfold f_Exprs_choose
    rw [show f_Tokens_open h 63 = _ from e1, xhb_s, e2, xhv_s, e3, xhb_s, em, xvi_n (by omega) (by decide), cond_true, xk_s, cln (by omega), e27, show (312 : Int32) = nI 312 from rfl, e5, xhb_s, em2, xvi_n (by omega) (by decide), cond_true, xk_s, cln (by omega)]
  rw [eF] at f1
  have f1 := Option.some.inj f1
  subst f1
  refine ⟨_, eF, Cx, (R3.em (k := 312) (a := 0) (by omega) (by omega) (if_neg (by decide)).symm).kc (KC9.sa _ _ (by omega)), ?_, ?_⟩
  · show z + 1 + ((if 63 = 63 ∨ 63 = 58 then 0 else 1) + nO M) ≤ j + 1
    rw [if_pos (Or.inl rfl)]; omega
  · rw [if_neg (by decide)]
    refine L3.ch63 l rfl (mv_u_same _ _ _ _) (fun i hi => ?_)
    show mv_u (mv_a (emH P z (nI 312) 0 (mv_sa (mv_si h2 22 10 (nI H.length)) 26 M.length (nI w)))) 25 M.length (nI z) 25 i = _
    rw [mv_u_ne _ _ (by omega), emH_a (by omega)]
    show mv_u (mv_a h2) 26 M.length (nI w) 25 i = _
    rw [mv_u_ne _ _ (by omega), l2 25 i (by omega), r1]
/-- : -/
theorem oth_K {h : mv_H} {j d : Nat} {m : MkA} {M : List MkA} {H : List Nat} {L : CDq} {z : Nat} {md : MDq} {hd : List DnE} (K : KXq X J P fs h j d (m :: M) H L e0 z 3 md hd) (hM : M.length < 1000) (hm : m.k = 63) (hk : X.kd j = 58) (hJ : X.kd J = 1 ∨ X.kd J = 2) : ∃ h' L', f_Exprs_otherwise P h = some h' ∧ KXq X J P fs h' (j + 1) d (MkA.mk 58 0 m.q :: M) H L' e0 (z + 1) 2 md hd ∧ ∀ i, i < e0 → L' i = L i := by
  obtain ⟨C, R, hz, l⟩ := K
  rw [if_pos rfl] at l
  have hz' : z + ((if m.k = 63 ∨ m.k = 58 then 0 else 1) + nO M) ≤ j := hz
  rw [if_pos (Or.inl hm)] at hz'
  obtain ⟨h', f1, Cx⟩ := oth_C C hM hm hk hJ
  have hpp := C.pp
  have hjb2 := C.tb.jb
  have hjJ := C.jJ
  have e1 : f_Tokens_take h 58 = _ := C.tk hk
  have em : mv_i (mv_si h 3 7 (nI (j + 2))) 22 8 - 1 = nI M.length := by
    show mv_i h 22 8 - 1 = _
    rw [C.ml]; exact nIsub (a := M.length + 1) (b := 1) (by omega) (by omega)
  have em2 : mv_i (mv_sa (mv_si h 3 7 (nI (j + 2))) 23 M.length 58) 22 8 - 1 = nI M.length := em
  have R2 : CRw P fs (mv_sa (mv_si h 3 7 (nI (j + 2))) 23 M.length 58) L z := (R.kc (KC9.si h _ (by omega))).kc (KC9.sa _ _ (by omega))
  have e5 := em_e R2.1 (show z < 32768 by omega) (nI 311) 0
  have R3 := (R2.em (k := 311) (a := 0) (y := 0) (by omega) (by omega) (if_neg (by decide)).symm).kc (KC9.sa (o := 25) (k := M.length) _ (nI z) (by omega))
  obtain ⟨y, y1, y2, y3, lm⟩ := L3.ot (m2 := MkA.mk 58 0 m.q) (r2 := mv_a (mv_sb (mv_sa (emH P z (nI 311) 0 (mv_sa (mv_si h 3 7 (nI (j + 2))) 23 M.length 58)) 25 M.length (nI z)) (P + 10) (((mv_a h 25 M.length)).toNatClampNeg) (nJ (z + 1))) 25) l hm rfl (mv_u_same _ _ _ _) (fun i hi => by
    show mv_u (mv_a (emH P z (nI 311) 0 (mv_sa (mv_si h 3 7 (nI (j + 2))) 23 M.length 58))) 25 M.length (nI z) 25 i = _
    rw [mv_u_ne _ _ (by omega), emH_a (by omega)]
    exact mv_u_ne (mv_a h) (58 : Int32) (show ¬ (25 = 23 ∧ i = M.length) by omega))
  rw [y1, cln (by omega)] at lm
  have e6 := aim_e2 (y := y) R3.1 (by omega) (by omega)
  have e25 : mv_a (mv_si h 3 7 (nI (j + 2))) 25 M.length = nI y := y1
  have eF : f_Exprs_otherwise P h = some (mv_sb (mv_sa (emH P z (nI 311) 0 (mv_sa (mv_si h 3 7 (nI (j + 2))) 23 M.length 58)) 25 M.length (nI z)) (P + 10) y (nJ (z + 1))) := by
    unfold f_Exprs_otherwise
    rw [e1, xhb_s, em, xvi_n (by omega) (by decide), cond_true, cond_true, xk_s, cln (by omega), show (311 : Int32) = nI 311 from rfl, e5, xhb_s, em2, xvi_n (by omega) (by decide), cond_true, xk_s, cln (by omega), e25, e6, xhv_s]
  rw [eF] at f1
  have f1 := Option.some.inj f1
  subst f1
  have l0 := L3.ge l
  have le := lm.le
  refine ⟨_, _, eF, ⟨Cx, R3.am (by omega) ((uL_n L _ (by omega)).trans y3) (by decide) (nJ (z + 1)), ?_, ?_⟩, fun i hi => ?_⟩
  · show z + 1 + ((if 58 = 63 ∨ 58 = 58 then 0 else 1) + nO M) ≤ j + 1
    rw [if_pos (Or.inr rfl)]; omega
  · rw [if_neg (by decide)]
    exact lm
  · have hy : e0 ≤ y := by
      obtain ⟨D, hd', a, -, s, l⟩ := l
      obtain ⟨Dc, t, md', -, l⟩ := l
      rw [if_pos hm] at l
      obtain ⟨a0, y', s1, -, s3, s4, s5⟩ := l
      rw [y1] at s4
      have hy' : y' ≤ z := by have := s.1; omega
      have := (nIinj (by omega) (by omega)).mp s4
      have := s5.le
      have := s1.1
      omega
    rw [uL_n _ _ (by omega), uL_n _ _ (by omega)]
/-- choices that are over -/
theorem ech_K : ∀ (n x1 : Nat) (M : List MkA) (h : mv_H) {j d : Nat} {H : List Nat} {L : CDq} {z : Nat} {md : MDq} {hd : List DnE} {r : List MkA × List Nat × Nat}, KXq X J P fs h j d M H L e0 z 3 md hd → H.length = nH M + 1 → (∀ m, m ∈ M → m.k = 58 → 0 < m.q) → M.length ≤ 1000 → nH M < 1000 → nD M ≤ d → x1 + d ≤ 60 → 62 ≤ n + x1 → popC M H d = some r → ∃ h' L', f_Exprs_endChoices_2 P n (nI x1) h = some h' ∧ KXq X J P fs h' j r.2.2 r.1 r.2.1 L' e0 z 3 (qC M H md hd).1 (qC M H md hd).2 ∧ ∀ i, i < e0 → L' i = L i := by
  intro n
  induction n with
  | zero => intro x1 M h j d H L z md hd r _ _ _ _ _ _ _ _; omega
  | succ n ih =>
    intro x1 M h j d H L z md hd r K hH hq hM hk hd' hx hn ep
    have C := K.1
    show ∃ h' L', fF_Exprs_endChoices_2 P (f_Exprs_endChoices_2 P n) (nI x1) h = some h' ∧ _
    unfold fF_Exprs_endChoices_2
    rw [if_neg (show ¬ (60 : Int32) < nI x1 from fun z => by have := (nIlt (a := 60) (by omega) (by omega)).mp z; omega)]
    cases M with
    | nil =>
      rw [if_pos (show mv_i h 22 8 ≤ 0 by rw [C.ml]; decide)]
      obtain rfl := Option.some.inj ep
      exact ⟨h, L, rfl, K, fun _ _ => rfl⟩
    | cons m M =>
      have hM' : M.length + 1 ≤ 1000 := hM
      have eml : mv_i h 22 8 = nI (M.length + 1) := C.ml
      have em : mv_i h 22 8 - 1 = nI M.length := by rw [eml]; exact nIsub (a := M.length + 1) (b := 1) (by omega) (by omega)
      obtain ⟨q1, q2, q3, ⟨t, q4, q5⟩, q6, q7, q8⟩ := C.mr.1
      have ePop : popC (m :: M) H d = if m.k = 58 then (if m.q = 1 ∧ H.tail.headD 0 = H.headD 0 then popC M (H.tail.headD 0 :: H.tail.tail) (d - 1) else none) else some (m :: M, H, d) := rfl
      rw [ePop] at ep
      have eq : qC (m :: M) H md hd = if m.k = 58 then qC M (H.tail.headD 0 :: H.tail.tail) md.tail (dCh (md.headD (dN, 0)).1 (hd.tail.headD dN) (hd.headD dN) :: hd.tail.tail) else (md, hd) := rfl
      rw [eq]
      rw [if_neg (show ¬ mv_i h 22 8 ≤ 0 by rw [eml]; exact fun z => by have := (nIle (b := 0) (by omega) (by omega)).mp z; omega), em, xvi_n (by omega) (by decide), cond_true, cln (by omega), q1]
      by_cases c2 : m.k = 58
      rotate_left
      · rw [if_neg c2] at ep
        obtain rfl := Option.some.inj ep
        rw [if_neg (show ¬ nI m.k = (58 : Int32) from fun z => c2 ((nIinj (b := 58) (by omega) (by omega)).mp z)), if_neg c2]
        exact ⟨h, L, rfl, K, fun _ _ => rfl⟩
      rw [if_pos c2] at ep
      by_cases c34 : m.q = 1 ∧ H.tail.headD 0 = H.headD 0
      rotate_left
      · rw [if_neg c34] at ep; cases ep
      rw [if_pos c34] at ep
      obtain ⟨-, R, hz, l⟩ := K
      rw [if_pos rfl] at l
      have l0 := L3.ge l
      have hz' : z + ((if m.k = 63 ∨ m.k = 58 then 0 else 1) + nO M) ≤ j := hz
      rw [if_pos (Or.inr c2)] at hz'
      have hjb2 := C.tb.jb
      have hjJ := C.jJ
      have hpp := C.pp
      have b1 : nH (m :: M) = nHm m + nH M := rfl
      have b2 := nHm_58 c2
      have hd2 : nDm m + nD M ≤ d := hd'
      rw [nDm_58 c2] at hd2
      have hd60 := C.d2
      have e8' : mv_i (mv_si h 22 8 (nI M.length)) 3 8 - 1 = nI (d - 1) := by
        rw [pop22 h _ (by omega), C.dp]; exact nIsub (b := 1) (by omega) (by omega)
      rw [if_pos (show nI m.k = (58 : Int32) by rw [c2]; rfl), if_pos c2, xk_s, e8', xk_s]
      have C1 := (C.pop).dd (d2 := d - 1) (by omega)
      have R1 := (R.kc (KC9.si h (o := 22) (k := 8) (nI M.length) (by omega))).kc (KC9.si _ (o := 3) (k := 8) (nI (d - 1)) (by omega))
      have m1 : mv_i (mv_si (mv_si h 22 8 (nI M.length)) 3 8 (nI (d - 1))) 22 8 = nI M.length := rfl
      have a1 : mv_a (mv_si (mv_si h 22 8 (nI M.length)) 3 8 (nI (d - 1))) = mv_a h := rfl
      revert C1 m1 a1 R1
      generalize mv_si (mv_si h 22 8 (nI M.length)) 3 8 (nI (d - 1)) = g1
      intro C1 R1 m1 a1
      obtain ⟨r25, r26, r27⟩ := q8 (Or.inr c2)
      obtain ⟨z0, y1, y2, y3, l2⟩ := L3.ec (by omega) l c2
      cases H with
      | nil => exact absurd hH (by rw [List.length_nil]; omega)
      | cons y H =>
      cases H with
      | nil => exact absurd hH (by rw [b1, b2, List.length_cons, List.length_nil]; omega)
      | cons x H =>
      have c4 : x = y := c34.2
      have hH' : H.length = nH M := by
        rw [b1, b2, List.length_cons, List.length_cons] at hH
        omega
      rw [m1, xvi_n (by omega) (by decide), cond_true, cln (by omega), a1, y1]
      have e2 := aim_e2 (y := z0) R1.1 (by omega) (by omega)
      have C2 : CXq X J P (mv_sb g1 (P + 10) z0 (nJ z)) j (d - 1) M (y :: x :: H) := C1.eq rfl rfl (sbn (by omega))
      have R2 := R1.am y2 y3 (by decide) (nJ z)
      obtain ⟨e3, C3, w1, w2, w3⟩ := C2.rel (show H.length + 1 < 1024 by omega)
      obtain ⟨e4, C4, x1', x2', x3'⟩ := C3.rel (by omega)
      have m4 : mv_i (mv_si (mv_si (mv_sb g1 (P + 10) z0 (nJ z)) 22 10 (nI (x :: H).length)) 22 10 (nI H.length)) 22 8 = nI M.length := m1
      have a4 : mv_a (mv_si (mv_si (mv_sb g1 (P + 10) z0 (nJ z)) 22 10 (nI (x :: H).length)) 22 10 (nI H.length)) = mv_a h := a1
      rw [e2, xhv_s, e3, xhb_s, e4, xhb_s, m4, xvi_n (by omega) (by decide), cond_true, cln (by omega), a4, r26]
      have n1 : ¬ nI m.q = (0 : Int32) := fun z => by have := (nIinj (b := 0) (by omega) (by omega)).mp z; omega
      have n2 : ¬ nI x = (0 : Int32) := fun z => by have := (nIinj (b := 0) (by omega) (by omega)).mp z; omega
      have n3 : ¬ nI y = (0 : Int32) := fun z => by have := (nIinj (b := 0) (by omega) (by omega)).mp z; omega
      rw [if_neg n1, if_neg n2, if_neg n3]
      unfold f_Exprs_endChoices_110
      rw [if_pos rfl, if_pos (show nI m.q = (1 : Int32) by rw [c34.1]; rfl), if_pos (by rw [c4])]
      obtain ⟨e5, C5, k5, r5⟩ := C4.hoK (by omega) x1' x3'
      unfold f_Exprs_endChoices_145 f_Exprs_endChoices_156
      rw [if_pos rfl, e5, xhv_s, nI1 (by omega)]
      have K5 : KXq X J P fs (mv_si (mv_sa (mv_si (mv_si (mv_sb g1 (P + 10) z0 (nJ z)) 22 10 (nI (x :: H).length)) 22 10 (nI H.length)) 27 H.length (nI x)) 22 10 (nI (H.length + 1))) j (d - 1) M (x :: H) (uL L z0 (311, nJ z)) e0 z 3 md.tail (dCh (md.headD (dN, 0)).1 (hd.tail.headD dN) (hd.headD dN) :: hd.tail.tail) := by
        refine ⟨C5, ((R2.kc (KC9.si _ _ (by omega))).kc (KC9.si _ _ (by omega))).kc k5, by omega, ?_⟩
        rw [if_pos rfl, r5, a4]
        exact l2
      obtain ⟨h', L', e6, K6, hL⟩ := ih (x1 + 1) M _ K5 (by rw [List.length_cons]; omega) (fun n' q => hq n' (List.mem_cons_of_mem _ q)) (by omega) (by omega) (by omega) (by omega) (by omega) ep
      refine ⟨h', L', e6, K6, fun i hi => (hL i hi).trans (uL_n L _ ?_)⟩
      have hy : e0 ≤ z0 := by
        obtain ⟨D, hd', a, -, s, l⟩ := l
        obtain ⟨Dc, t, md', -, l⟩ := l
        rw [if_neg (by omega), if_pos c2] at l
        obtain ⟨a0, y', z', Dy, hd2, -, s1, -, s3, -, s5, s6, s7⟩ := l
        rw [y1] at s6
        have hy' : z' ≤ z := by have := s.1; omega
        have := (nIinj (by omega) (by omega)).mp s6
        have := s7.le
        have := s1.1
        have := s3.1
        omega
      omega
/-- ] of a cell -/
theorem cel_K {h : mv_H} {j d w : Nat} {m : MkA} {M : List MkA} {H : List Nat} {L : CDq} {z : Nat} {md : MDq} {hd : List DnE} (K : KXq X J P fs h j (d + 1) (m :: M) (w :: H) L e0 z 3 md hd) (hM : M.length < 1000) (hH : H.length < 1000) (hc : 0 < m.c) (hm : m.k = 91) (hk : X.kd j = 93) (hJ : X.kd J = 1 ∨ X.kd J = 2) : ∃ h', f_Exprs_cell P h = some h' ∧ KXq X J P fs h' (j + 1) d M (m.c :: H) (uL L z (304, nJ (md.headD (dN, 0)).2)) e0 (z + 1) 3 md.tail (dCel (md.headD (dN, 0)).2 (hd.headD dN) :: hd.tail) := by
  obtain ⟨C, R, hz, l⟩ := K
  rw [if_pos rfl] at l
  have hz' : z + ((if m.k = 63 ∨ m.k = 58 then 0 else 1) + nO M) ≤ j := hz
  rw [if_neg (by omega)] at hz'
  have hpp := C.pp
  have hjb2 := C.tb.jb
  have p25 : ¬ 25 = P + 9 := by omega
  have hjJ := C.jJ
  have hj1 := nxJ hJ C.jJ (by omega) (by omega)
  obtain ⟨l2, l9⟩ := L3.po0 l (by omega) (by omega) (nHm_n (by rw [hm]; rfl) (by omega) (Or.inr (by omega)))
  obtain ⟨t1, t2⟩ := l9 hm
  obtain ⟨e1, C1⟩ := C.clK hk hj1
  have R1 := (R.kc (KC9.si h (o := 3) (k := 8) (nI d) (by omega))).kc (KC9.si _ (o := 3) (k := 7) (nI (j + 2)) (by omega))
  have r1 : mv_a (mv_si (mv_si h 3 8 (nI d)) 3 7 (nI (j + 2))) = mv_a h := rfl
  revert e1 C1 R1 r1
  generalize mv_si (mv_si h 3 8 (nI d)) 3 7 (nI (j + 2)) = h1
  intro e1 C1 R1 r1
  obtain ⟨q1, q2, q3, q4, q6, q7, q8⟩ := C1.mr.1
  obtain ⟨u, u1, u2, u3⟩ := q7 hm
  have hu : u = (md.headD (dN, 0)).2 := by
    rw [r1, t1] at u1
    exact ((nIinj (by omega) (by omega)).mp u1).symm
  rw [← hu] at t2 ⊢
  have em : mv_i h1 22 8 - 1 = nI M.length := by rw [C1.ml]; exact nIsub (a := M.length + 1) (b := 1) (by omega) (by omega)
  have m2 : mv_i (mv_si h1 22 8 (nI M.length)) 22 8 = nI M.length := rfl
  have a2 : mv_a (mv_si h1 22 8 (nI M.length)) 25 M.length = nI u := u1
  obtain ⟨e3, C3, R3, a3, -, -⟩ := (C1.pop).emK (R1.kc (KC9.si h1 (o := 22) (k := 8) (nI M.length) (by omega))) (k := 304) (y := nJ u) (a := nJ u) (by omega) (by omega) (if_neg (by decide)).symm
  obtain ⟨e4, C4, w1, w2, w3⟩ := C3.rel (by omega)
  have ep : mv_a (mv_si (emH P z (nI 304) (nJ u) (mv_si h1 22 8 (nI M.length))) 22 10 (nI H.length)) (P + 1) u = nI m.c := by
    show mv_a (emH P z (nI 304) (nJ u) (mv_si h1 22 8 (nI M.length))) (P + 1) u = _
    rw [a3 (P + 1) (by omega)]; exact u3
  have hs := C.sm
  have hsum : sumL (w :: H) = w + sumL H := rfl
  obtain ⟨e5, C5, k5, r5⟩ := C4.hoK (by omega) hc (by omega)
  refine ⟨_, ?_, C5, (R3.kc (KC9.si _ _ (by omega))).kc k5, by omega, ?_⟩
  · unfold f_Exprs_cell f_Exprs_cell_66
    rw [show f_Tokens_close h 93 = _ from e1, xhb_s, em, xk_s, m2, xvi_n (by omega) (by decide), cond_true, cln (by omega), a2, show (304 : Int32) = nI 304 from rfl, xI_l, xi2l_s (by omega), e3, xhb_s, e4, xhb_s, xvi_n (show u < 64 by omega) (by decide), cond_true, if_neg (show ¬ nI w = (0 : Int32) from fun z => by have := (nIinj (b := 0) (by omega) (by omega)).mp z; omega), cln (by omega), ep, e5, xhv_s]
  · rw [if_pos rfl, r5]
    have e25 : mv_a (mv_si (emH P z (nI 304) (nJ u) (mv_si h1 22 8 (nI M.length))) 22 10 (nI H.length)) 25 = mv_a h 25 := by
      show mv_a (emH P z (nI 304) (nJ u) (mv_si h1 22 8 (nI M.length))) 25 = _
      rw [a3 25 p25]
      show mv_a h1 25 = _
      rw [r1]
    rw [e25]
    exact l2.ce u2
end CHK
