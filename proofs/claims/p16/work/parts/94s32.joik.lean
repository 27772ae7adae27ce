/-! joining, on good roads -/
section JOK
variable {X : TX} {J P : Nat} {fs : Nat → Nat} {e0 : Nat}
theorem j61_44 {g : mv_H} {j d w : Nat} {m : MkA} {M : List MkA} {H : List Nat} (C : CXq X J P g j (d + 1) (m :: M) (w :: H)) (hM : M.length < 1000) (hm : m.k = 123) (hc : m.c < 40000) (hk : X.kd j = 44) (hJ : X.kd J = 1 ∨ X.kd J = 2) : ∃ h', f_Exprs_join_61 P (nI (X.kd j)) (nI M.length) g = some (0, h') ∧ CXq X J P h' (j + 1) (d + 1) (MkA.mk 123 (m.c + 1) 0 :: M) (w :: H) ∧ KC9 P g h' ∧ ∀ i, i < M.length → mv_a h' 25 i = mv_a g 25 i := by
  have hpp := C.pp
  have p9 : ¬ 25 = P + 9 := by omega
  have p17 : ¬ (3 = P ∧ 7 = 17) := by omega
  have hj1 := nxJ hJ C.jJ (by omega) (by omega)
  obtain ⟨q1, q2, q3, ⟨t, q4, q5⟩, q6, q7, q8⟩ := C.mr.1
  have e25 := q6 (Or.inl hm)
  clear q6 q7 q8
  have C1 := C.cnt (Or.inl hm) (c := m.c + 1) (by omega)
  rw [hm] at C1
  refine ⟨mv_si (mv_sa g 25 M.length (nI (m.c + 1))) 3 7 (nI (j + 2)), ?_, C1.nx hj1, (KC9.sa g _ p9).tr (KC9.si _ _ p17), fun i hi => ?_⟩
  · unfold f_Exprs_join_61
    rw [xvi_n (show M.length < 1024 by omega) (by decide), cond_true, cond_true, xk_s, cln (by omega), e25, nI1 (by omega), if_pos (show nI (X.kd j) = (44 : Int32) by rw [hk]; rfl), show f_Tokens_take (mv_sa g 25 M.length (nI (m.c + 1))) 44 = _ from C1.tk hk, xhb_s]
  · show mv_u (mv_a g) 25 M.length (nI (m.c + 1)) 25 i = _
    rw [mv_u_ne _ _ (by omega)]
theorem j61_125 {g : mv_H} {j d w : Nat} {m : MkA} {M : List MkA} {H : List Nat} (C : CXq X J P g j (d + 1) (m :: M) (w :: H)) (hM : M.length < 1000) (hH : H.length < 1000) (hm : m.k = 123) (hc : m.c < 40000) (hk : X.kd j = 125) (hw : w ≤ 64) (hJ : X.kd J = 1 ∨ X.kd J = 2) : ∃ h', f_Exprs_join_61 P (nI (X.kd j)) (nI M.length) g = some (1, h') ∧ CXq X J P h' (j + 1) d M (w :: H) ∧ KC9 P g h' ∧ ∀ i, i < M.length → mv_a h' 25 i = mv_a g 25 i := by
  have hpp := C.pp
  have p9 : ¬ 25 = P + 9 := by omega
  have p17 : ¬ (3 = P ∧ 7 = 17) := by omega
  have p18 : ¬ (3 = P ∧ 8 = 17) := by omega
  have p22 : ¬ (22 = P ∧ 8 = 17) := by omega
  have p20 : ¬ (22 = P ∧ 10 = 17) := by omega
  have hj1 := nxJ hJ C.jJ (by omega) (by omega)
  obtain ⟨q1, q2, q3, ⟨t, q4, q5⟩, q6, q7, q8⟩ := C.mr.1
  have e25 := q6 (Or.inl hm)
  clear q6 q7 q8
  have C1 := C.cnt (Or.inl hm) (c := m.c + 1) (by omega)
  rw [hm] at C1
  have k1 := KC9.sa (P := P) (o := 25) (k := M.length) g (nI (m.c + 1)) p9
  have r1 : ∀ i, i < M.length → mv_a (mv_sa g 25 M.length (nI (m.c + 1))) 25 i = mv_a g 25 i := fun i hi => by
    show mv_u (mv_a g) 25 M.length (nI (m.c + 1)) 25 i = _
    rw [mv_u_ne _ _ (by omega)]
  unfold f_Exprs_join_61
  rw [xvi_n (show M.length < 1024 by omega) (by decide), cond_true, cond_true, xk_s, cln (by omega), e25, nI1 (by omega)]
  revert C1 k1 r1
  generalize mv_sa g 25 M.length (nI (m.c + 1)) = g1
  intro C1 k1 r1
  rw [if_neg (show ¬ nI (X.kd j) = (44 : Int32) by rw [hk]; decide)]
  obtain ⟨e2, C2⟩ := C1.clK hk hj1
  have k2 := (KC9.si g1 (o := 3) (k := 8) (nI d) p18).tr (KC9.si _ (o := 3) (k := 7) (nI (j + 2)) p17)
  have r2 : mv_a (mv_si (mv_si g1 3 8 (nI d)) 3 7 (nI (j + 2))) = mv_a g1 := rfl
  rw [show f_Tokens_close g1 125 = _ from e2, xhb_s]
  revert C2 k2 r2
  generalize mv_si (mv_si g1 3 8 (nI d)) 3 7 (nI (j + 2)) = g2
  intro C2 k2 r2
  have em : mv_i g2 22 8 - 1 = nI M.length := by rw [C2.ml]; exact nIsub (a := M.length + 1) (b := 1) (by omega) (by omega)
  obtain ⟨e4, C4, w1, w2, w3⟩ := (C2.pop).rel (by omega)
  rw [em, xk_s, e4, xhb_s]
  unfold f_Exprs_join_136
  obtain ⟨e5, C5, k5, r5⟩ := C4.hoK (by omega) w1 w3
  rw [if_pos (show nI w ≤ (64 : Int32) from (nIle (b := 64) (by omega) (by omega)).mpr hw), e5, xhv_s]
  refine ⟨_, rfl, C5, (((k1.tr k2).tr (KC9.si _ _ p22)).tr (KC9.si _ _ p20)).tr k5, fun i hi => ?_⟩
  rw [r5]
  show mv_a g2 25 i = _
  rw [r2]
  exact r1 i hi
theorem joi_K {h : mv_H} {j d : Nat} {m : MkA} {M : List MkA} {H : List Nat} {o : OuA} {L : CDq} {z : Nat} {md : MDq} {hd : List DnE} (K : KXq X J P fs h j (d + 1) (m :: M) H L e0 z 3 md hd) (hL : H.length = nH (m :: M) + 1) (hM : M.length < 1000) (hH : nH (m :: M) < 1000) (hm : m.k = 123) (hc : m.c < 40000) (hJ : X.kd J = 1 ∨ X.kd J = 2) {c : CfA} (ec : (if X.kd j = 44 then some (CfA.mk 2 (j + 1) (d + 1) (MkA.mk 123 (m.c + 1) 0 :: M) (if m.c = 0 then H else (H.tail.headD 0 + H.headD 0) :: H.tail.tail) o) else if (if m.c = 0 then H.headD 0 else H.tail.headD 0 + H.headD 0) ≤ 64 then some (CfA.mk 3 (j + 1) d M (if m.c = 0 then H else (H.tail.headD 0 + H.headD 0) :: H.tail.tail) o) else none) = some c) (hk : X.kd j = 44 ∨ X.kd j = 125) : ∃ v h' L' z', f_Exprs_join P h (nI (X.kd j)) = some (v, h') ∧ KXq X J P fs h' c.j c.d c.M c.H L' e0 z' c.md (if X.kd j = 44 then md else md.tail) (if m.c = 0 then hd else d2 309 (nJ (H.headD 0)) (hd.tail.headD dN) (hd.headD dN) :: hd.tail.tail) ∧ ∀ i, i < e0 → L' i = L i := by
  obtain ⟨C, R, hz, l⟩ := K
  rw [if_pos rfl] at l
  have l0 := L3.ge l
  have hz' : z + ((if m.k = 63 ∨ m.k = 58 then 0 else 1) + nO M) ≤ j := hz
  rw [if_neg (by omega)] at hz'
  have hpp := C.pp
  have hjb := C.tb.jb
  have hjJ := C.jJ
  have hl0 : lvq m.k = 0 := by rw [hm]; rfl
  have n3 : ¬ (MkA.mk 123 (m.c + 1) 0).k = 63 ∧ ¬ (MkA.mk 123 (m.c + 1) 0).k = 58 ∧ ¬ (MkA.mk 123 (m.c + 1) 0).k = 91 := by
    show ¬ 123 = 63 ∧ ¬ 123 = 58 ∧ ¬ 123 = 91
    omega
  have n4 : nHm (MkA.mk 123 (m.c + 1) 0) = 1 := nHm_c ⟨by show ¬ m.c + 1 = 0; omega, Or.inl rfl⟩
  have em : mv_i h 22 8 - 1 = nI M.length := by rw [C.ml]; exact nIsub (a := M.length + 1) (b := 1) (by omega) (by omega)
  have e25 : mv_a h 25 M.length = nI m.c := C.mr.1.2.2.2.2.1 (Or.inl hm)
  have b1 : nH (m :: M) = nHm m + nH M := rfl
  have o1 : nO (MkA.mk 123 (m.c + 1) 0 :: M) = 1 + nO M := by
    show (if 123 = 63 ∨ 123 = 58 then 0 else 1) + nO M = _
    rw [if_neg (by omega)]
  unfold f_Exprs_join
  rw [em, xvi_n (by omega) (by decide), cond_true, cln (by omega), e25]
  by_cases c0 : m.c = 0
  · rw [if_pos (show nI m.c ≤ 0 by rw [c0]; decide), if_pos c0]
    rw [if_pos c0, if_pos c0] at ec
    have hn := nHm_n (m := m) hl0 (by omega) (Or.inl c0)
    cases H with
    | nil => exact absurd hL (by rw [List.length_nil]; omega)
    | cons w H =>
    rw [List.length_cons] at hL
    rcases hk with hk | hk
    · rw [if_pos hk] at ec
      obtain rfl := Option.some.inj ec
      obtain ⟨h', e1, C1, k1, r1⟩ := j61_44 C hM hm hc hk hJ
      refine ⟨0, h', L, z, e1, ⟨C1, R.kc k1, by rw [o1]; show z + (1 + nO M) ≤ j + 1; omega, ?_⟩, fun _ _ => rfl⟩
      rw [if_neg (show ¬ 2 = 3 by omega), if_pos hk]
      exact L3.hm l (by omega) (by omega) hn n3.1 n3.2.1 n4 n3.2.2 r1
    · rw [if_neg (by omega)] at ec
      by_cases cw : w ≤ 64
      rotate_left
      · rw [if_neg (show ¬ (w :: H).headD 0 ≤ 64 from cw)] at ec; cases ec
      rw [if_pos (show (w :: H).headD 0 ≤ 64 from cw)] at ec
      obtain rfl := Option.some.inj ec
      obtain ⟨h', e1, C1, k1, r1⟩ := j61_125 C hM (by omega) hm hc hk cw hJ
      refine ⟨1, h', L, z, e1, ⟨C1, R.kc k1, by show z + nO M ≤ j + 1; omega, ?_⟩, fun _ _ => rfl⟩
      rw [if_pos (show 3 = 3 from rfl), if_neg (by omega)]
      exact ((L3.po0 l (by omega) (by omega) hn).1).up (fun _ _ _ => rfl) r1
  rw [if_neg (show ¬ nI m.c ≤ 0 from fun z => by have := (nIle (b := 0) (by omega) (by omega)).mp z; omega), if_neg c0]
  rw [if_neg c0, if_neg c0] at ec
  have hn := nHm_c (m := m) ⟨c0, Or.inl hm⟩
  cases H with
  | nil => exact absurd hL (by rw [List.length_nil]; omega)
  | cons y H =>
  cases H with
  | nil => exact absurd hL (by rw [b1, hn, List.length_cons, List.length_nil]; omega)
  | cons x H =>
  rw [List.length_cons, List.length_cons] at hL
  obtain ⟨e1, C1, y1, y2, y3⟩ := C.rel (show H.length + 1 < 1024 by omega)
  obtain ⟨e2, C2, x1, x2, x3⟩ := C1.rel (by omega)
  have R2 := (R.kc (KC9.si h (o := 22) (k := 10) (nI (x :: H).length) (by omega))).kc (KC9.si _ (o := 22) (k := 10) (nI H.length) (by omega))
  obtain ⟨e3, C3, R3, a3, -, -⟩ := C2.emK R2 (k := 309) (y := nJ y) (a := nJ y) (by omega) (by omega) (if_neg (by decide)).symm
  have hsum : sumL (x :: H) = x + sumL H := rfl
  obtain ⟨e4, C4, k4, r4⟩ := C3.hoK (by omega) (w := x + y) (by omega) (by omega)
  have exy : nI x + nI y = nI (x + y) := Int32.toInt_inj.mp (by rw [i32_add (by rw [nIi (by omega), nIi (by omega)]; omega) (by rw [nIi (by omega), nIi (by omega)]; omega), nIi (by omega), nIi (by omega), nIi (by omega)]; omega)
  unfold f_Exprs_join_58
  rw [e1, xhb_s, e2, xhb_s, show (309 : Int32) = nI 309 from rfl, xI_l, xi2l_s (by omega), e3, xhb_s, if_neg (show ¬ nI x = (0 : Int32) from fun z => by have := (nIinj (b := 0) (by omega) (by omega)).mp z; omega), if_neg (show ¬ nI y = (0 : Int32) from fun z => by have := (nIinj (b := 0) (by omega) (by omega)).mp z; omega), exy, e4, xhv_s]
  have R4 := R3.kc k4
  have a4 := r4.trans (a3 25 (by omega))
  revert C4 R4 a4
  generalize mv_si (mv_sa (emH P z (nI 309) (nJ y) (mv_si (mv_si h 22 10 (nI (x :: H).length)) 22 10 (nI H.length))) 27 H.length (nI (x + y))) 22 10 (nI (H.length + 1)) = g4
  intro C4 R4 a4
  have a4 : mv_a g4 25 = mv_a h 25 := a4
  have un : ∀ i, i < e0 → uL L z (309, nJ y) i = L i := fun i q => uL_n L _ (by omega)
  rcases hk with hk | hk
  · rw [if_pos hk] at ec
    obtain rfl := Option.some.inj ec
    obtain ⟨h', e5, C5, k5, r5⟩ := j61_44 C4 hM hm hc hk hJ
    refine ⟨0, h', uL L z (309, nJ y), z + 1, e5, ⟨C5, R4.kc k5, by rw [o1]; show z + 1 + (1 + nO M) ≤ j + 1; omega, ?_⟩, un⟩
    rw [if_neg (show ¬ 2 = 3 by omega), if_pos hk]
    exact L3.o2m (w := nJ y) l (by omega) (by omega) hn (Or.inr rfl) n3.1 n3.2.1 n4 n3.2.2 (fun i hi => by rw [r5 i hi, a4])
  · rw [if_neg (by omega)] at ec
    by_cases cw : x + y ≤ 64
    rotate_left
    · rw [if_neg (show ¬ (y :: x :: H).tail.headD 0 + (y :: x :: H).headD 0 ≤ 64 from cw)] at ec; cases ec
    rw [if_pos (show (y :: x :: H).tail.headD 0 + (y :: x :: H).headD 0 ≤ 64 from cw)] at ec
    obtain rfl := Option.some.inj ec
    obtain ⟨h', e5, C5, k5, r5⟩ := j61_125 C4 hM (by omega) hm hc hk cw hJ
    refine ⟨1, h', uL L z (309, nJ y), z + 1, e5, ⟨C5, R4.kc k5, by show z + 1 + nO M ≤ j + 1; omega, ?_⟩, un⟩
    rw [if_pos (show 3 = 3 from rfl), if_neg (by omega)]
    exact (L3.o2 (w := nJ y) l (by omega) (by omega) hn (Or.inr rfl)).up (fun _ _ _ => rfl) (fun i hi => by rw [r5 i hi, a4])
end JOK
