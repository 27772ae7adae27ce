/-! parts, widening, joining, on good roads -/
theorem orW1 {a b : Nat} (ha : a ≤ 64) (hb : b ≤ 64) : (nJ a &&& (255 : Int64)) ||| (((nI b).toInt64) <<< (((8 : Int32)).toInt64 &&& 63)) = wPk a b := by
  have : ∀ a : Fin 65, ∀ b : Fin 65, (nJ a.val &&& (255 : Int64)) ||| (((nI b.val).toInt64) <<< (((8 : Int32)).toInt64 &&& 63)) = wPk a.val b.val := by decide +kernel
  exact this ⟨a, by omega⟩ ⟨b, by omega⟩
theorem orW2 {a b : Nat} (ha : a ≤ 64) (hb : b ≤ 64) : ((nI a).toInt64) ||| ((nJ b) <<< (((8 : Int32)).toInt64 &&& 63)) = wPk a b := by
  have : ∀ a : Fin 65, ∀ b : Fin 65, ((nI a.val).toInt64) ||| ((nJ b.val) <<< (((8 : Int32)).toInt64 &&& 63)) = wPk a.val b.val := by decide +kernel
  exact this ⟨a, by omega⟩ ⟨b, by omega⟩
section PWJ
variable {X : TX} {J P : Nat} {fs : Nat → Nat} {e0 : Nat}
theorem p52_K {g : mv_H} {i d w : Nat} {M : List MkA} {H : List Nat} {L : CDq} {z : Nat} {md : MDq} {hd : List DnE} {x1 x2 : Nat} (C : CXq X J P g i (d + 1) M (w :: H)) (R : CRw P fs g L z) (hz : z + nO M ≤ i) (l : L3 L (mv_a g 25) e0 M md hd z) (hH : H.length < 1023) (hw6 : w ≤ 64) (hJ : X.kd J = 1 ∨ X.kd J = 2) (i1 : x1 ≤ J) (i2 : x2 ≤ J) (k1 : X.kd x1 = 4) (k2 : X.kd x2 = 4) (k9 : X.kd i = 93) (hA : X.nu x1 < w) (hB : X.nu x2 ≤ X.nu x1) : ∃ h', f_Exprs_part_52 P (nI (x1 + 1)) (nI (x2 + 1)) g = some h' ∧ KXq X J P fs h' (i + 1) d M ((X.nu x1 - X.nu x2 + 1) :: H) (uL L z (308, wPk (X.nu x2) (X.nu x1 - X.nu x2 + 1))) e0 (z + 1) 3 md (d1 308 (wPk (X.nu x2) (X.nu x1 - X.nu x2 + 1)) (hd.headD dN) :: hd.tail) := by
  have hb := C.tb.jb
  have hpp := C.pp
  have hs := C.sm
  have hsum : sumL (w :: H) = w + sumL H := rfl
  have hi1 := nxJ hJ C.jJ (by omega) (by omega)
  obtain ⟨e1, C1⟩ := C.clK k9 hi1
  obtain ⟨e2, C2, w1, w2, w3⟩ := C1.rel (by omega)
  have R2 := ((R.kc (KC9.si g (o := 3) (k := 8) (nI d) (by omega))).kc (KC9.si _ (o := 3) (k := 7) (nI (i + 2)) (by omega))).kc (KC9.si _ (o := 22) (k := 10) (nI H.length) (by omega))
  have n1 := C2.tb.n x1 i1 k1
  have n2 := C2.tb.n x2 i2 k2
  obtain ⟨g1, h', e3, e4, K4, -⟩ := KXq.va3 (e0 := e0) (k := 308) (w := X.nu x1 - X.nu x2 + 1) (y := wPk (X.nu x2) (X.nu x1 - X.nu x2 + 1)) (a := wPk (X.nu x2) (X.nu x1 - X.nu x2 + 1)) (md := md) (hd := d1 308 (wPk (X.nu x2) (X.nu x1 - X.nu x2 + 1)) (hd.headD dN) :: hd.tail) C2 R2 (by omega) (by omega) (by omega) (if_neg (by decide)).symm (by omega) (by omega) (L3.o1 l (by omega))
  refine ⟨h', ?_, K4⟩
  rw [p52_e (x1 + 1) (x2 + 1) (by omega) (by omega), show f_Tokens_close g 93 = _ from e1, xhb_s, e2, xhb_s, n1.1, n2.1]
  generalize hg : mv_si (mv_si (mv_si g 3 8 (nI d)) 3 7 (nI (i + 2))) 22 10 (nI H.length) = g0 at e3 ⊢
  have eb := bel_C g0 n1.2 n2.2
  have nw : ¬ nI w ≤ (0 : Int32) := fun z => by
    have := (nIle (b := 0) (by omega) (by decide)).mp (show nI w ≤ nI 0 from z)
    omega
  have cl : lg_cmp (nJ (X.nu x1)) ((nI w).toInt64) < 0 ↔ (X.nu x1 < w ∨ 9223372036854775808 ≤ X.nu x1) := by
    rw [xI_l, xi2l_s (by omega)]
    exact lc_lt n1.2 (by omega)
  unfold pT
  rw [if_neg nw, if_neg (fun z => absurd ((lc_neg n1.2).mp z) (by omega)), if_pos (cl.mpr (Or.inl hA))]
  unfold f_Exprs_part_112 f_Exprs_part_113
  rw [eb, decide_eq_false (show ¬ X.nu x1 < X.nu x2 by omega), xhb_s, if_pos rfl]
  unfold f_Exprs_part_135 f_Exprs_part_146
  have nz : ¬ nI w = (0 : Int32) := fun z => nw (by rw [z]; decide)
  rw [if_pos (show b01 false = 0 from rfl), if_neg nz, if_pos rfl, if_pos (show b01 false = 0 from rfl)]
  unfold f_Exprs_part_165 f_Exprs_part_184
  have esub : (nJ (X.nu x1) - nJ (X.nu x2)).toInt32 + 1 = nI (X.nu x1 - X.nu x2 + 1) := by
    have e : nJ (X.nu x1) - nJ (X.nu x2) = nJ (X.nu x1 - X.nu x2) := by
      rw [xJ_sub]
      apply xJ_eq
      unfold ysub
      omega
    rw [e, nJi (by omega), nI1 (by omega)]
  rw [if_pos rfl, esub, orW1 (by omega) (by omega), show (308 : Int32) = nI 308 from rfl, e3, xhb_s, e4, xhv_s]
/-- [h] or [h:l] -/
theorem prt_K {h : mv_H} {j d w : Nat} {M : List MkA} {H : List Nat} {o : OuA} {L : CDq} {z : Nat} {md : MDq} {hd : List DnE} (K : KXq X J P fs h j d M (w :: H) L e0 z 3 md hd) (hH : H.length < 1000) (hw6 : w ≤ 64) (hJ : X.kd J = 1 ∨ X.kd J = 2) (hk : X.kd j = 91) {c : CfA} (ec : aPk X j d M (w :: H) o = some c) : ∃ h' L' z', f_Exprs_part P h = some h' ∧ KXq X J P fs h' c.j c.d c.M c.H L' e0 z' 3 md (d1 308 (wPk (loP X j) (if X.kd (j + 2) = 58 then X.nu (j + 1) - X.nu (j + 3) + 1 else 1)) (hd.headD dN) :: hd.tail) ∧ (c.md = 3 ∧ c.o = o) ∧ ∀ i, i < e0 → L' i = L i := by
  obtain ⟨C, R, hz, l⟩ := K
  rw [if_pos rfl] at l
  have l0 := L3.ge l
  have hb := C.jb
  have hpp := C.pp
  have hj1 := nxJ hJ C.jJ (by omega) (by omega)
  have ePk : aPk X j d M (w :: H) o = if d < 60 ∧ X.kd (j + 1) = 4 then (if X.kd (j + 2) = 58 then (if X.kd (j + 3) = 4 ∧ X.kd (j + 4) = 93 ∧ X.nu (j + 1) < w ∧ X.nu (j + 3) ≤ X.nu (j + 1) then some (CfA.mk 3 (j + 5) d M ((X.nu (j + 1) - X.nu (j + 3) + 1) :: H) o) else none) else if X.kd (j + 2) = 93 ∧ X.nu (j + 1) < w then some (CfA.mk 3 (j + 3) d M (1 :: H) o) else none) else none := rfl
  rw [ePk] at ec
  by_cases cc : d < 60 ∧ X.kd (j + 1) = 4
  rotate_left
  · rw [if_neg cc] at ec; cases ec
  rw [if_pos cc] at ec
  obtain ⟨d60, k4⟩ := cc
  obtain ⟨e1, C1⟩ := C.opK hk d60 hj1
  have R1 := (R.kc (KC9.si h (o := 3) (k := 8) (nI (d + 1)) (by omega))).kc (KC9.si _ (o := 3) (k := 7) (nI (j + 2)) (by omega))
  have r1 : mv_a (mv_si (mv_si h 3 8 (nI (d + 1))) 3 7 (nI (j + 2))) 25 = mv_a h 25 := rfl
  revert e1 C1 R1 r1
  generalize mv_si (mv_si h 3 8 (nI (d + 1))) 3 7 (nI (j + 2)) = g1
  intro e1 C1 R1 r1
  rw [← r1] at l
  have hj2 := nxJ hJ hj1 (by omega) (by omega)
  have C2 := C1.nx hj2
  have R2 := R1.kc (KC9.si g1 (o := 3) (k := 7) (nI (j + 1 + 2)) (by omega))
  unfold f_Exprs_part
  rw [show f_Tokens_open h 91 = _ from e1, xhb_s, show f_Tokens_take g1 4 = _ from C1.tk k4, xhb_s, C2.kd, xhb_s]
  have kb := (C.tb.k (j + 2) hj2).2
  have un : ∀ (x : Nat × Int64) i, i < e0 → uL L z x i = L i := fun x i q => uL_n L x (by omega)
  by_cases c5 : X.kd (j + 2) = 58
  rotate_left
  · rw [if_neg c5] at ec
    by_cases c9 : X.kd (j + 2) = 93 ∧ X.nu (j + 1) < w
    rotate_left
    · rw [if_neg c9] at ec; cases ec
    rw [if_pos c9] at ec
    obtain rfl := Option.some.inj ec
    rw [if_neg (show ¬ nI (X.kd (j + 1 + 1)) = (58 : Int32) from fun z => c5 ((nIinj (b := 58) (by rw [show j + 1 + 1 = j + 2 from rfl]; omega) (by omega)).mp z))]
    obtain ⟨h', e, K1⟩ := p52_K (e0 := e0) (x1 := j + 1) (x2 := j + 1) C2 R2 (by omega) l (by omega) hw6 hJ hj1 hj1 k4 k4 c9.1 c9.2 (Nat.le_refl _)
    rw [Nat.sub_self] at K1
    refine ⟨h', uL L z (308, wPk (X.nu (j + 1)) (0 + 1)), z + 1, e, ?_, ⟨rfl, rfl⟩, un _⟩
    have el : loP X j = X.nu (j + 1) := if_neg c5
    rw [if_neg c5, el]
    exact K1
  rw [if_pos c5] at ec
  by_cases c9 : X.kd (j + 3) = 4 ∧ X.kd (j + 4) = 93 ∧ X.nu (j + 1) < w ∧ X.nu (j + 3) ≤ X.nu (j + 1)
  rotate_left
  · rw [if_neg c9] at ec; cases ec
  rw [if_pos c9] at ec
  obtain rfl := Option.some.inj ec
  obtain ⟨k43, c93, n1, n2⟩ := c9
  rw [if_pos (show nI (X.kd (j + 1 + 1)) = (58 : Int32) by rw [show j + 1 + 1 = j + 2 from rfl, c5]; rfl)]
  have hj3 := nxJ hJ (j := j + 2) hj2 (by omega) (by omega)
  have C3 := C2.nx hj3
  have hj4 := nxJ hJ (j := j + 3) hj3 (by omega) (by omega)
  have C4 := C3.nx hj4
  have R4 := (R2.kc (KC9.si _ (o := 3) (k := 7) (nI (j + 1 + 1 + 2)) (by omega))).kc (KC9.si _ (o := 3) (k := 7) (nI (j + 1 + 1 + 1 + 2)) (by omega))
  rw [show f_Tokens_take (mv_si g1 3 7 (nI (j + 1 + 2))) 58 = _ from C2.tk c5, xhb_s, show f_Tokens_take (mv_si (mv_si g1 3 7 (nI (j + 1 + 2))) 3 7 (nI (j + 1 + 1 + 2))) 4 = _ from C3.tk k43, xhb_s]
  obtain ⟨h', e, K1⟩ := p52_K (e0 := e0) (x1 := j + 1) (x2 := j + 3) C4 R4 (by omega) l (by omega) hw6 hJ hj1 hj3 k4 k43 c93 n1 n2
  refine ⟨h', uL L z (308, wPk (X.nu (j + 3)) (X.nu (j + 1) - X.nu (j + 3) + 1)), z + 1, e, ?_, ⟨rfl, rfl⟩, un _⟩
  have el : loP X j = X.nu (j + 3) := if_pos c5
  rw [if_pos c5, el]
  exact K1
/-- wider -/
theorem wid_K {h : mv_H} {j d w : Nat} {m : MkA} {M : List MkA} {H : List Nat} {L : CDq} {z : Nat} {md : MDq} {hd : List DnE} (K : KXq X J P fs h j (d + 1) (m :: M) (w :: H) L e0 z 3 md hd) (hM : M.length < 1000) (hH : H.length < 1000) (hm : m.k = 211 ∨ m.k = 212) (hk : X.kd j = 44) (hJ : X.kd J = 1 ∨ X.kd J = 2) (k4 : X.kd (j + 1) = 4) (c41 : X.kd (j + 2) = 41) (n1' : 1 ≤ X.nu (j + 1)) (n2' : X.nu (j + 1) ≤ 64) (n3' : w ≤ X.nu (j + 1)) : ∃ h' L' z', f_Exprs_widen P h (nI m.k) = some h' ∧ KXq X J P fs h' (j + 3) d M (X.nu (j + 1) :: H) L' e0 z' 3 md.tail (if m.k = 211 then d1 310 (wPk w (X.nu (j + 1))) (hd.headD dN) :: hd.tail else hd) ∧ ∀ i, i < e0 → L' i = L i := by
  obtain ⟨C, R, hz, l⟩ := K
  rw [if_pos rfl] at l
  have l0 := L3.ge l
  have hz' : z + ((if m.k = 63 ∨ m.k = 58 then 0 else 1) + nO M) ≤ j := hz
  rw [if_neg (by omega)] at hz'
  have hl0 : lvq m.k = 0 := by
    unfold lvq
    rw [if_neg (by omega), if_neg (by omega), if_neg (by omega), if_neg (by omega), if_neg (by omega), if_neg (by omega), if_neg (by omega), if_neg (by omega)]
  have l2 := (L3.po0 l (by omega) (by omega) (nHm_n hl0 (by omega) (Or.inr (by omega)))).1
  have hpp := C.pp
  have hjb := C.tb.jb
  have hs := C.sm
  have hsum : sumL (w :: H) = w + sumL H := rfl
  have hj1 := nxJ hJ C.jJ (by omega) (by omega)
  have C1 := C.nx hj1
  have hj2 := nxJ hJ hj1 (by omega) (by omega)
  have C2 := C1.nx hj2
  have hj3 := nxJ hJ (j := j + 2) hj2 (by omega) (by omega)
  obtain ⟨e3, C3⟩ := C2.clK c41 hj3
  have R3 := (((R.kc (KC9.si h (o := 3) (k := 7) (nI (j + 2)) (by omega))).kc (KC9.si _ (o := 3) (k := 7) (nI (j + 1 + 2)) (by omega))).kc (KC9.si _ (o := 3) (k := 8) (nI d) (by omega))).kc (KC9.si _ (o := 3) (k := 7) (nI (j + 1 + 1 + 2)) (by omega))
  have r3 : mv_a (mv_si (mv_si (mv_si (mv_si h 3 7 (nI (j + 2))) 3 7 (nI (j + 1 + 2))) 3 8 (nI d)) 3 7 (nI (j + 1 + 1 + 2))) 25 = mv_a h 25 := rfl
  have e1 : f_Tokens_take h 44 = _ := C.tk hk
  have e2 : f_Tokens_take (mv_si h 3 7 (nI (j + 2))) 4 = _ := C1.tk k4
  unfold f_Exprs_widen f_Exprs_widen_79
  rw [e1, xhb_s, e2, xhb_s, show f_Tokens_close (mv_si (mv_si h 3 7 (nI (j + 2))) 3 7 (nI (j + 1 + 2))) 41 = _ from e3, xhb_s]
  revert C3 R3 r3
  generalize mv_si (mv_si (mv_si (mv_si h 3 7 (nI (j + 2))) 3 7 (nI (j + 1 + 2))) 3 8 (nI d)) 3 7 (nI (j + 1 + 1 + 2)) = g3
  intro C3 R3 r3
  have em : mv_i g3 22 8 - 1 = nI M.length := by rw [C3.ml]; exact nIsub (a := M.length + 1) (b := 1) (by omega) (by omega)
  obtain ⟨e5, C5, w1, w2, w3⟩ := (C3.pop).rel (by omega)
  have R5 := (R3.kc (KC9.si g3 (o := 22) (k := 8) (nI M.length) (by omega))).kc (KC9.si _ (o := 22) (k := 10) (nI H.length) (by omega))
  have r5 : mv_a (mv_si (mv_si g3 22 8 (nI M.length)) 22 10 (nI H.length)) 25 = mv_a h 25 := r3
  rw [em, xk_s, e5, xhb_s, xvi_n (show j + 1 + 1 < 32770 by omega) (by decide), cond_true, cln (show j + 1 + 1 < 2147483648 by omega)]
  have n1 := C5.tb.n (j + 1) hj1 k4
  revert C5 n1 R5 r5
  generalize mv_si (mv_si g3 22 8 (nI M.length)) 22 10 (nI H.length) = g5
  intro C5 R5 r5 n1
  rw [← r5] at l2
  rw [n1.1]
  have hA := n1.2
  have i1 : lg_cmp (nJ (X.nu (j + 1))) (1 : Int64) < 0 ↔ (X.nu (j + 1) < 1 ∨ 9223372036854775808 ≤ X.nu (j + 1)) := lc_lt hA (w := 1) (by omega)
  have i2 : lg_cmp (nJ (X.nu (j + 1))) ((nI w).toInt64) < 0 ↔ (X.nu (j + 1) < w ∨ 9223372036854775808 ≤ X.nu (j + 1)) := by
    rw [xI_l, xi2l_s (by omega)]
    exact lc_lt hA (by omega)
  have i3 : lg_cmp (nJ (X.nu (j + 1))) (64 : Int64) ≤ 0 ↔ X.nu (j + 1) ≤ 64 := lc_le (v := X.nu (j + 1)) (w := 64) (by omega) (by omega)
  rw [if_neg (fun z => by have := i1.mp z; omega), if_neg (fun z => by have := i2.mp z; omega), if_pos (i3.mpr n2')]
  unfold f_Exprs_widen_84 f_Exprs_widen_97
  rw [if_pos rfl]
  have nw : ¬ nI w = (0 : Int32) := fun z => by have := (nIinj (b := 0) (by omega) (by omega)).mp z; omega
  by_cases c4 : m.k = 211
  · obtain ⟨g6, h', e6, e7, K7, -⟩ := KXq.va3 (e0 := e0) (k := 310) (w := X.nu (j + 1)) (y := wPk w (X.nu (j + 1))) (a := wPk w (X.nu (j + 1))) (md := md.tail) (hd := d1 310 (wPk w (X.nu (j + 1))) (hd.headD dN) :: hd.tail) C5 R5 (by omega) (by omega) (by omega) (if_neg (by decide)).symm (by omega) (by omega) (L3.o1 l2 (by omega))
    refine ⟨h', uL L z (310, wPk w (X.nu (j + 1))), z + 1, ?_, by rw [if_pos c4]; exact K7, fun i hi => uL_n L _ (by omega)⟩
    rw [if_pos (show nI m.k = (211 : Int32) by rw [c4]; rfl), orW2 (by omega) (by omega), show (310 : Int32) = nI 310 from rfl, e6, xhb_s]
    unfold f_Exprs_widen_123 f_Exprs_widen_140
    rw [if_pos rfl, if_neg nw, nJi (by omega), e7, xhv_s]
  · obtain ⟨e7, C7, k7, r7⟩ := C5.hoK (w := X.nu (j + 1)) (by omega) (by omega) (by omega)
    refine ⟨mv_si (mv_sa g5 27 H.length (nI (X.nu (j + 1)))) 22 10 (nI (H.length + 1)), L, z, ?_, ?_, fun _ _ => rfl⟩
    rotate_left
    · rw [if_neg c4]
      refine ⟨C7, R5.kc k7, by omega, ?_⟩
      rw [if_pos rfl, r7]
      exact l2
    · rw [if_neg (show ¬ nI m.k = (211 : Int32) from fun q => c4 ((nIinj (b := 211) (by omega) (by omega)).mp q))]
      unfold f_Exprs_widen_123 f_Exprs_widen_140
      rw [if_pos rfl, if_neg nw, nJi (by omega), e7, xhv_s]
end PWJ
