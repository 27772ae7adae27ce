/-! an operand, on good roads -/
theorem nHm_n {m : MkA} (h1 : lvq m.k = 0) (h2 : ¬ m.k = 58) (h3 : m.c = 0 ∨ (¬ m.k = 123 ∧ ¬ (213 ≤ m.k ∧ m.k ≤ 216))) : ¬ nHm m = 1 := by
  unfold nHm
  rw [if_neg (by omega), if_neg (by omega)]
  decide
theorem nHm_bb {m : MkA} (h1 : 0 < lvq m.k) : nHm m = 1 := by
  unfold nHm
  rw [if_pos (Or.inl h1)]
theorem nHm_c {m : MkA} (h3 : ¬ m.c = 0 ∧ (m.k = 123 ∨ (213 ≤ m.k ∧ m.k ≤ 216))) : nHm m = 1 := by
  unfold nHm
  split
  · rfl
  · rw [if_pos ⟨h3.2, h3.1⟩]
section OPK
variable {X : TX} {J P : Nat} {fs : Nat → Nat} {h : mv_H} {j d : Nat} {M : List MkA} {H : List Nat} {L : CDq} {e0 z : Nat} {md : MDq} {hd : List DnE}
theorem CXq.mkK (C : CXq X J P h j d M H) (hM : M.length ≤ 1000) {k t : Nat} (hk : k < 400) (hk2 : ¬ k = 91 ∧ ¬ k = 63 ∧ ¬ k = 58) (ht : t < 32770) : ∃ h1, f_Exprs_mark h (nI k) (nI t) = some h1 ∧ CXq X J P h1 j d (⟨k, 0, 0⟩ :: M) H ∧ KC9 P h h1 ∧ ∀ i, i < M.length → mv_a h1 25 i = mv_a h 25 i := by
  have hpp := C.pp
  obtain ⟨e, C1⟩ := C.mark hM hk hk2 ht
  refine ⟨_, e, C1, (((KC9.sa h _ (by omega)).tr (KC9.sa _ _ (by omega))).tr (KC9.sa _ _ (by omega))).tr (KC9.si _ _ (by omega)), fun i hi => ?_⟩
  show mv_u (mv_u (mv_u (mv_a h) 23 M.length (nI k)) 24 M.length (nI t)) 25 M.length 0 25 i = _
  rw [mv_u_ne _ _ (by omega), mv_u_ne _ _ (by omega), mv_u_ne _ _ (by omega)]
theorem sgn_K (K : KXq X J P fs h j d M H L e0 z 2 md hd) (hM : M.length ≤ 1000) (hJ : X.kd J = 1 ∨ X.kd J = 2) {k mk : Nat} (hk : X.kd j = k) (hk1 : ¬ k = 1 ∧ ¬ k = 2) (hd6 : d < 60) (hmk : mk < 400) (hm2 : ¬ mk = 91 ∧ ¬ mk = 63 ∧ ¬ mk = 58) (hn : ¬ nHm (MkA.mk mk 0 0) = 1) : ∃ h', (xhb (f_Tokens_open h (nI k)) fun v g => xhv (f_Exprs_mark g (nI mk) v) fun g' => (some ((0 : Int32), g') : Option (Int32 × mv_H))) = some (0, h') ∧ KXq X J P fs h' (j + 1) (d + 1) (MkA.mk mk 0 0 :: M) H L e0 z 2 ((dN, 0) :: md) hd := by
  obtain ⟨C, R, hz, l⟩ := K
  rw [if_neg (by decide)] at l
  have hpp := C.pp
  have hb := C.jb
  have hj1 := nxJ hJ C.jJ (by omega) (by omega)
  obtain ⟨e1, C1⟩ := C.opK hk hd6 hj1
  obtain ⟨h2, e2, C2, k2, r2⟩ := C1.mkK hM (k := mk) (t := j + 1) hmk hm2 (by omega)
  rw [e1, xhb_s, e2, xhv_s]
  refine ⟨h2, rfl, C2, (R.kc ((KC9.si h _ (by omega)).tr (KC9.si _ _ (by omega)))).kc k2, ?_, ?_⟩
  · show z + ((if mk = 63 ∨ mk = 58 then 0 else 1) + nO M) ≤ j + 1
    rw [if_neg (by omega)]; omega
  · rw [if_neg (by decide)]
    exact LEM.mk0 0 l hm2.2.1 hm2.2.2 hn (fun q => absurd q hm2.1) r2
theorem lit_K (K : KXq X J P fs h j d M H L e0 z 2 md hd) (hH : H.length < 1024) (hJ : X.kd J = 1 ∨ X.kd J = 2) (hk : X.kd j = 4) (cc : X.kd (j + 1) = 39 ∧ X.kd (j + 2) = 4 ∧ 1 ≤ X.nu j ∧ X.nu j ≤ 64 ∧ X.nu (j + 2) < 2 ^ X.nu j) : ∃ h', f_Exprs_literal P h = some h' ∧ KXq X J P fs h' (j + 3) d M (X.nu j :: H) (uL L z (300, nJ (X.nu (j + 2)))) e0 (z + 1) 3 md (dLit (nJ (X.nu (j + 2))) :: hd) := by
  obtain ⟨C, R, hz, l⟩ := K
  rw [if_neg (by decide)] at l
  obtain ⟨k39, k4, n1, n2, n3⟩ := cc
  have hpp := C.pp
  have hb := C.jb
  have hs := C.sm
  have hj1 := nxJ hJ C.jJ (by omega) (by omega)
  have C1 := C.nx hj1
  have hA := C.tb.n j C.jJ hk
  have hj2 := nxJ hJ hj1 (by omega) (by omega)
  have C2 := C1.nx hj2
  have hj3 := nxJ hJ (j := j + 2) hj2 (by omega) (by omega)
  have C3 := C2.nx hj3
  have hB := C.tb.n (j + 2) hj2 k4
  have eA : mv_b (mv_si (mv_si (mv_si h 3 7 (nI (j + 2))) 3 7 (nI (j + 1 + 2))) 3 7 (nI (j + 1 + 1 + 2))) 6 (j + 1) = nJ (X.nu j) := hA.1
  have eB : mv_b (mv_si (mv_si (mv_si h 3 7 (nI (j + 2))) 3 7 (nI (j + 1 + 2))) 3 7 (nI (j + 1 + 1 + 2))) 6 (j + 1 + 1 + 1) = nJ (X.nu (j + 2)) := hB.1
  obtain ⟨g1, h', e1, e2, K2, -, -⟩ := KXq.val (k := 300) (w := X.nu j) (y := nJ (X.nu (j + 2))) (a := nJ (X.nu (j + 2))) (D := dLit (nJ (X.nu (j + 2)))) (md := md) (hd := hd) (e0 := e0) C3 (R.kc (((KC9.si h _ (by omega)).tr (KC9.si _ _ (by omega))).tr (KC9.si _ _ (by omega)))) (by omega) l hH (by omega) (if_neg (by decide)).symm (by omega) (by omega) (fun L' e => SgE.lit e)
  refine ⟨h', ?_, K2⟩
  unfold f_Exprs_literal
  rw [show f_Tokens_take h 4 = _ from C.tk hk, xhb_s, show f_Tokens_take (mv_si h 3 7 (nI (j + 2))) 39 = _ from C1.tk k39, xhb_s, show f_Tokens_take (mv_si (mv_si h 3 7 (nI (j + 2))) 3 7 (nI (j + 1 + 2))) 4 = _ from C2.tk k4, xhb_s, xvi_n (show j + 1 < 32770 by omega) (by decide), cond_true, xvi_n (show j + 1 + 1 + 1 < 32770 by omega) (by decide), cond_true, cln (show j + 1 < 2147483648 by omega), cln (show j + 1 + 1 + 1 < 2147483648 by omega), eA, eB, show (300 : Int32) = nI 300 from rfl, e1, xhb_s]
  have c1 : lg_cmp (nJ (X.nu j)) (1 : Int64) < 0 ↔ (X.nu j < 1 ∨ 9223372036854775808 ≤ X.nu j) := lc_lt hA.2 (w := 1) (by omega)
  have c2 : lg_cmp (nJ (X.nu j)) (64 : Int64) ≤ 0 ↔ X.nu j ≤ 64 := lc_le (v := X.nu j) (w := 64) (by omega) (by omega)
  rw [if_neg (fun q => by have := c1.mp q; omega), if_pos (c2.mpr n2), nJi (by omega), mskL (by omega) n2, xhb_s, if_pos ((msk_0 hB.2 n2).mpr n3), e2, xhv_s]
theorem nam_K {o : OuA} {lz : LZ} {Cd : List Nat} (K : KXq X J P fs h j d M H L e0 z 2 md hd) (hM : M.length ≤ 1000) (hH : H.length < 1024) (hJ : X.kd J = 1 ∨ X.kd J = 2) (hk : X.kd j = 3) (h36 : mv_i h 3 6 = nI (J + 2)) (V : NVk X P fs h o.lk lz Cd j) {c : CfA} (ec : (if (o.lk (X.nm j)).1 = 2 ∧ X.kd (j + 1) = 91 then (if d < 60 then some (CfA.mk 2 (j + 2) (d + 1) (MkA.mk 91 (o.lk (X.nm j)).2 0 :: M) H o) else none) else if (o.lk (X.nm j)).1 = 3 ∨ (o.lk (X.nm j)).1 = 1 then some (CfA.mk 3 (j + 1) d M ((o.lk (X.nm j)).2 :: H) o) else none) = some c) : ∃ v h' L' z', f_Exprs_name P h = some (v, h') ∧ xzb v = true ∧ (if (o.lk (X.nm j)).1 = 2 ∧ X.kd (j + 1) = 91 then KXq X J P fs h' c.j c.d c.M c.H L' e0 z' c.md ((dN, lz (X.nm j)) :: md) hd else KXq X J P fs h' c.j c.d c.M c.H L' e0 z' c.md md (dNm Cd (o.lk (X.nm j)).1 (lz (X.nm j)) :: hd)) ∧ ∀ i, i < e0 → L' i = L i := by
  obtain ⟨C, R, hz, l⟩ := K
  rw [if_neg (by decide)] at l
  have he0 := l.le
  have hb := C.jb
  have hpp := C.pp
  have hjb := C.tb.jb
  have hj1 := nxJ hJ C.jJ (by omega) (by omega)
  have C1 := C.nx hj1
  have R1 := R.kc (KC9.si h (o := 3) (k := 7) (nI (j + 2)) (by omega))
  have hkb : f_Tokens_kindBehind h = some (nI (X.kd (j + 1)), h) := by
    unfold f_Tokens_kindBehind
    rw [h36, C.at', nI1 (by omega), if_neg (fun z => by have := (nIle (by omega) (by omega)).mp z; omega), xvi_n (by omega) (by decide), cond_true, cln (by omega), (C.tb.k (j + 1) hj1).1]
  have hk1 := (C.tb.k (j + 1) hj1).2
  obtain ⟨sy, lt, v1, v2, v3, v4, v5⟩ := V
  have e17 : (if nI (X.kd (j + 1)) = (91 : Int32) then f_Exprs_name_17 P 1 h else f_Exprs_name_17 P 0 h) = f_Exprs_name_17 P (b01 (decide (X.kd (j + 1) = 91))) h := by
    by_cases z : X.kd (j + 1) = 91
    · rw [if_pos (by rw [z]; rfl), decide_eq_true z]; rfl
    · rw [if_neg (show ¬ nI (X.kd (j + 1)) = (91 : Int32) from fun y => z ((nIinj (b := 91) (by omega) (by omega)).mp y)), decide_eq_false z]; rfl
  have eb : mv_b (mv_si h 3 7 (nI (j + 2))) 6 (j + 1) = nJ sy := v1
  have el : f_Symbols_letter (mv_si h 3 7 (nI (j + 2))) (nI sy) = some (nI lt, mv_si h 3 7 (nI (j + 2))) := v4 _ rfl rfl
  have ek : f_Names_kindOf (mv_si h 3 7 (nI (j + 2))) (nI sy) = some ((if mv_a h 17 lt ≤ 0 then mv_a h 14 sy else 4), mv_si h 3 7 (nI (j + 2))) := by
    unfold f_Names_kindOf
    rw [el, xhb_s, xvi_n v3 (by decide), cond_true, cln (by omega), xvi_n (show sy < 16448 by omega) (by decide), cond_true, cln (by omega)]
    show (if mv_a h 17 lt ≤ 0 then some (mv_a h 14 sy, _) else some (4, _)) = _
    split <;> rfl
  have e15 : mv_a (mv_si h 3 7 (nI (j + 2))) 15 sy = mv_a h 15 sy := rfl
  have e0n : f_Exprs_name P h = (if (if mv_a h 17 lt ≤ 0 then mv_a h 14 sy else 4) = (2 : Int32) then (if b01 (decide (X.kd (j + 1) = 91)) = (0 : Int32) then f_Exprs_name_99 P (nI (j + 1)) (nI sy) (if mv_a h 17 lt ≤ 0 then mv_a h 14 sy else 4) (mv_a h 15 sy) (mv_si h 3 7 (nI (j + 2))) else xhb (f_Tokens_open (mv_si h 3 7 (nI (j + 2))) (91 : Int32)) fun v27 g26 => xhv (f_Exprs_mark g26 (91 : Int32) v27) fun g28 => bif xvi ((mv_i g28 22 8) - (1 : Int32)) 1024 then xk (mv_sa g28 25 (((mv_i g28 22 8) - (1 : Int32))).toNatClampNeg (mv_a h 15 sy)) fun g30 => bif xzb (0 : Int32) then some ((0 : Int32), g30) else none else none) else f_Exprs_name_99 P (nI (j + 1)) (nI sy) (if mv_a h 17 lt ≤ 0 then mv_a h 14 sy else 4) (mv_a h 15 sy) (mv_si h 3 7 (nI (j + 2)))) := by
    unfold f_Exprs_name
    rw [hkb, xhb_s, e17]
    unfold f_Exprs_name_17
    rw [show f_Tokens_take h 3 = _ from C.tk hk, xhb_s, xvi_n (show j + 1 < 32770 by omega) (by decide), cond_true, cln (by omega), eb, nJi (by omega), ek, xhb_s, xvi_n (show sy < 16448 by omega) (by decide), cond_true, cln (show sy < 2147483648 by omega), e15]
  rw [e0n]
  have hs0 := C.sm
  have lr : LEM L (mv_a (mv_si h 3 7 (nI (j + 2))) 25) e0 M md hd z := l
  have un : ∀ (x : Nat × Int64) i, i < e0 → uL L z x i = L i := fun x i q => uL_n L x (by omega)
  rcases v5 with ⟨w17, w, cl, w1, w2, w3, w4, w5, w6⟩ | ⟨w17, w64, v5⟩
  · -- a letter
    rw [w1, if_neg (by simp), if_pos (by simp)] at ec
    obtain rfl := Option.some.inj ec
    rw [if_neg w17, if_neg (show ¬ (4 : Int32) = 2 by decide), w1]
    unfold f_Exprs_name_99
    have em : f_Names_maskOf (mv_si h 3 7 (nI (j + 2))) (nI sy) = some (nJ (mskC Cd cl), mv_si h 3 7 (nI (j + 2))) := by
      unfold f_Names_maskOf
      rw [el, xhb_s, xvi_n v3 (by decide), cond_true, cln (by omega)]
      show some (mv_b h 18 lt, _) = _
      rw [w6]
    obtain ⟨g1, h', e1, e2, K2, -, -⟩ := KXq.val (k := 301) (w := w) (y := nJ (mskC Cd cl)) (a := nJ (mskC Cd cl)) (D := dFld (nJ (mskC Cd cl))) C1 R1 (by omega) lr hH (by omega) (if_neg (by decide)).symm w2 (by omega) (fun L' e => SgE.fld e)
    rw [w6] at w4
    refine ⟨1, h', uL L z (301, nJ (mskC Cd cl)), z + 1, ?_, rfl, ?_, un _⟩
    · rw [if_pos rfl, em, xhb_s, show (301 : Int32) = nI 301 from rfl, e1, xhb_s, w4, xhb_s, e2, xhv_s]
      rfl
    · have eD : dNm Cd (3, w).1 (lz (X.nm j)) = dFld (nJ (mskC Cd cl)) := by
        unfold dNm
        rw [w5, if_neg (show ¬ 3 = 1 by omega), if_neg (by omega), Nat.add_sub_cancel_left]
      rw [if_neg (fun q => absurd (show 3 = 2 from q.1) (by omega)), eD]
      exact K2
  rw [if_pos w17]
  rcases v5 with ⟨u1, u2⟩ | ⟨v, w, u1, u2, u3, u5, u6, u7, u8, u9, u10, u11⟩ | ⟨w, u2, u3, u5, u6, u7, u8⟩
  · rw [if_neg (by omega), if_neg (by omega)] at ec; cases ec
  · rw [u6] at ec ⊢
    rw [u2, u3]
    rcases u1 with e | e
    · -- a register
      subst e
      rw [if_neg (by simp), if_pos (by simp)] at ec
      obtain rfl := Option.some.inj ec
      rw [if_neg (show ¬ nI 1 = (2 : Int32) by decide)]
      unfold f_Exprs_name_99
      obtain ⟨g1, h', e1, e2, K2, a1, -⟩ := KXq.val (k := 303) (w := w) (y := nJ (fs (lz (X.nm j)))) (a := nJ (lz (X.nm j))) (D := dReg (lz (X.nm j))) C1 R1 (by omega) lr hH (by omega) (by rw [if_pos rfl, tI_n (by omega)]) u7 (by omega) (fun L' e => SgE.rg (by omega) e) (fun _ => ⟨lz (X.nm j), rfl, by omega, u11⟩)
      have e3 : (mv_a (mv_si h 3 7 (nI (j + 2))) (P + 3) (lz (X.nm j))).toInt64 = nJ (fs (lz (X.nm j))) := by
        show (mv_a h (P + 3) (lz (X.nm j))).toInt64 = _
        rw [u9, xI_l, xi2l_s (by omega)]
      have ew : mv_a g1 (P + 1) (lz (X.nm j)) = nI w := by rw [a1 (P + 1) (by omega)]; exact u5
      refine ⟨1, h', uL L z (303, nJ (lz (X.nm j))), z + 1, ?_, rfl, by rw [if_neg (fun q => absurd (show 1 = 2 from q.1) (by omega))]; exact K2, un _⟩
      rw [if_neg (show ¬ nI 1 = (4 : Int32) by decide), if_neg (show ¬ nI 1 = (3 : Int32) by decide), if_pos (show nI 1 = (1 : Int32) from rfl), xvi_n w64 (by decide), cond_true, cln (by omega), e3, show (303 : Int32) = nI 303 from rfl, e1, xhb_s, cond_true, ew, e2, xhv_s]
      rfl
    · -- a file
      subst e
      rw [if_pos (show nI 2 = (2 : Int32) from rfl)]
      by_cases k91 : X.kd (j + 1) = 91
      rotate_left
      · rw [if_neg (fun q => k91 q.2), if_neg (by simp)] at ec; cases ec
      rw [if_pos ⟨rfl, k91⟩] at ec
      by_cases d60 : d < 60
      rotate_left
      · rw [if_neg d60] at ec; cases ec
      rw [if_pos d60] at ec
      obtain rfl := Option.some.inj ec
      rw [decide_eq_true k91, if_neg (show ¬ b01 true = 0 by decide)]
      have hj2 := nxJ hJ hj1 (by omega) (by omega)
      obtain ⟨e2, C2⟩ := C1.opK k91 d60 hj2
      obtain ⟨h3, e3, i3, m3, a3, b3, l3, r23, r24, r25⟩ := C2.mk0 hM (nI 91) (nI (j + 1 + 1))
      have em : mv_i h3 22 8 - 1 = nI M.length := by rw [m3]; exact nIsub (a := M.length + 1) (b := 1) (by omega) (by omega)
      refine ⟨0, mv_sa h3 25 M.length (nI (lz (X.nm j))), L, z, ?_, rfl, ?_, fun _ _ => rfl⟩
      rotate_left
      · rw [if_pos ⟨rfl, k91⟩]
        refine ⟨?_, ?_, ?_, ?_⟩
        · have s25 : ∀ r i, mv_a (mv_sa h3 25 M.length (nI (lz (X.nm j)))) r i = if r = 25 ∧ i = M.length then nI (lz (X.nm j)) else mv_a h3 r i := fun _ _ => rfl
          refine C2.push (c := w) (t := j + 1 + 1) i3 m3 (fun r hr => ?_) (congrFun b3 6) (fun r i h1 h2' hi => ?_) (by omega) u8 ?_ ?_ (by omega) (fun z => by omega) (fun _ => ⟨lz (X.nm j), ?_, w64, ?_⟩) (fun z => by omega)
          · funext i
            rw [s25, if_neg (by omega), a3 r (by omega)]
          · rw [s25, if_neg (by omega)]; exact l3 r i (by omega)
          · rw [s25, if_neg (by omega)]; exact r23
          · rw [s25, if_neg (by omega)]; exact r24
          · rw [s25, if_pos ⟨rfl, rfl⟩]
          · exact u5
        · have k3 : KC9 P (mv_si (mv_si (mv_si h 3 7 (nI (j + 2))) 3 8 (nI (d + 1))) 3 7 (nI (j + 1 + 2))) h3 := ⟨i3 P 17 (by omega), a3 (P + 9) (by omega), congrFun b3 (P + 10)⟩
          exact (((R1.kc (KC9.si _ _ (by omega))).kc (KC9.si _ _ (by omega))).kc k3).kc (KC9.sa _ _ (by omega))
        · show z + ((if 91 = 63 ∨ 91 = 58 then 0 else 1) + nO M) ≤ j + 2
          rw [if_neg (by omega)]; omega
        · rw [if_neg (show ¬ 2 = 3 by omega)]
          refine LEM.mk0 (lz (X.nm j)) lr (by show ¬ 91 = 63; omega) (by show ¬ 91 = 58; omega) (nHm_n (m := MkA.mk 91 w 0) rfl (by show ¬ 91 = 58; omega) (Or.inr (by show ¬ 91 = 123 ∧ ¬ (213 ≤ 91 ∧ 91 ≤ 216); omega))) (fun _ => ⟨mv_u_same _ _ _ _, w64⟩) (fun i hi => ?_)
          show mv_u (mv_a h3) 25 M.length (nI (lz (X.nm j))) 25 i = _
          rw [mv_u_ne _ _ (by omega), l3 25 i (by omega)]
          rfl
      · rw [show (91 : Int32) = nI 91 from rfl, e2, xhb_s, e3, xhv_s, em, xvi_n (show M.length < 1024 by omega) (by decide), cond_true, xk_s, xz0, cond_true, cln (by omega)]
  · -- a let
    rw [u6] at ec ⊢
    rw [if_neg (by simp), if_pos (by simp)] at ec
    obtain rfl := Option.some.inj ec
    rw [u2, u3, if_neg (show ¬ (3 : Int32) = 2 by decide)]
    unfold f_Exprs_name_99
    obtain ⟨g1, h', e1, e2, K2, a1, -⟩ := KXq.val (k := 302) (w := w) (y := nJ (lz (X.nm j))) (a := nJ (lz (X.nm j))) (D := dLet (lz (X.nm j))) C1 R1 (by omega) lr hH (by omega) (if_neg (by decide)).symm u7 (by omega) (fun L' e => SgE.lt' (by omega) e)
    have ew : mv_a g1 20 (lz (X.nm j)) = nI w := by rw [a1 20 (by omega)]; exact u5
    refine ⟨1, h', uL L z (302, nJ (lz (X.nm j))), z + 1, ?_, rfl, ?_, un _⟩
    · rw [if_neg (show ¬ (3 : Int32) = 4 by decide), if_pos rfl, show (302 : Int32) = nI 302 from rfl, xI_l, xi2l_s (by omega), e1, xhb_s, xvi_n w64 (by decide), cond_true, cln (by omega), ew, e2, xhv_s]
      rfl
    · have eD : dNm Cd (3, w).1 (lz (X.nm j)) = dLet (lz (X.nm j)) := by
        unfold dNm
        rw [if_neg (show ¬ 3 = 1 by omega), if_pos w64]
      rw [if_neg (fun q => absurd (show 3 = 2 from q.1) (by omega)), eD]
      exact K2
end OPK
