/-! goOn, on good roads -/
section GOK
variable {X : TX} {J P : Nat} {fs : Nat → Nat} {e0 : Nat}
theorem goo_K {h : mv_H} {j d : Nat} {m : MkA} {M : List MkA} {H : List Nat} {o : OuA} {L : CDq} {z : Nat} {md : MDq} {hd : List DnE} (K : KXq X J P fs h j d (m :: M) H L e0 z 3 md hd) (hL : H.length = nH (m :: M) + 1) (hM : M.length < 1000) (hH : nH (m :: M) < 1000) (hd9 : nD (m :: M) ≤ d) (h91 : m.k = 91 → 0 < m.c) (hc : m.k = 123 → m.c < 40000) (hJ : X.kd J = 1 ∨ X.kd J = 2) {c : CfA} (ec : aGo X m j d M H o = some c) : ∃ v h' L' z', f_Exprs_goOn P h (nI (X.kd j)) = some (v, h') ∧ KXq X J P fs h' c.j c.d c.M c.H L' e0 z' c.md (kGo X m j H md hd).1 (kGo X m j H md hd).2 ∧ ∀ i, i < e0 → L' i = L i := by
  have C := K.1
  have hpp := C.pp
  have p9 : ¬ 25 = P + 9 := by omega
  have p17 : ¬ (3 = P ∧ 7 = 17) := by omega
  have p18 : ¬ (3 = P ∧ 8 = 17) := by omega
  have p22 : ¬ (22 = P ∧ 8 = 17) := by omega
  have l := K.2.2.2
  rw [if_pos rfl] at l
  have hz : z + ((if m.k = 63 ∨ m.k = 58 then 0 else 1) + nO M) ≤ j := K.2.2.1
  have R := K.2.1
  have l0 := L3.ge l
  have hkd := (C.tb.k j C.jJ).2
  have q1 := C.mr.1.1
  have q2 := C.mr.1.2.1
  have q3 : m.c ≤ 40000 := C.mr.1.2.2.1
  have q6 := C.mr.1.2.2.2.2.1
  have b1 : nH (m :: M) = nHm m + nH M := rfl
  have b0 : nD (m :: M) = nDm m + nD M := rfl
  have em : mv_i h 22 8 - 1 = nI M.length := by rw [C.ml]; exact nIsub (a := M.length + 1) (b := 1) (by omega) (by omega)
  have tk : ∀ n, n < 400 → (nI (X.kd j) = nI n ↔ X.kd j = n) := fun n hn => nIinj (by omega) (by omega)
  have tm : ∀ n, n < 400 → (nI m.k = nI n ↔ m.k = n) := fun n hn => nIinj (by omega) (by omega)
  cases H with
  | nil => exact absurd hL (by rw [List.length_nil]; omega)
  | cons w H =>
  rw [List.length_cons] at hL
  have eGo : aGo X m j d M (w :: H) o = if m.k = 63 ∧ X.kd j = 58 then some (CfA.mk 2 (j + 1) d (MkA.mk 58 0 m.q :: M) (w :: H) o)
    else if m.k = 123 ∧ (X.kd j = 44 ∨ X.kd j = 125) then
      (if X.kd j = 44 then some (CfA.mk 2 (j + 1) d (MkA.mk 123 (m.c + 1) 0 :: M) (if m.c = 0 then w :: H else ((w :: H).tail.headD 0 + (w :: H).headD 0) :: (w :: H).tail.tail) o)
       else if (if m.c = 0 then (w :: H).headD 0 else (w :: H).tail.headD 0 + (w :: H).headD 0) ≤ 64 then some (CfA.mk 3 (j + 1) (d - 1) M (if m.c = 0 then w :: H else ((w :: H).tail.headD 0 + (w :: H).headD 0) :: (w :: H).tail.tail) o) else none)
    else if m.k = 91 ∧ X.kd j = 93 then some (CfA.mk 3 (j + 1) (d - 1) M (m.c :: H) o)
    else if m.k = 40 ∧ X.kd j = 41 then some (CfA.mk 3 (j + 1) (d - 1) M (w :: H) o)
    else if (m.k = 211 ∨ m.k = 212) ∧ X.kd j = 44 then
      (if X.kd (j + 1) = 4 ∧ X.kd (j + 2) = 41 ∧ 1 ≤ X.nu (j + 1) ∧ X.nu (j + 1) ≤ 64 ∧ w ≤ X.nu (j + 1) then some (CfA.mk 3 (j + 3) (d - 1) M (X.nu (j + 1) :: H) o) else none)
    else if (213 ≤ m.k ∧ m.k ≤ 216) ∧ X.kd j = 44 ∧ m.c = 0 then some (CfA.mk 2 (j + 1) d (MkA.mk m.k 1 0 :: M) (w :: H) o)
    else if (213 ≤ m.k ∧ m.k ≤ 216) ∧ X.kd j = 41 ∧ ¬ m.c = 0 then (tw m.k (H.headD 0) w).bind fun z => some (CfA.mk 3 (j + 1) (d - 1) M (z :: H.tail) o)
    else none := rfl
  rw [eGo] at ec
  have e31 : ∃ x3 : Int32, ((213 ≤ m.k ∧ m.k ≤ 216) → (x3 = 0 ↔ ¬ m.c = 0)) ∧ f_Exprs_goOn P h (nI (X.kd j)) = f_Exprs_goOn_31 P (nI (X.kd j)) (nI m.k) x3 h := by
    unfold f_Exprs_goOn
    rw [em, xvi_n (by omega) (by decide), cond_true, cond_true, cln (by omega), q1]
    by_cases c : mv_a h 25 M.length = 0
    · rw [if_pos c]
      refine ⟨1, fun w => ⟨fun z => absurd z (by decide), fun z => absurd ?_ z⟩, rfl⟩
      rw [q6 (Or.inr ⟨by omega, by omega⟩)] at c
      exact (nIinj (b := 0) (by omega) (by omega)).mp c
    · rw [if_neg c]
      refine ⟨0, fun w => ⟨fun _ y => c ?_, fun _ => rfl⟩, rfl⟩
      rw [q6 (Or.inr ⟨by omega, by omega⟩), y]; rfl
  obtain ⟨x3, hx, e31⟩ := e31
  rw [e31]
  by_cases cA : m.k = 63 ∧ X.kd j = 58
  · rw [if_pos cA] at ec
    obtain rfl := Option.some.inj ec
    obtain ⟨h', L', e1, K1, hL1⟩ := oth_K K hM cA.1 cA.2 hJ
    refine ⟨0, h', L', z + 1, ?_, ?_, hL1⟩
    · unfold f_Exprs_goOn_31
      rw [if_pos (show nI m.k = 63 by rw [cA.1]; rfl), if_pos (show nI (X.kd j) = 58 by rw [cA.2]; rfl), e1, xhv_s]
    · have ek : kGo X m j (w :: H) md hd = (md, hd) := if_pos cA.1
      rw [ek]
      exact K1
  rw [if_neg cA] at ec
  have e50 : f_Exprs_goOn_31 P (nI (X.kd j)) (nI m.k) x3 h = f_Exprs_goOn_50 P (nI (X.kd j)) (nI m.k) x3 h := by
    unfold f_Exprs_goOn_31
    by_cases c1 : m.k = 63
    · rw [if_pos (show nI m.k = 63 by rw [c1]; rfl), if_neg (show ¬ nI (X.kd j) = 58 from fun z => cA ⟨c1, (tk 58 (by omega)).mp z⟩)]
    · rw [if_neg (show ¬ nI m.k = 63 from fun z => c1 ((tm 63 (by omega)).mp z))]
  rw [e50]
  by_cases cB : m.k = 123 ∧ (X.kd j = 44 ∨ X.kd j = 125)
  · rw [if_pos cB] at ec
    have b3 := nDm_k (m := m) (by omega)
    obtain ⟨e, rfl⟩ : ∃ e, d = e + 1 := ⟨d - 1, by omega⟩
    obtain ⟨v, h', L', z', e1, K1, hL1⟩ := joi_K K (by rw [List.length_cons]; omega) hM hH cB.1 (hc cB.1) hJ ec cB.2
    refine ⟨v, h', L', z', ?_, ?_, hL1⟩
    · unfold f_Exprs_goOn_50 f_Exprs_goOn_68
      rw [if_pos (show nI m.k = 123 by rw [cB.1]; rfl)]
      by_cases c2 : X.kd j = 44
      · rw [if_pos (show nI (X.kd j) = 44 by rw [c2]; rfl), e1, xhb_s]
      · rw [if_neg (show ¬ nI (X.kd j) = 44 from fun z => c2 ((tk 44 (by omega)).mp z)), if_pos (show nI (X.kd j) = 125 by rw [show X.kd j = 125 by omega]; rfl), e1, xhb_s]
    · have ek : kGo X m j (w :: H) md hd = (if X.kd j = 44 then md else md.tail, if m.c = 0 then hd else d2 309 (nJ ((w :: H).headD 0)) (hd.tail.headD dN) (hd.headD dN) :: hd.tail.tail) := by
        unfold kGo
        rw [if_neg (by omega), if_pos cB.1]
      rw [ek]
      exact K1
  rw [if_neg cB] at ec
  have e74 : f_Exprs_goOn_50 P (nI (X.kd j)) (nI m.k) x3 h = f_Exprs_goOn_74 P (nI (X.kd j)) (nI m.k) x3 h := by
    unfold f_Exprs_goOn_50
    by_cases c1 : m.k = 123
    · rw [if_pos (show nI m.k = 123 by rw [c1]; rfl), if_neg (show ¬ nI (X.kd j) = 44 from fun z => cB ⟨c1, Or.inl ((tk 44 (by omega)).mp z)⟩), if_neg (show ¬ nI (X.kd j) = 125 from fun z => cB ⟨c1, Or.inr ((tk 125 (by omega)).mp z)⟩)]
    · rw [if_neg (show ¬ nI m.k = 123 from fun z => c1 ((tm 123 (by omega)).mp z))]
  rw [e74]
  by_cases cC : m.k = 91 ∧ X.kd j = 93
  · rw [if_pos cC] at ec
    have b3 := nDm_k (m := m) (by omega)
    obtain ⟨e, rfl⟩ : ∃ e, d = e + 1 := ⟨d - 1, by omega⟩
    obtain rfl := Option.some.inj ec
    obtain ⟨h', e1, K1⟩ := cel_K K hM (by omega) (h91 cC.1) cC.1 cC.2 hJ
    refine ⟨1, h', uL L z (304, nJ (md.headD (dN, 0)).2), z + 1, ?_, ?_, fun i hi => uL_n L _ (by omega)⟩
    · unfold f_Exprs_goOn_74 f_Exprs_goOn_272
      rw [if_pos (show nI m.k = 91 by rw [cC.1]; rfl), if_pos (show nI (X.kd j) = 93 by rw [cC.2]; rfl), e1, xhv_s]
    · have ek : kGo X m j (w :: H) md hd = (md.tail, dCel (md.headD (dN, 0)).2 (hd.headD dN) :: hd.tail) := by
        unfold kGo
        rw [if_neg (by omega), if_neg (by omega), if_pos cC.1]
      rw [ek]
      exact K1
  rw [if_neg cC] at ec
  have e93 : f_Exprs_goOn_74 P (nI (X.kd j)) (nI m.k) x3 h = f_Exprs_goOn_93 P (nI (X.kd j)) (nI m.k) x3 h := by
    unfold f_Exprs_goOn_74
    by_cases c1 : m.k = 91
    · rw [if_pos (show nI m.k = 91 by rw [c1]; rfl), if_neg (show ¬ nI (X.kd j) = 93 from fun z => cC ⟨c1, (tk 93 (by omega)).mp z⟩)]
    · rw [if_neg (show ¬ nI m.k = 91 from fun z => c1 ((tm 91 (by omega)).mp z))]
  rw [e93]
  by_cases cD : m.k = 40 ∧ X.kd j = 41
  · rw [if_pos cD] at ec
    have b3 := nDm_k (m := m) (by omega)
    obtain ⟨e, rfl⟩ : ∃ e, d = e + 1 := ⟨d - 1, by omega⟩
    obtain rfl := Option.some.inj ec
    have hj1 := nxJ hJ C.jJ (by omega) (by omega)
    obtain ⟨e1, C1⟩ := C.clK cD.2 hj1
    have k1 := (KC9.si h (o := 3) (k := 8) (nI e) p18).tr (KC9.si _ (o := 3) (k := 7) (nI (j + 2)) p17)
    have r1 : mv_a (mv_si (mv_si h 3 8 (nI e)) 3 7 (nI (j + 2))) = mv_a h := rfl
    have l2 := (L3.po0 l (by omega) (by omega) (nHm_n (by rw [cD.1]; rfl) (by omega) (Or.inr (by omega)))).1
    rw [if_neg (by omega)] at hz
    unfold f_Exprs_goOn_93 f_Exprs_goOn_272
    rw [if_pos (show nI m.k = 40 by rw [cD.1]; rfl), if_pos (show nI (X.kd j) = 41 by rw [cD.2]; rfl), show f_Tokens_close h 41 = _ from e1, xhb_s]
    revert C1 k1 r1
    generalize mv_si (mv_si h 3 8 (nI e)) 3 7 (nI (j + 2)) = g
    intro C1 k1 r1
    have e2 : mv_i g 22 8 - 1 = nI M.length := by rw [C1.ml]; exact nIsub (a := M.length + 1) (b := 1) (by omega) (by omega)
    rw [e2, xk_s]
    refine ⟨1, _, L, z, rfl, ⟨C1.pop, R.kc (k1.tr (KC9.si _ _ p22)), by show z + nO M ≤ j + 1; omega, ?_⟩, fun _ _ => rfl⟩
    rw [if_pos (show 3 = 3 from rfl)]
    have ek : kGo X m j (w :: H) md hd = (md.tail, hd) := by
      unfold kGo
      rw [if_neg (by omega), if_neg (by omega), if_neg (by omega), if_pos cD.1]
    rw [ek]
    show L3 L (mv_a g 25) e0 M md.tail hd z
    rw [r1]
    exact l2
  rw [if_neg cD] at ec
  have e128 : f_Exprs_goOn_93 P (nI (X.kd j)) (nI m.k) x3 h = f_Exprs_goOn_128 P (nI (X.kd j)) (nI m.k) x3 h := by
    unfold f_Exprs_goOn_93
    by_cases c1 : m.k = 40
    · rw [if_pos (show nI m.k = 40 by rw [c1]; rfl), if_neg (show ¬ nI (X.kd j) = 41 from fun z => cD ⟨c1, (tk 41 (by omega)).mp z⟩)]
    · rw [if_neg (show ¬ nI m.k = 40 from fun z => c1 ((tm 40 (by omega)).mp z))]
  have e0' : f_Exprs_goOn_128 P (nI (X.kd j)) (nI m.k) x3 h = if m.k = 211 ∨ m.k = 212 then f_Exprs_goOn_142 P (nI (X.kd j)) (nI m.k) x3 h else f_Exprs_goOn_156 P (nI (X.kd j)) (nI m.k) x3 h := by
    unfold f_Exprs_goOn_128
    by_cases c1 : m.k = 211
    · rw [if_pos (show nI m.k = 211 by rw [c1]; rfl), if_pos (Or.inl c1)]
    rw [if_neg (show ¬ nI m.k = 211 from fun z => c1 ((tm 211 (by omega)).mp z))]
    by_cases c2 : m.k = 212
    · rw [if_pos (show nI m.k = 212 by rw [c2]; rfl), if_pos (Or.inr c2)]
    rw [if_neg (show ¬ nI m.k = 212 from fun z => c2 ((tm 212 (by omega)).mp z)), if_neg (by omega)]
  rw [e128, e0']
  by_cases cE : (m.k = 211 ∨ m.k = 212) ∧ X.kd j = 44
  · rw [if_pos cE] at ec
    have b3 := nDm_k (m := m) (by omega)
    obtain ⟨e, rfl⟩ : ∃ e, d = e + 1 := ⟨d - 1, by omega⟩
    by_cases r : X.kd (j + 1) = 4 ∧ X.kd (j + 2) = 41 ∧ 1 ≤ X.nu (j + 1) ∧ X.nu (j + 1) ≤ 64 ∧ w ≤ X.nu (j + 1)
    rotate_left
    · rw [if_neg r] at ec; cases ec
    rw [if_pos r] at ec
    obtain rfl := Option.some.inj ec
    obtain ⟨h', L', z', e1, K1, hL1⟩ := wid_K K hM (by omega) cE.1 cE.2 hJ r.1 r.2.1 r.2.2.1 r.2.2.2.1 r.2.2.2.2
    refine ⟨1, h', L', z', ?_, ?_, hL1⟩
    · unfold f_Exprs_goOn_142 f_Exprs_goOn_272
      rw [if_pos cE.1, if_pos (show nI (X.kd j) = 44 by rw [cE.2]; rfl), e1, xhv_s]
    · have ek : kGo X m j (w :: H) md hd = (md.tail, if m.k = 211 then d1 310 (wPk w (X.nu (j + 1))) (hd.headD dN) :: hd.tail else hd) := by
        unfold kGo
        rw [if_neg (by omega), if_neg (by omega), if_neg (by omega), if_neg (by omega)]
        by_cases c4 : m.k = 211
        · rw [if_pos c4, if_pos c4]; rfl
        · rw [if_neg c4, if_neg c4, if_pos (by omega)]
      rw [ek]
      exact K1
  rw [if_neg cE] at ec
  have c213 : 213 ≤ m.k ∧ m.k ≤ 216 := by
    by_cases q : 213 ≤ m.k ∧ m.k ≤ 216
    · exact q
    · rw [if_neg (fun z => q z.1), if_neg (fun z => q z.1)] at ec; cases ec
  have k9 : kGo X m j (w :: H) md hd = if m.c = 0 then (md, hd) else (md.tail, d2 m.k (nJ (H.headD 0)) (hd.tail.headD dN) (hd.headD dN) :: hd.tail.tail) := by
    unfold kGo
    rw [if_neg (by omega), if_neg (by omega), if_neg (by omega), if_neg (by omega), if_neg (by omega), if_neg (by omega)]
    rfl
  rw [k9, if_neg (show ¬ (m.k = 211 ∨ m.k = 212) by omega)]
  rw [if_neg (by omega)] at hz
  have hl0 : lvq m.k = 0 := lvq_k (by omega)
  unfold f_Exprs_goOn_156
  rw [if_neg (show ¬ nI m.k < 213 from fun z => by have := (nIlt (b := 213) (by omega) (by omega)).mp z; omega), if_neg (show ¬ 216 < nI m.k from fun z => by have := (nIlt (a := 216) (by omega) (by omega)).mp z; omega)]
  have hj1 := nxJ hJ C.jJ (by
    intro q
    rw [if_neg (by omega), if_neg (by omega)] at ec; cases ec) (by
    intro q
    rw [if_neg (by omega), if_neg (by omega)] at ec; cases ec)
  by_cases cF : (213 ≤ m.k ∧ m.k ≤ 216) ∧ X.kd j = 44 ∧ m.c = 0
  · rw [if_pos cF] at ec
    obtain rfl := Option.some.inj ec
    have C1 := C.nx hj1
    have e2 : mv_i (mv_si h 3 7 (nI (j + 2))) 22 8 - 1 = nI M.length := em
    rw [if_pos (show nI (X.kd j) = 44 by rw [cF.2.1]; rfl), if_neg (fun z => (hx c213).mp z cF.2.2), show f_Tokens_take h 44 = _ from C.tk cF.2.1, xhb_s, e2, xvi_n (by omega) (by decide), cond_true, cln (by omega), xk_s, if_pos cF.2.2]
    refine ⟨0, _, L, z, rfl, ⟨C1.cnt (c := 1) (by omega) (by omega), (R.kc (KC9.si h _ p17)).kc (KC9.sa _ _ p9), ?_, ?_⟩, fun _ _ => rfl⟩
    · show z + ((if m.k = 63 ∨ m.k = 58 then 0 else 1) + nO M) ≤ j + 1
      rw [if_neg (by omega)]; omega
    · rw [if_neg (show ¬ 2 = 3 by omega)]
      refine L3.hm l (by omega) (by omega) (nHm_n hl0 (by omega) (Or.inl cF.2.2)) (by show ¬ m.k = 63; omega) (by show ¬ m.k = 58; omega) (nHm_c ⟨by show ¬ 1 = 0; omega, Or.inr c213⟩) (by show ¬ m.k = 91; omega) (fun i hi => ?_)
      show mv_u (mv_a h) 25 M.length 1 25 i = _
      rw [mv_u_ne _ _ (by omega)]
  rw [if_neg cF] at ec
  by_cases cG : (213 ≤ m.k ∧ m.k ≤ 216) ∧ X.kd j = 41 ∧ ¬ m.c = 0
  rotate_left
  · rw [if_neg cG] at ec; cases ec
  rw [if_pos cG] at ec
  obtain ⟨v, ev, ec⟩ := obn ec
  have b2 := nHm_2 (m := m) (by omega) cG.2.2
  have b3 := nDm_k (m := m) (by omega)
  obtain ⟨e, rfl⟩ : ∃ e, d = e + 1 := ⟨d - 1, by omega⟩
  obtain rfl := Option.some.inj ec
  rw [if_neg (show ¬ nI (X.kd j) = 44 from fun z => by have := (tk 44 (by omega)).mp z; omega)]
  unfold f_Exprs_goOn_204 f_Exprs_goOn_272
  rw [if_neg (show ¬ nI m.k < 213 from fun z => by have := (nIlt (b := 213) (by omega) (by omega)).mp z; omega), if_neg (show ¬ 216 < nI m.k from fun z => by have := (nIlt (a := 216) (by omega) (by omega)).mp z; omega), if_pos (show nI (X.kd j) = 41 by rw [cG.2.1]; rfl), if_pos ((hx c213).mpr cG.2.2)]
  obtain ⟨e1, C1⟩ := C.clK cG.2.1 hj1
  have k1 := (KC9.si h (o := 3) (k := 8) (nI e) p18).tr (KC9.si _ (o := 3) (k := 7) (nI (j + 2)) p17)
  have r1 : mv_a (mv_si (mv_si h 3 8 (nI e)) 3 7 (nI (j + 2))) = mv_a h := rfl
  rw [show f_Tokens_close h 41 = _ from e1, xhb_s]
  revert C1 k1 r1
  generalize mv_si (mv_si h 3 8 (nI e)) 3 7 (nI (j + 2)) = g
  intro C1 k1 r1
  have C2 := C1.pop
  cases H with
  | nil => exact absurd hL (by rw [List.length_nil]; omega)
  | cons x H =>
  rw [List.length_cons] at hL
  have e2 : mv_i g 22 8 - 1 = nI M.length := by rw [C1.ml]; exact nIsub (a := M.length + 1) (b := 1) (by omega) (by omega)
  have e3 : mv_i (mv_si g 22 8 (nI M.length)) 22 8 = nI M.length := rfl
  rw [e2, xk_s, e3, xvi_n (by omega) (by decide), cond_true, cln (by omega)]
  have ev : tw m.k x w = some v := ev
  have lg : L3 L (mv_a (mv_si g 22 8 (nI M.length)) 25) e0 (m :: M) md hd z := by
    show L3 L (mv_a g 25) e0 (m :: M) md hd z
    rw [r1]; exact l
  obtain ⟨h', e5, K5⟩ := two_K (e0 := e0) C2 (R.kc (k1.tr (KC9.si _ _ p22))) (by omega) (by omega) (m := m.k) (by omega) (mv_a (mv_si g 22 8 (nI M.length)) 24 M.length) ev (L3.o2 (w := nJ x) lg (by omega) (by omega) b2 (by omega))
  rw [e5, xhv_s]
  refine ⟨1, h', uL L z (m.k, nJ x), z + 1, rfl, ?_, fun i hi => uL_n L _ (by omega)⟩
  rw [if_neg cG.2.2]
  exact K5
end GOK
