/-! signs and binaries, on good roads -/
section SBK
variable {X : TX} {J P : Nat} {fs : Nat → Nat} {e0 : Nat}
theorem KXq.va3 {g : mv_H} {j d : Nat} {M : List MkA} {H : List Nat} {L : CDq} {z k w : Nat} {y a : Int64} {md : MDq} {hd : List DnE} (C : CXq X J P g j d M H) (R : CRw P fs g L z) (hz : z + nO M < j) (hH : H.length < 1024) (hk : k < 318) (ey : y = if k = 303 then nJ (fs (tI a)) else a) (hw : 0 < w) (hs : w + sumL H ≤ 40000 * (j + 1)) (l : L3 (uL L z (k, a)) (mv_a g 25) e0 M md hd (z + 1)) (h3 : k = 303 → ∃ t, a = nJ t ∧ t < 64 ∧ fs t < fs (t + 1) := by first | (intro q; exact absurd q (by decide)) | (intro q; exfalso; omega) | (intro q; exfalso; revert q; split <;> intro q <;> omega)) : ∃ g1 h', f_Program_emit P g (nI k) y = some (nI z, g1) ∧ f_Exprs_hold g1 (nI w) = some h' ∧ KXq X J P fs h' j d M (w :: H) (uL L z (k, a)) e0 (z + 1) 3 md hd ∧ ∀ o, ¬ o = P + 9 → mv_a g1 o = mv_a g o := by
  have hjb := C.tb.jb
  have hjJ := C.jJ
  have hpp := C.pp
  obtain ⟨e1, C1, R1, a1, -, -⟩ := C.emK R (by omega) hk ey h3
  obtain ⟨e2, C2, k2, r2⟩ := C1.hoK hH hw hs
  refine ⟨_, _, e1, e2, ⟨C2, R1.kc k2, by omega, ?_⟩, a1⟩
  rw [if_pos rfl, r2, a1 25 (by omega)]
  exact l
theorem mskI (h : mv_H) (x : Int32) : f_Bits_mask h x = some (mkI x, h) := by
  unfold f_Bits_mask mkI
  split <;> rfl
theorem L3.ge {L : CDq} {r : Nat → Int32} {M : List MkA} {md : MDq} {hd : List DnE} {z : Nat} (l : L3 L r e0 M md hd z) : e0 ≤ z := by
  obtain ⟨D, hd', a, -, s, l⟩ := l
  have := l.le
  have := s.1
  omega
/-- the signs -/
theorem sig_K : ∀ (n x1 : Nat) (M : List MkA) (h : mv_H) {j d w : Nat} {H : List Nat} {L : CDq} {z : Nat} {md : MDq} {hd : List DnE} {r : List MkA × List Nat × Nat}, KXq X J P fs h j d M (w :: H) L e0 z 3 md hd → M.length ≤ 1000 → H.length < 1023 → nD M ≤ d → x1 + d ≤ 60 → 62 ≤ n + x1 → popS M (w :: H) d = some r → ∃ h' L' z', f_Exprs_endSigns_2 P n (nI x1) h = some h' ∧ KXq X J P fs h' j r.2.2 r.1 r.2.1 L' e0 z' 3 (qS M (w :: H) md hd).1 (qS M (w :: H) md hd).2 ∧ ∀ i, i < e0 → L' i = L i := by
  intro n
  induction n with
  | zero => intro x1 M h j d w H L z md hd r _ _ _ _ _ _; omega
  | succ n ih =>
    intro x1 M h j d w H L z md hd r K hM hk hd' hx hn ep
    have C := K.1
    show ∃ h' L' z', fF_Exprs_endSigns_2 P (f_Exprs_endSigns_2 P n) (nI x1) h = some h' ∧ _
    unfold fF_Exprs_endSigns_2
    rw [if_neg (show ¬ (60 : Int32) < nI x1 from fun z => by have := (nIlt (a := 60) (by omega) (by omega)).mp z; omega)]
    cases M with
    | nil =>
      rw [if_pos (show mv_i h 22 8 ≤ 0 by rw [C.ml]; decide)]
      obtain rfl := Option.some.inj ep
      exact ⟨h, L, z, rfl, K, fun _ _ => rfl⟩
    | cons m M =>
      have hM' : M.length + 1 ≤ 1000 := hM
      have eml : mv_i h 22 8 = nI (M.length + 1) := C.ml
      have em : mv_i h 22 8 - 1 = nI M.length := by rw [eml]; exact nIsub (a := M.length + 1) (b := 1) (by omega) (by omega)
      obtain ⟨q1, q2, q3, ⟨t, q4, q5⟩, q6⟩ := C.mr.1
      rw [if_neg (show ¬ mv_i h 22 8 ≤ 0 by rw [eml]; exact fun z => by have := (nIle (b := 0) (by omega) (by omega)).mp z; omega), em, xvi_n (by omega) (by decide), cond_true, cln (by omega), q1]
      have ePop : popS (m :: M) (w :: H) d = if m.k = 305 ∨ m.k = 306 then popS M (w :: H) (d - 1) else if m.k = 307 then (if w = 1 then popS M (w :: H) (d - 1) else none) else some (m :: M, w :: H, d) := rfl
      rw [ePop] at ep
      have eq : qS (m :: M) (w :: H) md hd = if m.k = 305 ∨ m.k = 306 ∨ m.k = 307 then qS M (w :: H) md.tail (d1 m.k (mkI (nI w)) (hd.headD dN) :: hd.tail) else (md, hd) := rfl
      rw [eq]
      have i1 : nI m.k = (305 : Int32) ↔ m.k = 305 := nIinj (b := 305) (by omega) (by omega)
      have i2 : nI m.k = (306 : Int32) ↔ m.k = 306 := nIinj (b := 306) (by omega) (by omega)
      have i3 : nI m.k = (307 : Int32) ↔ m.k = 307 := nIinj (b := 307) (by omega) (by omega)
      have go : (m.k = 305 ∨ m.k = 306 ∨ m.k = 307) → ¬ (m.k = 307 ∧ ¬ w = 1) → popS M (w :: H) (d - 1) = some r → ∃ h' L' z', f_Exprs_endSigns_49 P (f_Exprs_endSigns_2 P n) (nI x1) (nI m.k) h = some h' ∧ KXq X J P fs h' j r.2.2 r.1 r.2.1 L' e0 z' 3 (qS M (w :: H) md.tail (d1 m.k (mkI (nI w)) (hd.headD dN) :: hd.tail)).1 (qS M (w :: H) md.tail (d1 m.k (mkI (nI w)) (hd.headD dN) :: hd.tail)).2 ∧ ∀ i, i < e0 → L' i = L i := fun hs h7 ep => by
        obtain ⟨-, R, hz, l⟩ := K
        rw [if_pos rfl] at l
        have l0 := L3.ge l
        have hpp := C.pp
        have hd2 : nDm m + nD M ≤ d := hd'
        rw [nDm_s hs] at hd2
        have hd60 := C.d2
        have hz' : z + ((if m.k = 63 ∨ m.k = 58 then 0 else 1) + nO M) ≤ j := hz
        rw [if_neg (by omega)] at hz'
        have e8' : mv_i (mv_si h 22 8 (nI M.length)) 3 8 - 1 = nI (d - 1) := by
          rw [pop22 h _ (by omega), C.dp]; exact nIsub (b := 1) (by omega) (by omega)
        have C1 := (C.pop).dd (d2 := d - 1) (by omega)
        obtain ⟨e2, C2, w1, w2, w3⟩ := C1.rel (by omega)
        have R2 := ((R.kc (KC9.si h (o := 22) (k := 8) (nI M.length) (by omega))).kc (KC9.si _ (o := 3) (k := 8) (nI (d - 1)) (by omega))).kc (KC9.si _ (o := 22) (k := 10) (nI H.length) (by omega))
        have l2 := (L3.po0 l (by omega) (by omega) (by rw [nHm_s hs]; omega)).1
        obtain ⟨g1, h4, e3, e4, K4, -⟩ := KXq.va3 (k := m.k) (w := w) (y := mkI (nI w)) (a := mkI (nI w)) C2 R2 (by omega) (by omega) (by omega) (if_neg (by omega)).symm w1 w3 (l2.o1 (by omega))
        obtain ⟨h', L', z', e5, K5, hL⟩ := ih (x1 + 1) M h4 K4 (by omega) hk (by omega) (by omega) (by omega) ep
        refine ⟨h', L', z', ?_, K5, fun i hi => (hL i hi).trans (uL_n L _ (by omega))⟩
        unfold f_Exprs_endSigns_49
        rw [em, xk_s, e8', xk_s, e2, xhb_s]
        have fin : f_Exprs_endSigns_105 P (f_Exprs_endSigns_2 P n) (nI x1) (nI m.k) (nI w) (mv_si (mv_si (mv_si h 22 8 (nI M.length)) 3 8 (nI (d - 1))) 22 10 (nI H.length)) = some h' := by
          unfold f_Exprs_endSigns_105
          rw [mskI, xhb_s, e3, xhb_s, e4, xhv_s, nI1 (by omega)]
          exact e5
        by_cases c1 : m.k = 307
        · rw [if_pos (i3.mpr c1), if_pos (show nI w ≤ (1 : Int32) from (nIle (b := 1) (by omega) (by omega)).mpr (by omega))]
          exact fin
        · rw [if_neg (fun z => c1 (i3.mp z))]
          exact fin
      by_cases c1 : m.k = 305
      · rw [if_pos (Or.inl c1)] at ep
        rw [if_pos (i1.mpr c1), if_pos (Or.inl c1)]
        exact go (by omega) (by omega) ep
      rw [if_neg (fun z => c1 (i1.mp z))]
      by_cases c2 : m.k = 306
      · rw [if_pos (Or.inr c2)] at ep
        rw [if_pos (i2.mpr c2), if_pos (Or.inr (Or.inl c2))]
        exact go (by omega) (by omega) ep
      rw [if_neg (show ¬ (m.k = 305 ∨ m.k = 306) by omega)] at ep
      rw [if_neg (fun z => c2 (i2.mp z))]
      by_cases c3 : m.k = 307
      · rw [if_pos c3] at ep
        rw [if_pos (i3.mpr c3), if_pos (Or.inr (Or.inr c3))]
        by_cases cw : w = 1
        · rw [if_pos cw] at ep
          exact go (by omega) (by omega) ep
        · rw [if_neg cw] at ep; cases ep
      · rw [if_neg c3] at ep
        obtain rfl := Option.some.inj ep
        rw [if_neg (fun z => c3 (i3.mp z)), if_neg (by omega)]
        exact ⟨h, L, z, rfl, K, fun _ _ => rfl⟩
/-- two and a doing -/
theorem two_K {h : mv_H} {j d x y : Nat} {M : List MkA} {H : List Nat} {L : CDq} {z : Nat} {md : MDq} {hd : List DnE} (C : CXq X J P h j d M (y :: x :: H)) (R : CRw P fs h L z) (hz : z + nO M < j) (hH : H.length < 1022) {m : Nat} (hm : m < 300) (t : Int32) {v : Nat} (ev : tw m x y = some v) (l : L3 (uL L z (m, nJ x)) (mv_a h 25) e0 M md hd (z + 1)) : ∃ h', f_Exprs_ofTwo P h (nI m) t = some h' ∧ KXq X J P fs h' j d M (v :: H) (uL L z (m, nJ x)) e0 (z + 1) 3 md hd := by
  have hpp := C.pp
  obtain ⟨e1, C1, y1, y2, y3⟩ := C.rel (show H.length + 1 < 1024 by omega)
  obtain ⟨e2, C2, x1, x2, x3⟩ := C1.rel (by omega)
  have hjb := C.tb.jb
  have hjJ := C.jJ
  have hs := C.sm
  have hs2 : sumL (y :: x :: H) = y + (x + sumL H) := rfl
  have R2 := (R.kc (KC9.si h (o := 22) (k := 10) (nI (x :: H).length) (by omega))).kc (KC9.si _ (o := 22) (k := 10) (nI H.length) (by omega))
  have hv : 0 < v ∧ v ≤ x + 0 ∧ v = (if lvq m = 4 ∨ lvq m = 5 ∨ m = 213 then 1 else x) ∧ (m = 131 ∨ m = 132 ∨ m = 216 ∨ x = y) := by
    unfold tw at ev
    by_cases c : m = 131 ∨ m = 132 ∨ m = 216 ∨ x = y
    · rw [if_pos c] at ev
      have ev := (Option.some.inj ev).symm
      refine ⟨?_, ?_, ev, c⟩
      · rw [ev]; split <;> omega
      · rw [ev]; split <;> omega
    · rw [if_neg c] at ev; cases ev
  obtain ⟨v1, v2, v3, v4⟩ := hv
  obtain ⟨g1, h', e3, e4, K4, -⟩ := KXq.va3 (k := m) (w := v) (y := nJ x) (a := nJ x) C2 R2 hz (by omega) (by omega) (if_neg (by omega)).symm v1 (by omega) l
  refine ⟨h', ?_, K4⟩
  unfold f_Exprs_ofTwo
  rw [e1, xhb_s, e2, xhb_s, xI_l, xi2l_s (by omega), e3, xhb_s, two_e]
  unfold f_Exprs_ofTwo_49
  have nx : ¬ nI x = (0 : Int32) := fun z => by have := (nIinj (b := 0) (by omega) (by omega)).mp z; omega
  have ny : ¬ nI y = (0 : Int32) := fun z => by have := (nIinj (b := 0) (by omega) (by omega)).mp z; omega
  rw [if_neg nx, if_neg ny]
  have i1 : nI m = (131 : Int32) ↔ m = 131 := nIinj (b := 131) (by omega) (by omega)
  have i2 : nI m = (132 : Int32) ↔ m = 132 := nIinj (b := 132) (by omega) (by omega)
  have i3 : nI m = (216 : Int32) ↔ m = 216 := nIinj (b := 216) (by omega) (by omega)
  have i4 : nI m = (213 : Int32) ↔ m = 213 := nIinj (b := 213) (by omega) (by omega)
  have ixy : nI x = nI y ↔ x = y := nIinj (by omega) (by omega)
  have hl : lvq m < 10 := lvq_b m
  have i5 : nI (lvq m) = (4 : Int32) ↔ lvq m = 4 := nIinj (b := 4) (by omega) (by omega)
  have i6 : nI (lvq m) = (5 : Int32) ↔ lvq m = 5 := nIinj (b := 5) (by omega) (by omega)
  have good : f_Exprs_ofTwo_93 P (nI m) (nI x) g1 = some h' := by
    have one : v = 1 → f_Exprs_ofTwo_119 P g1 = some h' := fun e => by
      unfold f_Exprs_ofTwo_119 f_Exprs_ofTwo_125
      rw [e] at e4
      rw [show (1 : Int32) = nI 1 from rfl, e4, xhv_s]
    unfold f_Exprs_ofTwo_93
    rw [lev_C g1 (by omega), xhb_s]
    by_cases c1 : lvq m = 4
    · rw [if_pos (i5.mpr c1)]
      rw [if_pos (Or.inl c1)] at v3; exact one v3
    rw [if_neg (fun z => c1 (i5.mp z))]
    by_cases c2 : lvq m = 5
    · rw [if_pos (i6.mpr c2)]
      rw [if_pos (Or.inr (Or.inl c2))] at v3; exact one v3
    rw [if_neg (fun z => c2 (i6.mp z))]
    by_cases c3 : m = 213
    · rw [if_pos (i4.mpr c3)]
      rw [if_pos (Or.inr (Or.inr c3))] at v3; exact one v3
    rw [if_neg (fun z => c3 (i4.mp z))]
    rw [if_neg (fun z => z.elim c1 (fun z => z.elim c2 c3))] at v3
    rw [v3] at e4
    unfold f_Exprs_ofTwo_125
    rw [e4, xhv_s]
  by_cases cxy : x = y
  · rw [if_pos (ixy.mpr cxy)]; exact good
  · rw [if_neg (fun z => cxy (ixy.mp z)), if_pos (show nI m = 131 ∨ nI m = 132 ∨ nI m = 216 from by rw [i1, i2, i3]; omega), if_neg (by decide)]
    exact good
/-- the binaries -/
theorem bin_K {l : Nat} (hl1 : 1 ≤ l) (hl : l < 100) : ∀ (n x2 : Nat) (M : List MkA) (h : mv_H) {j d : Nat} {H : List Nat} {L : CDq} {z : Nat} {md : MDq} {hd : List DnE} {r : List MkA × List Nat}, KXq X J P fs h j d M H L e0 z 3 md hd → H.length = nH M + 1 → x2 + M.length ≤ 1000 → nH M < 1000 → M.length < n → popB l M H = some r → ∃ h' L' z', f_Exprs_endBinaries_2 P n (nI l) (nI x2) h = some h' ∧ KXq X J P fs h' j d r.1 r.2 L' e0 z' 3 (qB l M H md hd).1 (qB l M H md hd).2 ∧ ∀ i, i < e0 → L' i = L i := by
  intro n
  induction n with
  | zero => intro x2 M h j d H L z md hd r _ _ _ _ q; omega
  | succ n ih =>
    intro x2 M h j d H L z md hd r K hH hx hM hn ep
    have C := K.1
    show ∃ h' L' z', fF_Exprs_endBinaries_2 P (f_Exprs_endBinaries_2 P n) (nI l) (nI x2) h = some h' ∧ _
    unfold fF_Exprs_endBinaries_2
    rw [if_neg (show ¬ (1024 : Int32) ≤ nI x2 from fun z => by have := (nIle (a := 1024) (by omega) (by omega)).mp z; omega)]
    cases M with
    | nil =>
      rw [if_pos (show mv_i h 22 8 ≤ 0 by rw [C.ml]; decide)]
      obtain rfl := Option.some.inj ep
      exact ⟨h, L, z, rfl, K, fun _ _ => rfl⟩
    | cons m M =>
      have hx' : x2 + (M.length + 1) ≤ 1000 := hx
      have hn' : M.length + 1 < n + 1 := hn
      have eml : mv_i h 22 8 = nI (M.length + 1) := C.ml
      have em : mv_i h 22 8 - 1 = nI M.length := by rw [eml]; exact nIsub (a := M.length + 1) (b := 1) (by omega) (by omega)
      obtain ⟨q1, q2, q3, ⟨t, q4, q5⟩, q6⟩ := C.mr.1
      have hlq := lvq_b m.k
      have ePop : popB l (m :: M) H = if l ≤ lvq m.k then (tw m.k (H.tail.headD 0) (H.headD 0)).bind fun z => popB l M (z :: H.tail.tail) else some (m :: M, H) := rfl
      rw [ePop] at ep
      have eq : qB l (m :: M) H md hd = if l ≤ lvq m.k then qB l M (((tw m.k (H.tail.headD 0) (H.headD 0)).getD 0) :: H.tail.tail) md.tail (d2 m.k (nJ (H.tail.headD 0)) (hd.tail.headD dN) (hd.headD dN) :: hd.tail.tail) else (md, hd) := rfl
      rw [eq]
      rw [if_neg (show ¬ mv_i h 22 8 ≤ 0 by rw [eml]; exact fun z => by have := (nIle (b := 0) (by omega) (by omega)).mp z; omega), em, xvi_n (by omega) (by decide), cond_true, cln (by omega), q1, lev_C h q2, xhb_s]
      by_cases c : l ≤ lvq m.k
      rotate_left
      · rw [if_neg c] at ep
        obtain rfl := Option.some.inj ep
        rw [if_neg (fun z => c ((nIle (by omega) (by omega)).mp z)), if_neg c]
        exact ⟨h, L, z, rfl, K, fun _ _ => rfl⟩
      rw [if_pos c] at ep
      rw [if_pos ((nIle (by omega) (by omega)).mpr c), em, xk_s, if_pos c]
      have e8 : mv_i (mv_si h 22 8 (nI M.length)) 22 8 = nI M.length := rfl
      have e24 : mv_a (mv_si h 22 8 (nI M.length)) 24 M.length = nI t := q4
      rw [e8, xvi_n (by omega) (by decide), cond_true, cln (by omega), e24]
      have b1 : nH (m :: M) = nHm m + nH M := rfl
      have b2 := nHm_b (m := m) (by omega)
      cases H with
      | nil => exact absurd hH (by rw [List.length_nil]; omega)
      | cons y H =>
        cases H with
        | nil => exact absurd hH (by rw [b1, b2, List.length_cons, List.length_nil]; omega)
        | cons x H =>
          have hH' : H.length = nH M := by
            rw [b1, b2, List.length_cons, List.length_cons] at hH
            omega
          obtain ⟨-, R, hz, l3⟩ := K
          rw [if_pos rfl] at l3
          have l0 := L3.ge l3
          have hpp := C.pp
          have hk3 := lvq_0 (k := m.k) (by omega)
          have hz' : z + ((if m.k = 63 ∨ m.k = 58 then 0 else 1) + nO M) ≤ j := hz
          rw [if_neg (by omega)] at hz'
          obtain ⟨v, ev, ep⟩ := obn ep
          have ev : tw m.k x y = some v := ev
          have hk300 : m.k < 300 := by
            by_cases w : m.k < 300
            · exact w
            · have : lvq m.k = 0 := by
                unfold lvq
                rw [if_neg (by omega), if_neg (by omega), if_neg (by omega), if_neg (by omega), if_neg (by omega), if_neg (by omega), if_neg (by omega), if_neg (by omega)]
              omega
          obtain ⟨h2, e2, K2⟩ := two_K (C.pop) (R.kc (KC9.si h (o := 22) (k := 8) (nI M.length) (by omega))) (by omega) (by omega) hk300 (nI t) ev (L3.o2 (w := nJ x) l3 (by omega) (by omega) b2 (Or.inl hk300))
          rw [e2, xhv_s, nI1 (by omega)]
          obtain ⟨h', L', z', e3, K3, hL⟩ := ih (x2 + 1) M h2 K2 (by rw [List.length_cons]; omega) (by omega) (by omega) (by omega) ep
          refine ⟨h', L', z', e3, ?_, fun i hi => (hL i hi).trans (uL_n L _ (by omega))⟩
          show KXq X J P fs h' j d r.1 r.2 L' e0 z' 3 (qB l M (((tw m.k x y).getD 0) :: H) md.tail (d2 m.k (nJ x) (hd.tail.headD dN) (hd.headD dN) :: hd.tail.tail)).1 (qB l M (((tw m.k x y).getD 0) :: H) md.tail (d2 m.k (nJ x) (hd.tail.headD dN) (hd.headD dN) :: hd.tail.tail)).2
          rw [ev]
          exact K3
end SBK
