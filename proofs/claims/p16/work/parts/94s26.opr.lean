/-! the code stands -/
def KC9 (P : Nat) (h h' : mv_H) : Prop := mv_i h' P 17 = mv_i h P 17 ∧ mv_a h' (P + 9) = mv_a h (P + 9) ∧ mv_b h' (P + 10) = mv_b h (P + 10)
theorem KC9.rf {P : Nat} (h : mv_H) : KC9 P h h := ⟨rfl, rfl, rfl⟩
theorem KC9.tr {P : Nat} {h g k : mv_H} (a : KC9 P h g) (b : KC9 P g k) : KC9 P h k := ⟨b.1.trans a.1, b.2.1.trans a.2.1, b.2.2.trans a.2.2⟩
theorem KC9.si {P o k : Nat} (h : mv_H) (x : Int32) (q : ¬ (o = P ∧ k = 17)) : KC9 P h (mv_si h o k x) := ⟨mv_u_ne (mv_i h) _ (fun z => q ⟨z.1.symm, z.2.symm⟩), rfl, rfl⟩
theorem KC9.sa {P o k : Nat} (h : mv_H) (x : Int32) (q : ¬ o = P + 9) : KC9 P h (mv_sa h o k x) := ⟨rfl, funext fun i => mv_u_ne (mv_a h) _ (fun z => q z.1.symm), rfl⟩
theorem CRw.kc {P : Nat} {fs : Nat → Nat} {h h' : mv_H} {L : CDq} {z : Nat} (C : CRw P fs h L z) (k : KC9 P h h') : CRw P fs h' L z := by
  unfold CRw
  rw [k.1, k.2.1, k.2.2]
  exact C
/-- the code, the doing and what stands with it -/
def emH (P z : Nat) (x : Int32) (y : Int64) (h : mv_H) : mv_H := mv_si (mv_sb (mv_sa h (P + 9) z x) (P + 10) z y) P 17 (nI (z + 1))
theorem em_e {P z : Nat} {h : mv_H} (hz : mv_i h P 17 = nI z) (hz2 : z < 32768) (x : Int32) (y : Int64) : f_Program_emit P h x y = some (nI z, emH P z x y h) := by
  have e1 : mv_i (mv_sa h (P + 9) z x) P 17 = nI z := hz
  have e2 : mv_i (mv_sb (mv_sa h (P + 9) z x) (P + 10) z y) P 17 = nI z := hz
  unfold f_Program_emit f_Program_emit_42
  rw [hz, if_neg (fun q => by have := (nIle (a := 32768) (by omega) (by omega)).mp q; omega), xvi_n hz2 (by decide), cond_true, cln (by omega), xk_s, e1, xvi_n hz2 (by decide), cond_true, cln (by omega), xk_s, e2, nI1 (by omega), xk_s]
  have e3 : mv_i (mv_si (mv_sb (mv_sa h (P + 9) z x) (P + 10) z y) P 17 (nI (z + 1))) P 17 = nI (z + 1) := mv_si_s _ _ _ _
  rw [e3, show nI (z + 1) - (1 : Int32) = nI z from nIsub (a := z + 1) (b := 1) (by omega) (by omega)]
  rfl
/-- a doing more -/
theorem CRw.em {P : Nat} {fs : Nat → Nat} {h : mv_H} {L : CDq} {z k : Nat} {y a : Int64} (C : CRw P fs h L z) (hz : z < 32768) (hk : k < 318) (ey : y = if k = 303 then nJ (fs (tI a)) else a) (h3 : k = 303 → ∃ t, a = nJ t ∧ t < 64 ∧ fs t < fs (t + 1) := by first | (intro q; exact absurd q (by decide)) | (intro q; exfalso; omega) | (intro q; exfalso; revert q; split <;> intro q <;> omega)) : CRw P fs (emH P z (nI k) y h) (uL L z (k, a)) (z + 1) := by
  obtain ⟨c1, c2, c3, c4⟩ := C
  refine ⟨mv_si_s _ _ _ _, by omega, fun i hi => (uL_n L _ (by omega)).trans (c3 i (by omega)), fun i hi => ?_⟩
  have ea : mv_a (emH P z (nI k) y h) (P + 9) i = mv_u (mv_a h) (P + 9) z (nI k) (P + 9) i := rfl
  have eb : mv_b (emH P z (nI k) y h) (P + 10) i = mv_u (mv_b h) (P + 10) z y (P + 10) i := rfl
  rw [ea, eb]
  by_cases q : i = z
  · subst q
    rw [mv_u_same, mv_u_same, uL_s]
    exact ⟨rfl, hk, ey, h3⟩
  · rw [mv_u_ne _ _ (by omega), mv_u_ne _ _ (by omega), uL_n L _ q]
    exact c4 i (by omega)
/-- a JUMP or UNLESS is aimed here -/
theorem aim_e2 {P z y : Nat} {h : mv_H} (hz : mv_i h P 17 = nI z) (hz2 : z ≤ 32768) (hy : y < 32768) : f_Program_aim P h (nI y) = some (mv_sb h (P + 10) y (nJ z)) := by
  unfold f_Program_aim
  rw [if_neg (fun q => by have q := Int32.lt_iff_toInt_lt.mp q; rw [nIi (by omega)] at q; have : (0 : Int32).toInt = 0 := rfl; omega), xvi_n hy (by decide), cond_true, cln (by omega), hz, xk_s]
  rw [xI_l, xi2l_s (by omega)]
theorem CRw.am {P : Nat} {fs : Nat → Nat} {h : mv_H} {L : CDq} {z y k : Nat} {w : Int64} (C : CRw P fs h L z) (hy : y < z) (hL : L y = (k, w)) (hk : ¬ k = 303) (v : Int64) : CRw P fs (mv_sb h (P + 10) y v) (uL L y (k, v)) z := by
  obtain ⟨c1, c2, c3, c4⟩ := C
  refine ⟨c1, c2, fun i hi => (uL_n L _ (by omega)).trans (c3 i hi), fun i hi => ?_⟩
  have ea : mv_a (mv_sb h (P + 10) y v) (P + 9) i = mv_a h (P + 9) i := rfl
  have eb : mv_b (mv_sb h (P + 10) y v) (P + 10) i = mv_u (mv_b h) (P + 10) y v (P + 10) i := rfl
  rw [ea, eb]
  have c4 := c4 i hi
  by_cases q : i = y
  · subst q
    rw [hL] at c4
    rw [mv_u_same, uL_s]
    exact ⟨c4.1, c4.2.1, (if_neg hk).symm, fun q => absurd q hk⟩
  · rw [mv_u_ne _ _ (by omega), uL_n L _ q]
    exact c4
section KP
variable {X : TX} {J P : Nat} {h : mv_H} {j d : Nat} {M : List MkA} {H : List Nat}
theorem CXq.opK (C : CXq X J P h j d M H) {k : Nat} (hk : X.kd j = k) (hd : d < 60) (hj : j + 1 ≤ J) : f_Tokens_open h (nI k) = some (nI (j + 1), mv_si (mv_si h 3 8 (nI (d + 1))) 3 7 (nI (j + 2))) ∧ CXq X J P (mv_si (mv_si h 3 8 (nI (d + 1))) 3 7 (nI (j + 2))) (j + 1) (d + 1) M H := by
  have e8 : mv_i h 3 8 + 1 = nI (d + 1) := by rw [C.dp, nI1 (by omega)]
  refine ⟨?_, (C.dd (d2 := d + 1) (by omega)).nx hj⟩
  rw [open_c C.at' (by have := C.jb; omega) C.lt (nI k) (by rw [C.dp]; exact fun z => by have := (nIinj (b := 60) (by omega) (by omega)).mp z; omega), (C.tb.k j C.jJ).1, if_pos (by rw [hk]), e8]
theorem CXq.clK (C : CXq X J P h j (d + 1) M H) {k : Nat} (hk : X.kd j = k) (hj : j + 1 ≤ J) : f_Tokens_close h (nI k) = some (nI (j + 1), mv_si (mv_si h 3 8 (nI d)) 3 7 (nI (j + 2))) ∧ CXq X J P (mv_si (mv_si h 3 8 (nI d)) 3 7 (nI (j + 2))) (j + 1) d M H := by
  have hd := C.d2
  have e8 : mv_i h 3 8 - 1 = nI d := by rw [C.dp]; exact nIsub (a := d + 1) (b := 1) (by omega) (by omega)
  refine ⟨?_, (C.dd (d2 := d) (by omega)).nx hj⟩
  rw [close_c C.at' (by have := C.jb; omega) C.lt (nI k), (C.tb.k j C.jJ).1, if_pos (by rw [hk]), e8]
theorem CXq.hoK (C : CXq X J P h j d M H) (hH : H.length < 1024) {w : Nat} (hw : 0 < w) (hs : w + sumL H ≤ 40000 * (j + 1)) : f_Exprs_hold h (nI w) = some (mv_si (mv_sa h 27 H.length (nI w)) 22 10 (nI (H.length + 1))) ∧ CXq X J P (mv_si (mv_sa h 27 H.length (nI w)) 22 10 (nI (H.length + 1))) j d M (w :: H) ∧ KC9 P h (mv_si (mv_sa h 27 H.length (nI w)) 22 10 (nI (H.length + 1))) ∧ mv_a (mv_si (mv_sa h 27 H.length (nI w)) 22 10 (nI (H.length + 1))) 25 = mv_a h 25 := by
  have hpp := C.pp
  obtain ⟨e, -, -⟩ := hold_f C.f hH (nI w)
  obtain ⟨h', e2, C2⟩ := C.hold hH hw hs
  rw [e] at e2
  have e3 := Option.some.inj e2
  subst e3
  exact ⟨e, C2, (KC9.sa h _ (by omega)).tr (KC9.si _ _ (by omega)), a27 h _ _ _ (by omega)⟩
theorem CXq.emK (C : CXq X J P h j d M H) {fs : Nat → Nat} {L : CDq} {z k : Nat} {y a : Int64} (R : CRw P fs h L z) (hz : z < 32768) (hk : k < 318) (ey : y = if k = 303 then nJ (fs (tI a)) else a) (h3 : k = 303 → ∃ t, a = nJ t ∧ t < 64 ∧ fs t < fs (t + 1) := by first | (intro q; exact absurd q (by decide)) | (intro q; exfalso; omega) | (intro q; exfalso; revert q; split <;> intro q <;> omega)) : f_Program_emit P h (nI k) y = some (nI z, emH P z (nI k) y h) ∧ CXq X J P (emH P z (nI k) y h) j d M H ∧ CRw P fs (emH P z (nI k) y h) (uL L z (k, a)) (z + 1) ∧ (∀ o, ¬ o = P + 9 → mv_a (emH P z (nI k) y h) o = mv_a h o) ∧ (∀ o, ¬ o = P + 10 → mv_b (emH P z (nI k) y h) o = mv_b h o) ∧ ∀ o f, ¬ (o = P ∧ f = 17) → mv_i (emH P z (nI k) y h) o f = mv_i h o f := by
  have e := em_e R.1 hz (nI k) y
  obtain ⟨w, h', e2, -, C2, c3, c4, c5⟩ := C.emit (nI k) y
  rw [e] at e2
  have e3 := (Prod.mk.inj (Option.some.inj e2)).2
  subst e3
  exact ⟨e, C2, R.em hz hk ey h3, c4, c5, c3⟩
end KP
/-- in an EXPR: the class, its code, what it is worth; t = 2: an operand is due, 3: behind one -/
def KXq (X : TX) (J P : Nat) (fs : Nat → Nat) (h : mv_H) (j d : Nat) (M : List MkA) (H : List Nat) (L : CDq) (e0 z t : Nat) (md : MDq) (hd : List DnE) : Prop := CXq X J P h j d M H ∧ CRw P fs h L z ∧ z + nO M ≤ j ∧ if t = 3 then L3 L (mv_a h 25) e0 M md hd z else LEM L (mv_a h 25) e0 M md hd z
/-- what a name is worth to the class -/
def NVk (X : TX) (P : Nat) (fs : Nat → Nat) (h : mv_H) (lk : LK) (lz : LZ) (C : List Nat) (i : Nat) : Prop := ∃ sy lt, mv_b h 6 (i + 1) = nJ sy ∧ sy < 16440 ∧ lt < 128 ∧ (∀ g : mv_H, mv_a g 8 = mv_a h 8 → mv_a g 9 = mv_a h 9 → f_Symbols_letter g (nI sy) = some (nI lt, g)) ∧
  ((¬ mv_a h 17 lt ≤ 0 ∧ ∃ w c, lk (X.nm i) = (3, w) ∧ 0 < w ∧ w ≤ 40000 ∧ (∀ g : mv_H, f_Long_bitCount g (mv_b h 18 lt) = some (nI w, g)) ∧ lz (X.nm i) = 64 + c ∧ mv_b h 18 lt = nJ (mskC C c)) ∨
   (mv_a h 17 lt ≤ 0 ∧ lz (X.nm i) < 64 ∧ ((mv_a h 14 sy = 0 ∧ (lk (X.nm i)).1 = 0) ∨
     (∃ v w, (v = 1 ∨ v = 2) ∧ mv_a h 14 sy = nI v ∧ mv_a h 15 sy = nI (lz (X.nm i)) ∧ mv_a h (P + 1) (lz (X.nm i)) = nI w ∧ lk (X.nm i) = (v, w) ∧ 0 < w ∧ w ≤ 40000 ∧ mv_a h (P + 3) (lz (X.nm i)) = nI (fs (lz (X.nm i))) ∧ fs (lz (X.nm i)) < 70000 ∧ fs (lz (X.nm i)) < fs (lz (X.nm i) + 1)) ∨
     (∃ w, mv_a h 14 sy = 3 ∧ mv_a h 15 sy = nI (lz (X.nm i)) ∧ mv_a h 20 (lz (X.nm i)) = nI w ∧ lk (X.nm i) = (3, w) ∧ 0 < w ∧ w ≤ 40000))))
section OK9
variable {X : TX} {J P : Nat} {fs : Nat → Nat} {h : mv_H} {j d : Nat} {M : List MkA} {H : List Nat} {L : CDq} {e0 z : Nat} {md : MDq} {hd : List DnE}
/-- a doing that leaves one value more, then its width is held -/
theorem KXq.val {g : mv_H} {k w : Nat} {y a : Int64} {D : DnE} (C : CXq X J P g j d M H) (R : CRw P fs g L z) (hzM : z + nO M < j) (l : LEM L (mv_a g 25) e0 M md hd z) (hH : H.length < 1024) (hk : k < 318) (ey : y = if k = 303 then nJ (fs (tI a)) else a) (hw : 0 < w) (hs : w + sumL H ≤ 40000 * (j + 1)) (sD : ∀ L' : CDq, L' z = (k, a) → SgE L' z (z + 1) D) (h3 : k = 303 → ∃ t, a = nJ t ∧ t < 64 ∧ fs t < fs (t + 1) := by first | (intro q; exact absurd q (by decide)) | (intro q; exfalso; omega) | (intro q; exfalso; revert q; split <;> intro q <;> omega)) : ∃ g1 h', f_Program_emit P g (nI k) y = some (nI z, g1) ∧ f_Exprs_hold g1 (nI w) = some h' ∧ KXq X J P fs h' j d M (w :: H) (uL L z (k, a)) e0 (z + 1) 3 md (D :: hd) ∧ (∀ o, ¬ o = P + 9 → mv_a g1 o = mv_a g o) ∧ g1 = emH P z (nI k) y g := by
  have hjb := C.tb.jb
  have hjJ := C.jJ
  have hpp := C.pp
  obtain ⟨e1, C1, R1, a1, -, -⟩ := C.emK R (by omega) hk ey h3
  obtain ⟨e2, C2, k2, r2⟩ := C1.hoK hH hw hs
  refine ⟨_, _, e1, e2, ⟨C2, R1.kc k2, by omega, ?_⟩, a1, rfl⟩
  rw [if_pos rfl, r2, a1 25 (by omega)]
  exact l.op sD
end OK9
