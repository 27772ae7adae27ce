/-! reading: the state of Exprs, step by step -/
def Rw (P : Nat) (r : Nat → Nat → Option Nat) : Prop := mh r ∧ Ph P r ∧ r 2 5 = some P ∧ r 22 3 = some P
def PQ (P : Nat) : Prop := P = 32 ∨ P = 48 ∨ P = 145
abbrev RF (P : Nat) : mv_H → mv_H → Prop := Fr (fun o k => (o = 3 ∧ 7 ≤ k ∧ k ≤ 9) ∨ (o = 22 ∧ (k = 8 ∨ k = 10)) ∨ (o = P ∧ k = 17) ∨ o = 21) (fun o => (23 ≤ o ∧ o ≤ 27) ∨ o = P + 9) (fun o => o = P + 10)
theorem RF0 {P : Nat} {σ : mv_H} : RF P σ σ := Fr.rf
/-- what the NAMES mean: THINGS that are there, lets below 64 -/
def NM (σ : mv_H) (n th : Nat) : Prop := ∀ y, y < n → (mv_a σ 14 y = 1 ∨ mv_a σ 14 y = 2 → 0 ≤ (mv_a σ 15 y).toInt ∧ (mv_a σ 15 y).toInt < th) ∧ (mv_a σ 14 y = 3 → 0 ≤ (mv_a σ 15 y).toInt ∧ (mv_a σ 15 y).toInt < 64)
/-- what stays while an EXPR is read -/
def SB (P : Nat) (σ : mv_H) (t len n z sz th sl : Nat) : Prop := Rw P (mv_r σ) ∧ TE σ t len n z sz ∧ NM σ n th ∧ Th P σ th sl
theorem TE.fr {σ τ : mv_H} {t len n z sz : Nat} (h : TE σ t len n z sz) (e36 : mv_i τ 3 6 = mv_i σ 3 6) (e75 : mv_i τ 7 5 = mv_i σ 7 5) (e4 : mv_a τ 4 = mv_a σ 4) (e5 : mv_a τ 5 = mv_a σ 5) (e6 : mv_b τ 6 = mv_b σ 6) (e8 : mv_a τ 8 = mv_a σ 8) (e9 : mv_a τ 9 = mv_a σ 9) (e10 : mv_a τ 10 = mv_a σ 10) (e11 : mv_a τ 11 = mv_a σ 11) (et : mv_a τ t = mv_a σ t) : TE τ t len n z sz := by
  unfold TE Sy Tk tk_code at h ⊢
  rw [e36, e75, e4, e5, e6, e8, e9, e10, e11, et]
  exact h
theorem Th.rf {P th sl : Nat} {σ τ : mv_H} (h : Th P σ th sl) (g : RF P σ τ) (hP : PQ P) : Th P τ th sl := by
  unfold PQ at hP
  unfold Th at h ⊢
  rw [g.1 P 0 (by omega), g.1 P 1 (by omega), g.1 P 6 (by omega), g.1 P 8 (by omega), g.1 P 9 (by omega), g.2.1 (P + 2) (by omega), g.2.1 (P + 3) (by omega)]
  exact h
theorem SB.rf {P t len n z sz th sl : Nat} {σ τ : mv_H} (h : SB P σ t len n z sz th sl) (g : RF P σ τ) (hP : PQ P) (ht : t = 1 ∨ t = 144) : SB P τ t len n z sz th sl := by
  obtain ⟨h1, h2, h3, h4⟩ := h
  refine ⟨by rw [g.2.2.2.2]; exact h1, ?_, ?_, h4.rf g hP⟩
  · unfold PQ at hP
    exact h2.fr (g.1 3 6 (by omega)) (g.1 7 5 (by omega)) (g.2.1 4 (by omega)) (g.2.1 5 (by omega)) (g.2.2.1 6 (by omega)) (g.2.1 8 (by omega)) (g.2.1 9 (by omega)) (g.2.1 10 (by omega)) (g.2.1 11 (by omega)) (g.2.1 t (by omega))
  · unfold PQ at hP
    unfold NM at h3 ⊢
    rw [g.2.1 14 (by omega), g.2.1 15 (by omega)]
    exact h3
def Mt (ft : Nat → Int32) : Prop := ∀ i, i < 1024 → 0 ≤ (ft i).toInt ∧ (ft i).toInt < 32770
/-- the state of Exprs, hl widths held, the code ht high over bs -/
def XM (P th e0 bs : Nat) (BL : (Nat → Nat) → Prop) (f0 : Nat → Int32) (g0 : Nat → Int64) (ns : Nat) (σ : mv_H) (ms : List Mk) (hl ht s : Nat) : Prop :=
  ((mv_i σ 22 8).toInt = ms.length ∧ MkR (mv_a σ 23) (mv_a σ 25) ms ∧ (mv_i σ 22 10).toInt = hl ∧ Mt (mv_a σ 24) ∧ Ris ms ∧ Mo th e0 s ms) ∧ ((mv_i σ P 17).toInt = s ∧ e0 ≤ s ∧ (∀ a, a < e0 → mv_a σ (P + 9) a = f0 a ∧ mv_b σ (P + 10) a = g0 a) ∧ nSet (mv_a σ (P + 9)) s = ns ∧ BLok e0 BL) ∧ (mv_i σ 21 0 = 0 → ∃ hg, BL hg ∧ CX th e0 bs s (mv_a σ (P + 9)) (mv_b σ (P + 10)) ms ht hg)
theorem ri_ne {σ : mv_H} {o k o' k' : Nat} {v : Int32} (h : ¬ (o' = o ∧ k' = k)) : mv_i (mv_si σ o k v) o' k' = mv_i σ o' k' := mv_u_ne (mv_i σ) v h
theorem ri_eq (σ : mv_H) (o k : Nat) (v : Int32) : mv_i (mv_si σ o k v) o k = v := mv_u_same (mv_i σ) o k v
theorem ra_ne {σ : mv_H} {o i o' : Nat} {v : Int32} (h : o' ≠ o) : mv_a (mv_sa σ o i v) o' = mv_a σ o' := mv_u_o (mv_a σ) v h
theorem rb_ne {σ : mv_H} {o i o' : Nat} {v : Int64} (h : o' ≠ o) : mv_b (mv_sb σ o i v) o' = mv_b σ o' := mv_u_o (mv_b σ) v h
section XMS
variable {P th e0 bs : Nat} {BL : (Nat → Nat) → Prop} {f0 : Nat → Int32} {g0 : Nat → Int64} {ns : Nat} {σ τ : mv_H} {ms : List Mk} {hl ht s : Nat}
theorem XM.fr (h : XM P th e0 bs BL f0 g0 ns σ ms hl ht s) (e8 : mv_i τ 22 8 = mv_i σ 22 8) (e10 : mv_i τ 22 10 = mv_i σ 22 10) (e17 : mv_i τ P 17 = mv_i σ P 17) (e21 : mv_i τ 21 0 = mv_i σ 21 0) (a23 : mv_a τ 23 = mv_a σ 23) (a24 : mv_a τ 24 = mv_a σ 24) (a25 : mv_a τ 25 = mv_a σ 25) (a9 : mv_a τ (P + 9) = mv_a σ (P + 9)) (b10 : mv_b τ (P + 10) = mv_b σ (P + 10)) : XM P th e0 bs BL f0 g0 ns τ ms hl ht s := by
  unfold XM at h ⊢
  rw [e8, e10, e17, e21, a23, a24, a25, a9, b10]
  exact h
theorem XM.c3 (h : XM P th e0 bs BL f0 g0 ns σ ms hl ht s) (hP : PQ P) (k : Nat) (v : Int32) : XM P th e0 bs BL f0 g0 ns (mv_si σ 3 k v) ms hl ht s := by
  unfold PQ at hP
  exact h.fr (ri_ne (by omega)) (ri_ne (by omega)) (ri_ne (by omega)) (ri_ne (by omega)) rfl rfl rfl rfl rfl
theorem XM.tk3 (h : XM P th e0 bs BL f0 g0 ns σ ms hl ht s) (hP : PQ P) (a d w : Int32) : XM P th e0 bs BL f0 g0 ns (tk3 σ a d w) ms hl ht s := ((h.c3 hP 7 a).c3 hP 8 d).c3 hP 9 w
theorem XM.c26 (h : XM P th e0 bs BL f0 g0 ns σ ms hl ht s) (hP : PQ P) (i : Nat) (v : Int32) : XM P th e0 bs BL f0 g0 ns (mv_sa σ 26 i v) ms hl ht s := by
  unfold PQ at hP
  exact h.fr rfl rfl rfl rfl (ra_ne (by omega)) (ra_ne (by omega)) (ra_ne (by omega)) (ra_ne (by omega)) rfl
def ex_hold (σ : mv_H) (w : Int32) : mv_H := mv_si (mv_sa σ 27 (mv_i σ 22 10).toNatClampNeg w) 22 10 (mv_i σ 22 10 + 1)
def ex_rel (σ : mv_H) : mv_H := mv_si σ 22 10 (mv_i σ 22 10 - 1)
def ex_tell (σ : mv_H) (x y : Int32) : mv_H := mv_si (mv_si σ 21 0 x) 21 1 y
def ex_pop (σ : mv_H) : mv_H := mv_si σ 22 8 (mv_i σ 22 8 - 1)
def ex_mark (σ : mv_H) (k v : Int32) : mv_H := mv_si (mv_sa (mv_sa (mv_sa σ 23 (mv_i σ 22 8).toNatClampNeg k) 24 (mv_i σ 22 8).toNatClampNeg v) 25 (mv_i σ 22 8).toNatClampNeg 0) 22 8 (mv_i σ 22 8 + 1)
theorem XM.hold (h : XM P th e0 bs BL f0 g0 ns σ ms hl ht s) (hP : PQ P) (hh : hl < 1000000) (w : Int32) : XM P th e0 bs BL f0 g0 ns (ex_hold σ w) ms (hl + 1) ht s := by
  unfold PQ at hP
  obtain ⟨⟨h1, h2, h3, h4⟩, h5, h6⟩ := h
  have e10 : mv_i (ex_hold σ w) 22 10 = mv_i σ 22 10 + 1 := rfl
  have e8 : mv_i (ex_hold σ w) 22 8 = mv_i σ 22 8 := rfl
  have e17 : mv_i (ex_hold σ w) P 17 = mv_i σ P 17 := ri_ne (by omega)
  have e21 : mv_i (ex_hold σ w) 21 0 = mv_i σ 21 0 := rfl
  have a23 : mv_a (ex_hold σ w) 23 = mv_a σ 23 := ra_ne (by omega)
  have a24 : mv_a (ex_hold σ w) 24 = mv_a σ 24 := ra_ne (by omega)
  have a25 : mv_a (ex_hold σ w) 25 = mv_a σ 25 := ra_ne (by omega)
  have a9 : mv_a (ex_hold σ w) (P + 9) = mv_a σ (P + 9) := ra_ne (by omega)
  have b10 : mv_b (ex_hold σ w) (P + 10) = mv_b σ (P + 10) := rfl
  unfold XM
  rw [e8, e10, e17, e21, a23, a24, a25, a9, b10]
  exact ⟨⟨h1, h2, by rw [i32_inc (by omega)]; omega, h4⟩, h5, h6⟩
theorem XM.rel (h : XM P th e0 bs BL f0 g0 ns σ ms (hl + 1) ht s) (hP : PQ P) : XM P th e0 bs BL f0 g0 ns (ex_rel σ) ms hl ht s := by
  unfold PQ at hP
  obtain ⟨⟨h1, h2, h3, h4⟩, h5, h6⟩ := h
  have e10 : mv_i (ex_rel σ) 22 10 = mv_i σ 22 10 - 1 := rfl
  have e8 : mv_i (ex_rel σ) 22 8 = mv_i σ 22 8 := rfl
  have e17 : mv_i (ex_rel σ) P 17 = mv_i σ P 17 := ri_ne (by omega)
  have e21 : mv_i (ex_rel σ) 21 0 = mv_i σ 21 0 := rfl
  have a23 : mv_a (ex_rel σ) = mv_a σ := rfl
  have b10 : mv_b (ex_rel σ) = mv_b σ := rfl
  unfold XM
  rw [e8, e10, e17, e21, a23, b10]
  exact ⟨⟨h1, h2, by rw [sub_one (by omega)]; omega, h4⟩, h5, h6⟩
theorem XM.tell (h : XM P th e0 bs BL f0 g0 ns σ ms hl ht s) (hP : PQ P) {x : Int32} (hx : ¬ x = 0) (y : Int32) (ht' : Nat) : XM P th e0 bs BL f0 g0 ns (ex_tell σ x y) ms hl ht' s := by
  unfold PQ at hP
  obtain ⟨h1, h5, h6⟩ := h
  have e10 : mv_i (ex_tell σ x y) 22 10 = mv_i σ 22 10 := rfl
  have e8 : mv_i (ex_tell σ x y) 22 8 = mv_i σ 22 8 := rfl
  have e17 : mv_i (ex_tell σ x y) P 17 = mv_i σ P 17 := (ri_ne (by omega)).trans (ri_ne (by omega))
  have e21 : mv_i (ex_tell σ x y) 21 0 = x := rfl
  have a23 : mv_a (ex_tell σ x y) = mv_a σ := rfl
  have b10 : mv_b (ex_tell σ x y) = mv_b σ := rfl
  unfold XM
  rw [e8, e10, e17, e21, a23, b10]
  exact ⟨h1, h5, fun q => absurd q hx⟩
/-- once a fault is told heights are no more asked for -/
theorem XM.free (h : XM P th e0 bs BL f0 g0 ns σ ms hl ht s) (hx : ¬ mv_i σ 21 0 = 0) (ht' : Nat) : XM P th e0 bs BL f0 g0 ns σ ms hl ht' s := ⟨h.1, h.2.1, fun q => absurd q hx⟩
theorem XM.pop {m : Mk} (h : XM P th e0 bs BL f0 g0 ns σ (m :: ms) hl ht s) (hP : PQ P) (hm : ¬ m.1 = 63 ∧ ¬ m.1 = 58) : XM P th e0 bs BL f0 g0 ns (ex_pop σ) ms hl ht s := by
  unfold PQ at hP
  obtain ⟨⟨h1, h2, h3, h4, h4a, h4b⟩, h5, h6⟩ := h
  have hl1 : (m :: ms).length = ms.length + 1 := rfl
  have e8 : mv_i (ex_pop σ) 22 8 = mv_i σ 22 8 - 1 := rfl
  have e10 : mv_i (ex_pop σ) 22 10 = mv_i σ 22 10 := rfl
  have e17 : mv_i (ex_pop σ) P 17 = mv_i σ P 17 := ri_ne (by omega)
  have e21 : mv_i (ex_pop σ) 21 0 = mv_i σ 21 0 := rfl
  have a23 : mv_a (ex_pop σ) = mv_a σ := rfl
  have b10 : mv_b (ex_pop σ) = mv_b σ := rfl
  unfold XM
  rw [e8, e10, e17, e21, a23, b10]
  exact ⟨⟨by rw [sub_one (by omega)]; omega, h2.2.2, h3, h4, h4a.2, h4b.tail⟩, h5, fun q => by obtain ⟨hg, k1, k2⟩ := h6 q; exact ⟨hg, k1, k2.pop hm⟩⟩
theorem Mt.up {ft ft' : Nat → Int32} (h : Mt ft) {n : Nat} {v : Int32} (hv : 0 ≤ v.toInt ∧ v.toInt < 32770) (e : ∀ j, ft' j = if j = n then v else ft j) : Mt ft' := fun i hi => by
  rw [e]
  split
  · exact hv
  · exact h i hi
theorem row1 (σ : mv_H) (o i : Nat) (v : Int32) (j : Nat) : mv_a (mv_sa σ o i v) o j = if j = i then v else mv_a σ o j := u_row (mv_a σ) o i v j
theorem row2 (σ : mv_H) (o i : Nat) (v : Int64) (j : Nat) : mv_b (mv_sb σ o i v) o j = if j = i then v else mv_b σ o j := u_row (mv_b σ) o i v j
theorem mk_i8 (σ : mv_H) (k v : Int32) : mv_i (ex_mark σ k v) 22 8 = mv_i σ 22 8 + 1 := ri_eq _ _ _ _
theorem mk_i (σ : mv_H) (k v : Int32) {o x : Nat} (h : ¬ (o = 22 ∧ x = 8)) : mv_i (ex_mark σ k v) o x = mv_i σ o x := ri_ne h
theorem mk_23 (σ : mv_H) (k v : Int32) (j : Nat) : mv_a (ex_mark σ k v) 23 j = if j = (mv_i σ 22 8).toNatClampNeg then k else mv_a σ 23 j := row1 σ 23 _ k j
theorem mk_24 (σ : mv_H) (k v : Int32) (j : Nat) : mv_a (ex_mark σ k v) 24 j = if j = (mv_i σ 22 8).toNatClampNeg then v else mv_a σ 24 j := row1 (mv_sa σ 23 (mv_i σ 22 8).toNatClampNeg k) 24 _ v j
theorem mk_25 (σ : mv_H) (k v : Int32) (j : Nat) : mv_a (ex_mark σ k v) 25 j = if j = (mv_i σ 22 8).toNatClampNeg then 0 else mv_a σ 25 j := row1 (mv_sa (mv_sa σ 23 (mv_i σ 22 8).toNatClampNeg k) 24 (mv_i σ 22 8).toNatClampNeg v) 25 _ 0 j
theorem mk_o (σ : mv_H) (k v : Int32) {o : Nat} (h : o < 23 ∨ 25 < o) : mv_a (ex_mark σ k v) o = mv_a σ o := ((ra_ne (by omega)).trans (ra_ne (by omega))).trans (ra_ne (by omega))
theorem XM.n (h : XM P th e0 bs BL f0 g0 ns σ ms hl ht s) : (mv_i σ 22 8).toNatClampNeg = ms.length := by
  have := h.1.1
  have := i32_cl (x := mv_i σ 22 8) (by omega)
  omega
theorem XM.sz (h : XM P th e0 bs BL f0 g0 ns σ ms hl ht s) : (mv_i σ P 17).toNatClampNeg = s := by
  have := h.2.1.1
  have := i32_cl (x := mv_i σ P 17) (by omega)
  omega
/-- the rows of marks with one more -/
theorem mk_rows (h : XM P th e0 bs BL f0 g0 ns σ ms hl ht s) {k w : Int32} {fk fw : Nat → Int32} (ek : ∀ j, fk j = if j = ms.length then k else mv_a σ 23 j) (ew : ∀ j, fw j = if j = ms.length then w else mv_a σ 25 j) : MkR fk fw ((k, w) :: ms) :=
  ⟨by rw [ek, if_pos rfl], by rw [ew, if_pos rfl], MkR.con ms h.1.2.1 (fun i q => ⟨by rw [ek, if_neg (by omega)], by rw [ew, if_neg (by omega)]⟩)⟩
theorem XM.mark (h : XM P th e0 bs BL f0 g0 ns σ ms hl ht s) (hP : PQ P) (hn : ms.length < 1024) {k v : Int32} (hv : 0 ≤ v.toInt ∧ v.toInt < 32770) (hk : ¬ k = 63 ∧ ¬ k = 58 ∧ ¬ k = 91) (hr : 0 < lvl k → tl ms < lvl k) : XM P th e0 bs BL f0 g0 ns (ex_mark σ k v) ((k, 0) :: ms) hl ht s := by
  have en := h.n
  have h0 := h
  unfold PQ at hP
  obtain ⟨⟨h1, h2, h3, h4, h4a, h4b⟩, h5, h6⟩ := h
  unfold XM
  rw [mk_i8, mk_i σ k v (show ¬ (22 = 22 ∧ 10 = 8) by omega), mk_i σ k v (show ¬ (P = 22 ∧ 17 = 8) by omega), mk_i σ k v (show ¬ (21 = 22 ∧ 0 = 8) by omega), mk_o σ k v (show P + 9 < 23 ∨ 25 < P + 9 by omega)]
  refine ⟨⟨by rw [i32_inc (by omega)]; show (mv_i σ 22 8).toInt + 1 = ((ms.length + 1 : Nat) : Int); omega, mk_rows h0 (fun j => by rw [mk_23, en]) (fun j => by rw [mk_25, en]), h3, h4.up hv (mk_24 σ k v), ⟨hr, h4a⟩, h4b.cons (fun q => absurd q (by rintro (q | q); exact hk.1 q; exact hk.2.1 q)) (fun q => absurd q hk.2.2)⟩, h5, fun q => ?_⟩
  obtain ⟨hg, k1, k2⟩ := h6 q
  exact ⟨hg, k1, k2.push ⟨hk.1, hk.2.1⟩⟩
theorem XM.mark91 (h : XM P th e0 bs BL f0 g0 ns σ ms hl ht s) (hP : PQ P) (hn : ms.length < 1024) {v w : Int32} {i : Nat} (hi : i = ms.length) (hv : 0 ≤ v.toInt ∧ v.toInt < 32770) (hw : 0 ≤ w.toInt ∧ w.toInt < th) : XM P th e0 bs BL f0 g0 ns (mv_sa (ex_mark σ 91 v) 25 i w) ((91, w) :: ms) hl ht s := by
  have en := h.n
  have h0 := h
  unfold PQ at hP
  obtain ⟨⟨h1, h2, h3, h4, h4a, h4b⟩, h5, h6⟩ := h
  have a23 : mv_a (mv_sa (ex_mark σ 91 v) 25 i w) 23 = mv_a (ex_mark σ 91 v) 23 := ra_ne (by omega)
  have a24 : mv_a (mv_sa (ex_mark σ 91 v) 25 i w) 24 = mv_a (ex_mark σ 91 v) 24 := ra_ne (by omega)
  have a9 : mv_a (mv_sa (ex_mark σ 91 v) 25 i w) (P + 9) = mv_a σ (P + 9) := (ra_ne (by omega)).trans (mk_o σ 91 v (by omega))
  have i8 : mv_i (mv_sa (ex_mark σ 91 v) 25 i w) 22 8 = mv_i σ 22 8 + 1 := rfl
  have i10 : mv_i (mv_sa (ex_mark σ 91 v) 25 i w) 22 10 = mv_i σ 22 10 := rfl
  have i17 : mv_i (mv_sa (ex_mark σ 91 v) 25 i w) P 17 = mv_i σ P 17 := mk_i σ 91 v (by omega)
  have i21 : mv_i (mv_sa (ex_mark σ 91 v) 25 i w) 21 0 = mv_i σ 21 0 := rfl
  have b10 : mv_b (mv_sa (ex_mark σ 91 v) 25 i w) = mv_b σ := rfl
  unfold XM
  rw [i8, i10, i17, i21, a23, a24, a9, b10]
  refine ⟨⟨by rw [i32_inc (by omega)]; show (mv_i σ 22 8).toInt + 1 = ((ms.length + 1 : Nat) : Int); omega, mk_rows h0 (fun j => by rw [mk_23, en]) (fun j => by rw [row1, mk_25, en, hi]; split <;> rfl), h3, h4.up hv (mk_24 σ 91 v), ⟨fun q => absurd (show 0 < lvl 91 from q) (by decide), h4a⟩, h4b.cons (fun q => absurd q (by show ¬ ((91 : Int32) = 63 ∨ (91 : Int32) = 58); decide)) (fun _ => hw)⟩, h5, fun q => ?_⟩
  obtain ⟨hg, k1, k2⟩ := h6 q
  exact ⟨hg, k1, k2.push ⟨by show ¬ (91 : Int32) = 63; decide, by show ¬ (91 : Int32) = 58; decide⟩⟩
theorem XM.with {k w w' : Int32} {i : Nat} (h : XM P th e0 bs BL f0 g0 ns σ ((k, w) :: ms) hl ht s) (hP : PQ P) (hi : i = ms.length) (hk : ¬ k = 63 ∧ ¬ k = 58 ∧ ¬ k = 91) : XM P th e0 bs BL f0 g0 ns (mv_sa σ 25 i w') ((k, w') :: ms) hl ht s := by
  unfold PQ at hP
  obtain ⟨⟨h1, h2, h3, h4, h4a, h4b⟩, h5, h6⟩ := h
  have a23 : mv_a (mv_sa σ 25 i w') 23 = mv_a σ 23 := ra_ne (by omega)
  have a24 : mv_a (mv_sa σ 25 i w') 24 = mv_a σ 24 := ra_ne (by omega)
  have a9 : mv_a (mv_sa σ 25 i w') (P + 9) = mv_a σ (P + 9) := ra_ne (by omega)
  have e : mv_i (mv_sa σ 25 i w') = mv_i σ := rfl
  have b10 : mv_b (mv_sa σ 25 i w') = mv_b σ := rfl
  unfold XM
  rw [e, a23, a24, a9, b10]
  refine ⟨⟨h1, ⟨h2.1, by rw [row1, hi, if_pos rfl], MkR.con ms h2.2.2 (fun j q => ⟨rfl, by rw [row1, hi, if_neg (by omega)]⟩)⟩, h3, h4, h4a, h4b.tail.cons (fun q => absurd q (by rintro (q | q); exact hk.1 q; exact hk.2.1 q)) (fun q => absurd q hk.2.2)⟩, h5, fun q => ?_⟩
  obtain ⟨hg, k1, k2⟩ := h6 q
  exact ⟨hg, k1, (k2.pop ⟨hk.1, hk.2.1⟩).push ⟨hk.1, hk.2.1⟩⟩
theorem em_i17 (σ : mv_H) (d : Int32) (w : Int64) : mv_i (pr_emit P σ d w) P 17 = mv_i σ P 17 + 1 := ri_eq _ _ _ _
theorem em_i (σ : mv_H) (d : Int32) (w : Int64) {o x : Nat} (h : ¬ (o = P ∧ x = 17)) : mv_i (pr_emit P σ d w) o x = mv_i σ o x := ri_ne h
theorem em_f (σ : mv_H) (d : Int32) (w : Int64) (j : Nat) : mv_a (pr_emit P σ d w) (P + 9) j = if j = (mv_i σ P 17).toNatClampNeg then d else mv_a σ (P + 9) j := row1 σ (P + 9) _ d j
theorem em_g (σ : mv_H) (d : Int32) (w : Int64) (j : Nat) : mv_b (pr_emit P σ d w) (P + 10) j = if j = (mv_i σ P 17).toNatClampNeg then w else mv_b σ (P + 10) j := row2 (mv_sa σ (P + 9) (mv_i σ P 17).toNatClampNeg d) (P + 10) _ w j
theorem em_a (σ : mv_H) (d : Int32) (w : Int64) {o : Nat} (h : o ≠ P + 9) : mv_a (pr_emit P σ d w) o = mv_a σ o := ra_ne h
theorem nSet_up {f f' : Nat → Int32} {s : Nat} {d : Int32} (hf : ∀ j, f' j = if j = s then d else f j) : nSet f' (s + 1) = nSet f s + isSet d := by
  show nSet f' s + isSet (f' s) = _
  rw [nSet_con s (fun i q => (hf i).trans (if_neg (by omega))), hf, if_pos rfl]
theorem XM.emit (h : XM P th e0 bs BL f0 g0 ns σ ms hl ht s) (hP : PQ P) (hs : s < 1000000) {d : Int32} {w : Int64} (ht' : Nat) (hd : ¬ d = 311 ∧ ¬ d = 312 ∧ ¬ d = 316 ∧ ¬ d = 317) (hO : Op1 th d w (bs + ht) (bs + ht')) (hb : bs + ht' ≤ 1000) : XM P th e0 bs BL f0 g0 (ns + isSet d) (pr_emit P σ d w) ms hl ht' (s + 1) := by
  have en := h.sz
  unfold PQ at hP
  obtain ⟨⟨h1, h2, h3, h4, h4a, h4b⟩, ⟨h5, h5a, h5b, h5c, h5d⟩, h6⟩ := h
  have ef : ∀ j, mv_a (pr_emit P σ d w) (P + 9) j = if j = s then d else mv_a σ (P + 9) j := fun j => by rw [em_f, en]
  have eg : ∀ j, mv_b (pr_emit P σ d w) (P + 10) j = if j = s then w else mv_b σ (P + 10) j := fun j => by rw [em_g, en]
  unfold XM
  rw [em_i σ d w (show ¬ (22 = P ∧ 8 = 17) by omega), em_i σ d w (show ¬ (22 = P ∧ 10 = 17) by omega), em_i17, em_i σ d w (show ¬ (21 = P ∧ 0 = 17) by omega), em_a σ d w (show 23 ≠ P + 9 by omega), em_a σ d w (show 24 ≠ P + 9 by omega), em_a σ d w (show 25 ≠ P + 9 by omega)]
  refine ⟨⟨h1, h2, h3, h4, h4a, h4b.up (by omega)⟩, ⟨by rw [i32_inc (by omega)]; omega, by omega, fun a q => by rw [ef, eg, if_neg (by omega), if_neg (by omega)]; exact h5b a q, by rw [nSet_up ef, h5c], h5d⟩, fun q => ?_⟩
  obtain ⟨hg, k1, k2⟩ := h6 q
  exact ⟨_, h5d hg _ (fun a q => hgx_lo a (by omega)) k1, k2.emit h4b ef eg hd hO hb⟩
theorem XM.choose (h : XM P th e0 bs BL f0 g0 ns σ ms (hl + 1) (sm wr ms + 1) s) (hP : PQ P) (hs : s < 1000000) (hn : ms.length < 1024) {v x u : Int32} {w : Int64} {i i' : Nat} (hi : i = ms.length) (hv : 0 ≤ v.toInt ∧ v.toInt < 32770) (hu : u.toInt = s) (hb : bs + sm wr ms ≤ 1000) :
    XM P th e0 bs BL f0 g0 ns (mv_sa (pr_emit P (mv_sa (ex_rel (ex_mark σ 63 v)) 26 i' x) 312 w) 25 i u) ((63, u) :: ms) hl (sm wr ms) (s + 1) := by
  have en := h.n
  have es := h.sz
  have h0 := h
  unfold PQ at hP
  obtain ⟨⟨h1, h2, h3, h4, h4a, h4b⟩, ⟨h5, h5a, h5b, h5c, h5d⟩, h6⟩ := h
  obtain ⟨R, eR⟩ : ∃ R, R = mv_sa (ex_rel (ex_mark σ 63 v)) 26 i' x := ⟨_, rfl⟩
  have r17 : mv_i R P 17 = mv_i σ P 17 := by rw [eR]; exact (ri_ne (by omega)).trans (mk_i σ 63 v (by omega))
  have r8 : mv_i R 22 8 = mv_i σ 22 8 + 1 := by rw [eR]; rfl
  have r10 : mv_i R 22 10 = mv_i σ 22 10 - 1 := by rw [eR]; rfl
  have r21 : mv_i R 21 0 = mv_i σ 21 0 := by rw [eR]; rfl
  have ra : ∀ o, o ≠ 26 → mv_a R o = mv_a (ex_mark σ 63 v) o := fun o q => by rw [eR]; exact ra_ne q
  have rb : mv_b R = mv_b σ := by rw [eR]; rfl
  rw [← eR]
  clear eR
  have c23 : ∀ j, mv_a (mv_sa (pr_emit P R 312 w) 25 i u) 23 j = if j = ms.length then 63 else mv_a σ 23 j := fun j => by
    have : mv_a (mv_sa (pr_emit P R 312 w) 25 i u) 23 = mv_a (pr_emit P R 312 w) 23 := ra_ne (by omega)
    rw [this, em_a R 312 w (show 23 ≠ P + 9 by omega), ra 23 (by omega), mk_23, en]
  have c24 : ∀ j, mv_a (mv_sa (pr_emit P R 312 w) 25 i u) 24 j = if j = ms.length then v else mv_a σ 24 j := fun j => by
    have : mv_a (mv_sa (pr_emit P R 312 w) 25 i u) 24 = mv_a (pr_emit P R 312 w) 24 := ra_ne (by omega)
    rw [this, em_a R 312 w (show 24 ≠ P + 9 by omega), ra 24 (by omega), mk_24, en]
  have c25 : ∀ j, mv_a (mv_sa (pr_emit P R 312 w) 25 i u) 25 j = if j = ms.length then u else mv_a σ 25 j := fun j => by
    rw [row1, hi, em_a R 312 w (show 25 ≠ P + 9 by omega), ra 25 (by omega), mk_25, en]
    split <;> rfl
  have ef : ∀ j, mv_a (mv_sa (pr_emit P R 312 w) 25 i u) (P + 9) j = if j = s then 312 else mv_a σ (P + 9) j := fun j => by
    have : mv_a (mv_sa (pr_emit P R 312 w) 25 i u) (P + 9) = mv_a (pr_emit P R 312 w) (P + 9) := ra_ne (by omega)
    rw [this, em_f, r17, es, ra (P + 9) (by omega), mk_o σ 63 v (show P + 9 < 23 ∨ 25 < P + 9 by omega)]
  have eg : ∀ j, mv_b (mv_sa (pr_emit P R 312 w) 25 i u) (P + 10) j = if j = s then w else mv_b σ (P + 10) j := fun j => by
    have : mv_b (mv_sa (pr_emit P R 312 w) 25 i u) (P + 10) = mv_b (pr_emit P R 312 w) (P + 10) := rfl
    rw [this, em_g, r17, es, rb]
  have i8 : mv_i (mv_sa (pr_emit P R 312 w) 25 i u) 22 8 = mv_i σ 22 8 + 1 := (em_i (o := 22) (x := 8) R 312 w (by omega)).trans r8
  have i10 : mv_i (mv_sa (pr_emit P R 312 w) 25 i u) 22 10 = mv_i σ 22 10 - 1 := (em_i (o := 22) (x := 10) R 312 w (by omega)).trans r10
  have i17 : mv_i (mv_sa (pr_emit P R 312 w) 25 i u) P 17 = mv_i σ P 17 + 1 := (em_i17 R 312 w).trans (by rw [r17])
  have i21 : mv_i (mv_sa (pr_emit P R 312 w) 25 i u) 21 0 = mv_i σ 21 0 := (em_i (o := 21) (x := 0) R 312 w (by omega)).trans r21
  unfold XM
  rw [i8, i10, i17, i21]
  refine ⟨⟨by rw [i32_inc (by omega)]; show (mv_i σ 22 8).toInt + 1 = ((ms.length + 1 : Nat) : Int); omega, mk_rows h0 c23 c25, by rw [sub_one (by omega)]; omega, h4.up hv c24, ⟨fun q => absurd (show 0 < lvl 63 from q) (by decide), h4a⟩, (h4b.up (by omega)).cons (fun _ => ⟨s, hu, h5a, by omega⟩) (fun q => absurd (show (63 : Int32) = 91 from q) (by decide))⟩, ⟨by rw [i32_inc (by omega)]; omega, by omega, fun a q => by rw [ef, eg, if_neg (by omega), if_neg (by omega)]; exact h5b a q, ?_, h5d⟩, fun q => ?_⟩
  · rw [nSet_up ef, h5c]
    show ns + isSet (312 : Int32) = ns
    rw [show isSet (312 : Int32) = 0 by decide]
    omega
  · obtain ⟨hg, k1, k2⟩ := h6 q
    exact ⟨_, h5d hg _ (fun a q => hgx_lo a (by omega)) k1, k2.choose h4b h5a hu ef eg hb⟩
theorem XM.otherwise {y : Int32} (h : XM P th e0 bs BL f0 g0 ns σ ((63, y) :: ms) hl (sm wr ms + 1) s) (hP : PQ P) (hs : s < 1000000) {u : Int32} {w w1 : Int64} {i i' : Nat} (hi : i = ms.length) (hi' : i' = ms.length) (hu : u.toInt = s) (hw1 : w1.toInt = s + 1) (hb : bs + sm wr ms ≤ 1000) :
    XM P th e0 bs BL f0 g0 ns (mv_sb (mv_sa (pr_emit P (mv_sa σ 23 i 58) 311 w) 25 i' u) (P + 10) y.toNatClampNeg w1) ((58, u) :: ms) hl (sm wr ms) (s + 1) := by
  have es := h.sz
  unfold PQ at hP
  obtain ⟨⟨h1, h2, h3, h4, h4a, h4b⟩, ⟨h5, h5a, h5b, h5c, h5d⟩, h6⟩ := h
  obtain ⟨y', k1, k2, k3⟩ := h4b.head.1 (Or.inl rfl)
  have k1 : y.toInt = y' := k1
  have ey := i32_cl (x := y) (by omega)
  obtain ⟨T, eT⟩ : ∃ T, T = mv_sb (mv_sa (pr_emit P (mv_sa σ 23 i 58) 311 w) 25 i' u) (P + 10) y.toNatClampNeg w1 := ⟨_, rfl⟩
  have i8 : mv_i T 22 8 = mv_i σ 22 8 := by rw [eT]; exact em_i (o := 22) (x := 8) (mv_sa σ 23 i 58) 311 w (by omega)
  have i10 : mv_i T 22 10 = mv_i σ 22 10 := by rw [eT]; exact em_i (o := 22) (x := 10) (mv_sa σ 23 i 58) 311 w (by omega)
  have i17 : mv_i T P 17 = mv_i σ P 17 + 1 := by rw [eT]; exact em_i17 (mv_sa σ 23 i 58) 311 w
  have i21 : mv_i T 21 0 = mv_i σ 21 0 := by rw [eT]; exact em_i (o := 21) (x := 0) (mv_sa σ 23 i 58) 311 w (by omega)
  have c23 : ∀ j, mv_a T 23 j = if j = ms.length then 58 else mv_a σ 23 j := fun j => by
    have : mv_a T 23 = mv_a (pr_emit P (mv_sa σ 23 i 58) 311 w) 23 := by rw [eT]; rfl
    rw [this, em_a (mv_sa σ 23 i 58) 311 w (show 23 ≠ P + 9 by omega), row1, hi]
  have c24 : mv_a T 24 = mv_a σ 24 := by
    have : mv_a T 24 = mv_a (pr_emit P (mv_sa σ 23 i 58) 311 w) 24 := by rw [eT]; rfl
    rw [this, em_a (mv_sa σ 23 i 58) 311 w (show 24 ≠ P + 9 by omega)]
    exact ra_ne (by omega)
  have c25 : ∀ j, mv_a T 25 j = if j = ms.length then u else mv_a σ 25 j := fun j => by
    have : mv_a T 25 = mv_a (mv_sa (pr_emit P (mv_sa σ 23 i 58) 311 w) 25 i' u) 25 := by rw [eT]; rfl
    have e2 : mv_a (mv_sa σ 23 i 58) 25 = mv_a σ 25 := ra_ne (by omega)
    rw [this, row1, hi', em_a (mv_sa σ 23 i 58) 311 w (show 25 ≠ P + 9 by omega), e2]
  have ef : ∀ j, mv_a T (P + 9) j = if j = s then 311 else mv_a σ (P + 9) j := fun j => by
    have : mv_a T (P + 9) = mv_a (pr_emit P (mv_sa σ 23 i 58) 311 w) (P + 9) := by rw [eT]; exact ra_ne (by omega)
    have e2 : mv_a (mv_sa σ 23 i 58) (P + 9) = mv_a σ (P + 9) := ra_ne (by omega)
    have e3 : (mv_i (mv_sa σ 23 i 58) P 17).toNatClampNeg = s := es
    rw [this, em_f, e3, e2]
  have eg : ∀ j, mv_b T (P + 10) j = if (j : Int) = y.toInt then w1 else if j = s then w else mv_b σ (P + 10) j := fun j => by
    have e1 : mv_b T (P + 10) j = if j = y.toNatClampNeg then w1 else mv_b (mv_sa (pr_emit P (mv_sa σ 23 i 58) 311 w) 25 i' u) (P + 10) j := by rw [eT]; exact row2 _ _ _ _ _
    have e2 : mv_b (mv_sa (pr_emit P (mv_sa σ 23 i 58) 311 w) 25 i' u) (P + 10) j = mv_b (pr_emit P (mv_sa σ 23 i 58) 311 w) (P + 10) j := rfl
    have e3 : (mv_i (mv_sa σ 23 i 58) P 17).toNatClampNeg = s := es
    have e4 : mv_b (mv_sa σ 23 i 58) (P + 10) j = mv_b σ (P + 10) j := rfl
    rw [e1, e2, em_g, e3, e4]
    by_cases q : j = y.toNatClampNeg
    · rw [if_pos q, if_pos (by omega)]
    · rw [if_neg q, if_neg (show ¬ (j : Int) = y.toInt by omega)]
  rw [← eT]
  clear eT
  unfold XM
  rw [i8, i10, i17, i21, c24]
  refine ⟨⟨h1, ⟨by rw [c23, if_pos rfl], by rw [c25, if_pos rfl], MkR.con ms h2.2.2 (fun j q => ⟨by rw [c23, if_neg (by omega)], by rw [c25, if_neg (by omega)]⟩)⟩, h3, h4, ⟨fun q => absurd (show 0 < lvl 58 from q) (by decide), h4a.2⟩, (h4b.tail.up (by omega)).cons (fun _ => ⟨s, hu, h5a, by omega⟩) (fun q => absurd (show (58 : Int32) = 91 from q) (by decide))⟩, ⟨by rw [i32_inc (by omega)]; omega, by omega, fun a q => by rw [ef, eg, if_neg (by omega), if_neg (by omega), if_neg (by omega)]; exact h5b a q, ?_, h5d⟩, fun q => ?_⟩
  · rw [nSet_up ef, h5c]
    show ns + isSet (311 : Int32) = ns
    rw [show isSet (311 : Int32) = 0 by decide]
    omega
  · obtain ⟨hg, k1, k2⟩ := h6 q
    exact ⟨_, h5d hg _ (fun a q => hgx_lo a (by omega)) k1, k2.otherwise h4b h5a hu ef eg hw1 hb⟩
theorem XM.chosen {y : Int32} (h : XM P th e0 bs BL f0 g0 ns σ ((58, y) :: ms) hl (sm wr ms + 1) s) (hP : PQ P) {w1 : Int64} (hw1 : w1.toInt = s) :
    XM P th e0 bs BL f0 g0 ns (mv_sb (ex_pop σ) (P + 10) y.toNatClampNeg w1) ms hl (sm wr ms + 1) s := by
  unfold PQ at hP
  obtain ⟨⟨h1, h2, h3, h4, h4a, h4b⟩, ⟨h5, h5a, h5b, h5c, h5d⟩, h6⟩ := h
  have hl1 : (((58 : Int32), y) :: ms).length = ms.length + 1 := rfl
  obtain ⟨y', k1, k2, k3⟩ := h4b.head.1 (Or.inr rfl)
  have k1 : y.toInt = y' := k1
  have ey := i32_cl (x := y) (by omega)
  have i8 : mv_i (mv_sb (ex_pop σ) (P + 10) y.toNatClampNeg w1) 22 8 = mv_i σ 22 8 - 1 := rfl
  have i10 : mv_i (mv_sb (ex_pop σ) (P + 10) y.toNatClampNeg w1) 22 10 = mv_i σ 22 10 := rfl
  have i17 : mv_i (mv_sb (ex_pop σ) (P + 10) y.toNatClampNeg w1) P 17 = mv_i σ P 17 := ri_ne (by omega)
  have i21 : mv_i (mv_sb (ex_pop σ) (P + 10) y.toNatClampNeg w1) 21 0 = mv_i σ 21 0 := rfl
  have ea : mv_a (mv_sb (ex_pop σ) (P + 10) y.toNatClampNeg w1) = mv_a σ := rfl
  have eg : ∀ j, mv_b (mv_sb (ex_pop σ) (P + 10) y.toNatClampNeg w1) (P + 10) j = if (j : Int) = y.toInt then w1 else mv_b σ (P + 10) j := fun j => by
    have e1 : mv_b (mv_sb (ex_pop σ) (P + 10) y.toNatClampNeg w1) (P + 10) j = if j = y.toNatClampNeg then w1 else mv_b σ (P + 10) j := row2 (ex_pop σ) _ _ _ _
    rw [e1]
    by_cases q : j = y.toNatClampNeg
    · rw [if_pos q, if_pos (by omega)]
    · rw [if_neg q, if_neg (by omega)]
  unfold XM
  rw [i8, i10, i17, i21, ea]
  refine ⟨⟨by rw [sub_one (by omega)]; omega, h2.2.2, h3, h4, h4a.2, h4b.tail⟩, ⟨h5, h5a, fun a q => by rw [eg, if_neg (by omega)]; exact h5b a q, h5c, h5d⟩, fun q => ?_⟩
  obtain ⟨hg, j1, j2⟩ := h6 q
  exact ⟨hg, j1, j2.chosen h4b eg hw1⟩
end XMS
