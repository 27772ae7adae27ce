/-! rows s38 .. s48 -/
theorem i32n0 {y : Int32} (h : 0 < y) : ¬ y = 0 := fun e => by rw [e] at h; exact absurd h (by decide)
/-! the reference at token j: its state, what an EXPR may change -/
def aN (h : mv_H) (o i : Nat) : Nat := (mv_a h o i).toNatClampNeg
def iN (h : mv_H) (o k : Nat) : Nat := (mv_i h o k).toNatClampNeg
/-- the reader at token j, its number read -/
def rB (P N : Nat) (h : mv_H) (j : Nat) (v : Int64) : mv_H := rA P N h j (numv v (tok (ck h N) N j).2.2.1)
def HB (P N : Nat) (T : Nat → Nat) (d : Nat) (h : mv_H) : Prop := ((mv_i h P 2).toInt = N) ∧ (N ≤ 32768) ∧ (ck h N = T) ∧ (mv_i h P 8 = nI d) ∧ (d ≤ 200) ∧ (74 ≤ P)
theorem HB.n {P N : Nat} {T : Nat → Nat} {d : Nat} {h : mv_H} (h99 : HB P N T d h) : (mv_i h P 2).toInt = N := h99.1
theorem HB.n2 {P N : Nat} {T : Nat → Nat} {d : Nat} {h : mv_H} (h99 : HB P N T d h) : N ≤ 32768 := h99.2.1
theorem HB.t {P N : Nat} {T : Nat → Nat} {d : Nat} {h : mv_H} (h99 : HB P N T d h) : ck h N = T := h99.2.2.1
theorem HB.dp {P N : Nat} {T : Nat → Nat} {d : Nat} {h : mv_H} (h99 : HB P N T d h) : mv_i h P 8 = nI d := h99.2.2.2.1
theorem HB.d2 {P N : Nat} {T : Nat → Nat} {d : Nat} {h : mv_H} (h99 : HB P N T d h) : d ≤ 200 := h99.2.2.2.2.1
theorem HB.p {P N : Nat} {T : Nat → Nat} {d : Nat} {h : mv_H} (h99 : HB P N T d h) : 74 ≤ P := h99.2.2.2.2.2
/-- token j can be read: it and all before it are right -/
def gkT (T : Nat → Nat) (N j : Nat) : Prop := (tok T N j).2.2.2 = none ∧ ∀ i, i < j → goT T N i
theorem go_kd {T : Nat → Nat} {N j : Nat} (hb : (tok T N j).2.2.2 = none) (h1 : ¬ kdT T N j = 1) (h2 : ¬ kdT T N j = 2) : goT T N j := by
  unfold kdT at h1 h2
  by_cases a : ¬ (tok T N j).2.2.2 = none ∨ (tok T N j).1 = -1
  · rw [if_pos a] at h2; exact absurd rfl h2
  · rw [if_neg a] at h1
    by_cases c : (tok T N j).1 = 0
    · rw [if_pos c] at h1; exact absurd rfl h1
    · exact ⟨a, c⟩
section HBS
variable {P N : Nat} {T : Nat → Nat} {d : Nat} {h : mv_H} (H : HB P N T d h)
theorem HB.lt (H : HB P N T d h) : ∀ p, T p < 257 := fun p => by have := ck_lt h N p; rw [H.t] at this; omega
theorem HB.le (H : HB P N T d h) : mv_i h P 8 ≤ 60 ↔ d ≤ 60 := by
  have := nIle (a := d) (b := 60) (by have := H.d2; omega) (by decide)
  rw [H.dp]
  exact this
theorem HB.k4 (H : HB P N T d h) (j : Nat) (v : Int64) : mv_i (rB P N h j v) P 4 = (tok T N j).1 := by
  unfold rB
  rw [rA_4, H.t]
theorem HB.k5 (H : HB P N T d h) (j : Nat) (v : Int64) : mv_i (rB P N h j v) P 5 = nI (pos T N j) := by
  unfold rB
  rw [rA_5, H.t]
theorem HB.k6 (H : HB P N T d h) (j : Nat) (v : Int64) : mv_i (rB P N h j v) P 6 = nI (bp T N (j + 1)) := by
  unfold rB
  rw [rA_6, H.t]
theorem HB.k9 (H : HB P N T d h) {j : Nat} {v : Int64} {x : Nat} (e : (tok T N j).2.2.1 = some x) : mv_l (rB P N h j v) P 9 = nJ x := by
  unfold rB
  rw [rA_9, H.t, e]
  rfl
theorem rB_o {o k : Nat} (j : Nat) (v : Int64) (e : ¬ (o = P ∧ 3 ≤ k ∧ k ≤ 7)) : mv_i (rB P N h j v) o k = mv_i h o k := rA_o j _ e
theorem rB_a (o j : Nat) (v : Int64) : mv_a (rB P N h j v) o = mv_a h o := rfl
theorem rB_si {o k : Nat} (e : ¬ (o = P ∧ 3 ≤ k ∧ k ≤ 7)) (j : Nat) (v : Int64) (x : Int32) : mv_si (rB P N h j v) o k x = rB P N (mv_si h o k x) j v := rA_si e j _ x
theorem rB_sa {o : Nat} (e : ¬ o = 71) (k j : Nat) (v : Int64) (x : Int32) : mv_sa (rB P N h j v) o k x = rB P N (mv_sa h o k x) j v := by
  have ec : ck (mv_sa h o k x) N = ck h N := by
    funext p
    have : mv_a (mv_sa h o k x) 71 p = mv_a h 71 p := mv_u_ne (mv_a h) x (fun w => e w.1.symm)
    unfold ck
    rw [this]
  unfold rB
  rw [rA_sa e, ec]
theorem rB_sb (o k j : Nat) (v x : Int64) : mv_sb (rB P N h j v) o k x = rB P N (mv_sb h o k x) j v := rfl
/-- pass -/
theorem pS (H : HB P N T d h) {j : Nat} (G : gkT T N j) (h1 : ¬ kdT T N j = 1) (h2 : ¬ kdT T N j = 2) (v : Int64) : (ps (txT T N) d j = true ∧ gkT T N (j + 1) ∧ ∃ v', f_Book_pass P (rB P N h j v) = some (some 0, rB P N h (j + 1) v')) ∨ (ps (txT T N) d j = false ∧ ∃ g, f_Book_pass P (rB P N h j v) = some (none, g)) := by
  have ep : ps (txT T N) d j = true ↔ mv_i h P 8 ≤ 60 ∧ (tok (ck h N) N (j + 1)).2.2.2 = none := by
    unfold ps
    rw [Bool.and_eq_true, Nat.ble_eq, H.le, H.t, ← bkT_n]
    have : (txT T N).bk (j + 1) = bkT T N (j + 1) := rfl
    rw [this]
    cases bkT T N (j + 1) <;> simp
  by_cases c : mv_i h P 8 ≤ 60 ∧ (tok (ck h N) N (j + 1)).2.2.2 = none
  · refine Or.inl ⟨ep.mpr c, ⟨by rw [← H.t]; exact c.2, fun i hi => ?_⟩, _, pass_g H.n H.n2 _ c.1 c.2⟩
    by_cases e : i = j
    · rw [e]; exact go_kd G.1 h1 h2
    · exact G.2 i (by omega)
  · exact Or.inr ⟨Bool.eq_false_iff.mpr (fun w => c (ep.mp w)), pass_b H.n H.n2 _ c⟩
/-- need -/
theorem ndS (H : HB P N T d h) {j : Nat} (G : gkT T N j) {c : Nat} {k : Int32} (hc : ¬ c = 1 ∧ ¬ c = 2) (hk : (tok T N j).1 = k ↔ kdT T N j = c) (v : Int64) : (kdT T N j = c ∧ ps (txT T N) d j = true ∧ gkT T N (j + 1) ∧ ndq (txT T N) d j c = some () ∧ ∃ v', f_Book_need P (rB P N h j v) k = some (some 0, rB P N h (j + 1) v')) ∨ (ndq (txT T N) d j c = none ∧ ∃ g, f_Book_need P (rB P N h j v) k = some (none, g)) := by
  have eX : (txT T N).kd j = kdT T N j := rfl
  by_cases e : kdT T N j = c
  · rcases pS H G (by rw [e]; exact hc.1) (by rw [e]; exact hc.2) v with ⟨h1, h2, v', h3⟩ | ⟨h1, g, h3⟩
    · refine Or.inl ⟨e, h1, h2, ?_, v', ?_⟩
      · unfold ndq gd
        rw [eX, h1, e, Nat.beq_refl]
        rfl
      · unfold f_Book_need
        rw [H.k4, if_pos (hk.mpr e), h3, xtb_s]
    · refine Or.inr ⟨?_, g, ?_⟩
      · unfold ndq gd
        rw [eX, h1, Bool.and_false]
        rfl
      · unfold f_Book_need
        rw [H.k4, if_pos (hk.mpr e), h3, xtb_n]
  · refine Or.inr ⟨?_, ?_⟩
    · unfold ndq gd
      rw [eX, nbq e]
      rfl
    · unfold f_Book_need
      rw [H.k4, if_neg (fun w => e (hk.mp w))]
      exact ⟨_, rfl⟩
theorem HB.ch (H : HB P N T d h) {j c : Nat} (G : gkT T N j) (h1 : 33 ≤ c) (h2 : c < 127) : (tok T N j).1 = nI c ↔ kdT T N j = c := kd_ch H.lt G.1 h1 h2
/-- another depth -/
theorem HB.dep (H : HB P N T d h) {d2 : Nat} (h2 : d2 ≤ 200) : HB P N T d2 (mv_si h P 8 (nI d2)) := ⟨
  by
    have : mv_i (mv_si h P 8 (nI d2)) P 2 = mv_i h P 2 := mv_u_ne (mv_i h) _ (by omega)
    rw [this]; exact H.n,
  H.n2,
  H.t,
  mv_u_same (mv_i h) P 8 _,
  h2,
  H.p⟩
end HBS
/-- what the reading of an EXPR may change; m nodes stand before it -/
def XFr (P m : Nat) (h h' : mv_H) : Prop := (∀ o k, ¬ (o = P ∧ (k = 37 ∨ k = 38 ∨ k = 48)) → mv_i h' o k = mv_i h o k) ∧ (h'.2.1 = h.2.1) ∧ (mv_r h' = mv_r h) ∧ (∀ o, ¬ (P + 18 ≤ o ∧ o ≤ P + 25) → mv_a h' o = mv_a h o) ∧ (∀ k, k < m → mv_a h' (P + 23) k = mv_a h (P + 23) k) ∧ (∀ o, ¬ o = P + 24 → mv_b h' o = mv_b h o)
theorem XFr.i {P m : Nat} {h h' : mv_H} (h99 : XFr P m h h') : ∀ o k, ¬ (o = P ∧ (k = 37 ∨ k = 38 ∨ k = 48)) → mv_i h' o k = mv_i h o k := h99.1
theorem XFr.l {P m : Nat} {h h' : mv_H} (h99 : XFr P m h h') : h'.2.1 = h.2.1 := h99.2.1
theorem XFr.r {P m : Nat} {h h' : mv_H} (h99 : XFr P m h h') : mv_r h' = mv_r h := h99.2.2.1
theorem XFr.a {P m : Nat} {h h' : mv_H} (h99 : XFr P m h h') : ∀ o, ¬ (P + 18 ≤ o ∧ o ≤ P + 25) → mv_a h' o = mv_a h o := h99.2.2.2.1
theorem XFr.w {P m : Nat} {h h' : mv_H} (h99 : XFr P m h h') : ∀ k, k < m → mv_a h' (P + 23) k = mv_a h (P + 23) k := h99.2.2.2.2.1
theorem XFr.b {P m : Nat} {h h' : mv_H} (h99 : XFr P m h h') : ∀ o, ¬ o = P + 24 → mv_b h' o = mv_b h o := h99.2.2.2.2.2
theorem XFr.refl (P m : Nat) (h : mv_H) : XFr P m h h := ⟨fun _ _ _ => rfl, rfl, rfl, fun _ _ => rfl, fun _ _ => rfl, fun _ _ => rfl⟩
theorem XFr.trans {P m m1 : Nat} {h h1 h2 : mv_H} (a : XFr P m h h1) (b : XFr P m1 h1 h2) (e : m ≤ m1) : XFr P m h h2 := ⟨fun o k q => (b.i o k q).trans (a.i o k q), b.l.trans a.l, b.r.trans a.r, fun o q => (b.a o q).trans (a.a o q), fun k q => (b.w k (by omega)).trans (a.w k q), fun o q => (b.b o q).trans (a.b o q)⟩
/-- in and out of a depth -/
theorem XFr.dep {P m d : Nat} {x : Int32} {h h2 : mv_H} (a : XFr P m (mv_si h P 8 x) h2) (e : mv_i h P 8 = nI d) : XFr P m h (mv_si h2 P 8 (nI d)) := ⟨
  fun o k q => by
    by_cases z : o = P ∧ k = 8
    · rw [z.1, z.2, e]; exact mv_u_same (mv_i h2) P 8 _
    · exact (mv_u_ne (mv_i h2) _ z).trans ((a.i o k q).trans (mv_u_ne (mv_i h) _ z)),
  a.l,
  a.r,
  a.a,
  a.w,
  a.b⟩
/-- the rows of names: lets, THINGS and the op's code -/
def ROz (N : Nat) (x35 x17 x30 x29 : Int32) (r14 r15 r16 r1 r2 r3 r10 : Nat → Int32) : Prop := (x35 = nI x35.toNatClampNeg) ∧ (x35.toNatClampNeg ≤ 4100) ∧ (∀ i, i < x35.toNatClampNeg → r14 i = nI (r14 i).toNatClampNeg ∧ r15 i = nI (r15 i).toNatClampNeg ∧ (r14 i).toNatClampNeg ≤ (r15 i).toNatClampNeg ∧ (r15 i).toNatClampNeg ≤ N) ∧ (∀ i, i < x35.toNatClampNeg → r16 i = nI (r16 i).toNatClampNeg ∧ (r16 i).toNatClampNeg ≤ 40000) ∧ (x17 = nI x17.toNatClampNeg) ∧ (x17.toNatClampNeg ≤ 64) ∧ (∀ i, i < x17.toNatClampNeg → r1 i = nI (r1 i).toNatClampNeg ∧ r2 i = nI (r2 i).toNatClampNeg ∧ (r1 i).toNatClampNeg ≤ (r2 i).toNatClampNeg ∧ (r2 i).toNatClampNeg ≤ N) ∧ (∀ i, i < x17.toNatClampNeg → r3 i = nI (r3 i).toNatClampNeg ∧ (r3 i).toNatClampNeg ≤ 64) ∧ (x30 = nI x30.toNatClampNeg) ∧ (x30.toNatClampNeg ≤ 32768) ∧ (x29 = nI x29.toNatClampNeg) ∧ (x29.toNatClampNeg < 4100) ∧ (r10 x29.toNatClampNeg = nI (r10 x29.toNatClampNeg).toNatClampNeg) ∧ ((r10 x29.toNatClampNeg).toNatClampNeg ≤ x30.toNatClampNeg)
theorem ROz.l0 {N : Nat} {x35 x17 x30 x29 : Int32} {r14 r15 r16 r1 r2 r3 r10 : Nat → Int32} (h99 : ROz N x35 x17 x30 x29 r14 r15 r16 r1 r2 r3 r10) : x35 = nI x35.toNatClampNeg := h99.1
theorem ROz.l1 {N : Nat} {x35 x17 x30 x29 : Int32} {r14 r15 r16 r1 r2 r3 r10 : Nat → Int32} (h99 : ROz N x35 x17 x30 x29 r14 r15 r16 r1 r2 r3 r10) : x35.toNatClampNeg ≤ 4100 := h99.2.1
theorem ROz.l2 {N : Nat} {x35 x17 x30 x29 : Int32} {r14 r15 r16 r1 r2 r3 r10 : Nat → Int32} (h99 : ROz N x35 x17 x30 x29 r14 r15 r16 r1 r2 r3 r10) : ∀ i, i < x35.toNatClampNeg → r14 i = nI (r14 i).toNatClampNeg ∧ r15 i = nI (r15 i).toNatClampNeg ∧ (r14 i).toNatClampNeg ≤ (r15 i).toNatClampNeg ∧ (r15 i).toNatClampNeg ≤ N := h99.2.2.1
theorem ROz.l3 {N : Nat} {x35 x17 x30 x29 : Int32} {r14 r15 r16 r1 r2 r3 r10 : Nat → Int32} (h99 : ROz N x35 x17 x30 x29 r14 r15 r16 r1 r2 r3 r10) : ∀ i, i < x35.toNatClampNeg → r16 i = nI (r16 i).toNatClampNeg ∧ (r16 i).toNatClampNeg ≤ 40000 := h99.2.2.2.1
theorem ROz.t0 {N : Nat} {x35 x17 x30 x29 : Int32} {r14 r15 r16 r1 r2 r3 r10 : Nat → Int32} (h99 : ROz N x35 x17 x30 x29 r14 r15 r16 r1 r2 r3 r10) : x17 = nI x17.toNatClampNeg := h99.2.2.2.2.1
theorem ROz.t1 {N : Nat} {x35 x17 x30 x29 : Int32} {r14 r15 r16 r1 r2 r3 r10 : Nat → Int32} (h99 : ROz N x35 x17 x30 x29 r14 r15 r16 r1 r2 r3 r10) : x17.toNatClampNeg ≤ 64 := h99.2.2.2.2.2.1
theorem ROz.t2 {N : Nat} {x35 x17 x30 x29 : Int32} {r14 r15 r16 r1 r2 r3 r10 : Nat → Int32} (h99 : ROz N x35 x17 x30 x29 r14 r15 r16 r1 r2 r3 r10) : ∀ i, i < x17.toNatClampNeg → r1 i = nI (r1 i).toNatClampNeg ∧ r2 i = nI (r2 i).toNatClampNeg ∧ (r1 i).toNatClampNeg ≤ (r2 i).toNatClampNeg ∧ (r2 i).toNatClampNeg ≤ N := h99.2.2.2.2.2.2.1
theorem ROz.t3 {N : Nat} {x35 x17 x30 x29 : Int32} {r14 r15 r16 r1 r2 r3 r10 : Nat → Int32} (h99 : ROz N x35 x17 x30 x29 r14 r15 r16 r1 r2 r3 r10) : ∀ i, i < x17.toNatClampNeg → r3 i = nI (r3 i).toNatClampNeg ∧ (r3 i).toNatClampNeg ≤ 64 := h99.2.2.2.2.2.2.2.1
theorem ROz.e0 {N : Nat} {x35 x17 x30 x29 : Int32} {r14 r15 r16 r1 r2 r3 r10 : Nat → Int32} (h99 : ROz N x35 x17 x30 x29 r14 r15 r16 r1 r2 r3 r10) : x30 = nI x30.toNatClampNeg := h99.2.2.2.2.2.2.2.2.1
theorem ROz.e1 {N : Nat} {x35 x17 x30 x29 : Int32} {r14 r15 r16 r1 r2 r3 r10 : Nat → Int32} (h99 : ROz N x35 x17 x30 x29 r14 r15 r16 r1 r2 r3 r10) : x30.toNatClampNeg ≤ 32768 := h99.2.2.2.2.2.2.2.2.2.1
theorem ROz.o0 {N : Nat} {x35 x17 x30 x29 : Int32} {r14 r15 r16 r1 r2 r3 r10 : Nat → Int32} (h99 : ROz N x35 x17 x30 x29 r14 r15 r16 r1 r2 r3 r10) : x29 = nI x29.toNatClampNeg := h99.2.2.2.2.2.2.2.2.2.2.1
theorem ROz.o1 {N : Nat} {x35 x17 x30 x29 : Int32} {r14 r15 r16 r1 r2 r3 r10 : Nat → Int32} (h99 : ROz N x35 x17 x30 x29 r14 r15 r16 r1 r2 r3 r10) : x29.toNatClampNeg < 4100 := h99.2.2.2.2.2.2.2.2.2.2.2.1
theorem ROz.b0 {N : Nat} {x35 x17 x30 x29 : Int32} {r14 r15 r16 r1 r2 r3 r10 : Nat → Int32} (h99 : ROz N x35 x17 x30 x29 r14 r15 r16 r1 r2 r3 r10) : r10 x29.toNatClampNeg = nI (r10 x29.toNatClampNeg).toNatClampNeg := h99.2.2.2.2.2.2.2.2.2.2.2.2.1
theorem ROz.b1 {N : Nat} {x35 x17 x30 x29 : Int32} {r14 r15 r16 r1 r2 r3 r10 : Nat → Int32} (h99 : ROz N x35 x17 x30 x29 r14 r15 r16 r1 r2 r3 r10) : (r10 x29.toNatClampNeg).toNatClampNeg ≤ x30.toNatClampNeg := h99.2.2.2.2.2.2.2.2.2.2.2.2.2
abbrev ROq (P N : Nat) (h : mv_H) : Prop := ROz N (mv_i h P 35) (mv_i h P 17) (mv_i h P 30) (mv_i h P 29) (mv_a h (P + 14)) (mv_a h (P + 15)) (mv_a h (P + 16)) (mv_a h (P + 1)) (mv_a h (P + 2)) (mv_a h (P + 3)) (mv_a h (P + 10))
def s7z (t : Nat → Int32) (q l : Nat) : List Int32 := (List.range l).map fun j => t (q + j)
/-- the first of n names (from rows r, s) that is the one from q to e -/
def fsz (t : Nat → Int32) (n : Nat) (r s : Nat → Int32) (q e : Nat) : Option Nat := fstm (fun i => decide (s7z t (r i).toNatClampNeg ((s i).toNatClampNeg - (r i).toNatClampNeg) = s7z t q (e - q))) n 0
def ctz (C : Nat → Nat) (x30 x29 : Int32) (r10 r13 : Nat → Int32) (q : Nat) : Nat := cntm r13 (chr (C q)) (x30.toNatClampNeg - (r10 x29.toNatClampNeg).toNatClampNeg) (r10 x29.toNatClampNeg).toNatClampNeg 0
def lkZ (t : Nat → Int32) (C : Nat → Nat) (x35 x17 x30 x29 : Int32) (r14 r15 r16 r1 r2 r3 r10 r13 r6 : Nat → Int32) (q e : Nat) : Nat × Nat := match fsz t x35.toNatClampNeg r14 r15 q e with
  | some i => (3, (r16 i).toNatClampNeg)
  | none => if e - q = 1 ∧ isl (C q) = true ∧ 0 < ctz C x30 x29 r10 r13 q then (3, ctz C x30 x29 r10 r13 q) else match fsz t x17.toNatClampNeg r1 r2 q e with
    | some i => if r6 i = 0 then (1, (r3 i).toNatClampNeg) else (2, (r3 i).toNatClampNeg)
    | none => (0, 0)
/-- what a name means, by the rows -/
abbrev lkQ (P N : Nat) (h : mv_H) : Nat → Nat → Nat × Nat := lkZ (mv_a h 71) (ck h N) (mv_i h P 35) (mv_i h P 17) (mv_i h P 30) (mv_i h P 29) (mv_a h (P + 14)) (mv_a h (P + 15)) (mv_a h (P + 16)) (mv_a h (P + 1)) (mv_a h (P + 2)) (mv_a h (P + 3)) (mv_a h (P + 10)) (mv_a h (P + 13)) (mv_a h (P + 6))
def lkP (lk : List Nat → Nat × Nat) : Prop := ∀ x, ¬ (lk x).1 = 0 → 0 < (lk x).2 ∧ (lk x).2 ≤ 40000
/-- the number of the first fault: none, or good -/
def fz (b : Bool) (x : Int32) : Prop := (b = true ↔ x = 0) ∧ 0 ≤ x.toInt
theorem fz_no {x : Int32} (h : 0 < x) : fz false x := ⟨⟨fun w => (by cases w), fun w => (by subst w; exact absurd h (by decide))⟩, by have h := Int32.lt_iff_toInt_lt.mp h; have h : (0 : Int) < x.toInt := h; omega⟩
def ESq (P N : Nat) (T : Nat → Nat) (lk : List Nat → Nat × Nat) (b : Bool) (d : Nat) (h : mv_H) (m : Nat) : Prop := (HB P N T d h) ∧ (fz b (mv_i h P 38)) ∧ (mv_i h P 48 = nI m) ∧ (ROq P N h) ∧ (b = true → ∀ q e, q ≤ e → e ≤ N → lkQ P N h q e = lk (tn T q (e - q))) ∧ (lkP lk) ∧ (∀ i, i < m → ∃ w, w ≤ 40000 ∧ mv_a h (P + 23) i = nI w)
theorem ESq.hb {P N : Nat} {T : Nat → Nat} {lk : List Nat → Nat × Nat} {b : Bool} {d : Nat} {h : mv_H} {m : Nat} (h99 : ESq P N T lk b d h m) : HB P N T d h := h99.1
theorem ESq.fa {P N : Nat} {T : Nat → Nat} {lk : List Nat → Nat × Nat} {b : Bool} {d : Nat} {h : mv_H} {m : Nat} (h99 : ESq P N T lk b d h m) : fz b (mv_i h P 38) := h99.2.1
theorem ESq.nd {P N : Nat} {T : Nat → Nat} {lk : List Nat → Nat × Nat} {b : Bool} {d : Nat} {h : mv_H} {m : Nat} (h99 : ESq P N T lk b d h m) : mv_i h P 48 = nI m := h99.2.2.1
theorem ESq.ro {P N : Nat} {T : Nat → Nat} {lk : List Nat → Nat × Nat} {b : Bool} {d : Nat} {h : mv_H} {m : Nat} (h99 : ESq P N T lk b d h m) : ROq P N h := h99.2.2.2.1
theorem ESq.ev {P N : Nat} {T : Nat → Nat} {lk : List Nat → Nat × Nat} {b : Bool} {d : Nat} {h : mv_H} {m : Nat} (h99 : ESq P N T lk b d h m) : b = true → ∀ q e, q ≤ e → e ≤ N → lkQ P N h q e = lk (tn T q (e - q)) := h99.2.2.2.2.1
theorem ESq.lp {P N : Nat} {T : Nat → Nat} {lk : List Nat → Nat × Nat} {b : Bool} {d : Nat} {h : mv_H} {m : Nat} (h99 : ESq P N T lk b d h m) : lkP lk := h99.2.2.2.2.2.1
theorem ESq.wd {P N : Nat} {T : Nat → Nat} {lk : List Nat → Nat × Nat} {b : Bool} {d : Nat} {h : mv_H} {m : Nat} (h99 : ESq P N T lk b d h m) : ∀ i, i < m → ∃ w, w ≤ 40000 ∧ mv_a h (P + 23) i = nI w := h99.2.2.2.2.2.2
theorem ROq.fr {P N m : Nat} {h h' : mv_H} (R : ROq P N h) (X : XFr P m h h') : ROq P N h' := by
  unfold ROq
  rw [X.i P 35 (by omega), X.i P 17 (by omega), X.i P 30 (by omega), X.i P 29 (by omega), X.a (P + 14) (by omega), X.a (P + 15) (by omega), X.a (P + 16) (by omega), X.a (P + 1) (by omega), X.a (P + 2) (by omega), X.a (P + 3) (by omega), X.a (P + 10) (by omega)]
  exact R
theorem ck_fr {P N m : Nat} {h h' : mv_H} (X : XFr P m h h') (hP : 74 ≤ P) : ck h' N = ck h N := by
  funext p
  unfold ck
  rw [X.a 71 (by omega)]
theorem lkQ_fr {P N m : Nat} {h h' : mv_H} (X : XFr P m h h') (hP : 74 ≤ P) (q e : Nat) : lkQ P N h' q e = lkQ P N h q e := by
  unfold lkQ
  rw [ck_fr X hP, X.a 71 (by omega), X.i P 35 (by omega), X.i P 17 (by omega), X.i P 30 (by omega), X.i P 29 (by omega), X.a (P + 14) (by omega), X.a (P + 15) (by omega), X.a (P + 16) (by omega), X.a (P + 1) (by omega), X.a (P + 2) (by omega), X.a (P + 3) (by omega), X.a (P + 10) (by omega), X.a (P + 13) (by omega), X.a (P + 6) (by omega)]
theorem HB.fr {P N m d : Nat} {T : Nat → Nat} {h h' : mv_H} (H : HB P N T d h) (X : XFr P m h h') : HB P N T d h' := ⟨
  by rw [X.i P 2 (by omega)]; exact H.n,
  H.n2,
  by rw [ck_fr X H.p]; exact H.t,
  by rw [X.i P 8 (by omega)]; exact H.dp,
  H.d2,
  H.p⟩
theorem ESq.fr {P N d m m' : Nat} {T : Nat → Nat} {lk : List Nat → Nat × Nat} {b b' : Bool} {h h' : mv_H} (E : ESq P N T lk b d h m) (X : XFr P m h h') (hf : fz b' (mv_i h' P 38)) (hb : b' = true → b = true) (hn : mv_i h' P 48 = nI m') (hw : ∀ i, m ≤ i → i < m' → ∃ w, w ≤ 40000 ∧ mv_a h' (P + 23) i = nI w) : ESq P N T lk b' d h' m' := ⟨
  E.hb.fr X,
  hf,
  hn,
  E.ro.fr X,
  fun w q e h1 h2 => by rw [lkQ_fr X E.hb.p]; exact E.ev (hb w) q e h1 h2,
  E.lp,
  fun i hi => by
    by_cases c : i < m
    · rw [X.w i c]; exact E.wd i c
    · exact hw i (by omega) hi⟩
/-- to another depth -/
theorem ESq.dep {P N d m : Nat} {T : Nat → Nat} {lk : List Nat → Nat × Nat} {b : Bool} {h : mv_H} (E : ESq P N T lk b d h m) {d2 : Nat} (h2 : d2 ≤ 200) : ESq P N T lk b d2 (mv_si h P 8 (nI d2)) m := by
  have ei : ∀ k, ¬ k = 8 → mv_i (mv_si h P 8 (nI d2)) P k = mv_i h P k := fun k hk => mv_u_ne (mv_i h) _ (by omega)
  have ro : ROq P N (mv_si h P 8 (nI d2)) := by
    unfold ROq
    rw [ei 35 (by omega), ei 17 (by omega), ei 30 (by omega), ei 29 (by omega)]
    exact E.ro
  exact ⟨
    E.hb.dep h2,
    by rw [ei 38 (by omega)]; exact E.fa,
    by rw [ei 48 (by omega)]; exact E.nd,
    ro,
    fun w q e h1 h3 => by
      have : lkQ P N (mv_si h P 8 (nI d2)) q e = lkQ P N h q e := by
        unfold lkQ
        rw [ei 35 (by omega), ei 17 (by omega), ei 30 (by omega), ei 29 (by omega)]
        rfl
      rw [this]
      exact E.ev w q e h1 h3,
    E.lp,
    E.wd⟩
/-- the outcome of a part of an EXPR -/
def XRq (P N : Nat) (T : Nat → Nat) (lk : List Nat → Nat × Nat) (b' : Bool) (d j j' m m' : Nat) (h h' : mv_H) (x w : Nat) : Prop := (ESq P N T lk b' d h' m') ∧ (XFr P m h h') ∧ (j < j') ∧ (gkT T N j') ∧ (m' + j ≤ m + j') ∧ (m ≤ m') ∧ (x < m') ∧ (mv_a h' (P + 23) x = nI w) ∧ (w ≤ 40000) ∧ (b' = true → 0 < w)
theorem XRq.es {P N : Nat} {T : Nat → Nat} {lk : List Nat → Nat × Nat} {b' : Bool} {d j j' m m' : Nat} {h h' : mv_H} {x w : Nat} (h99 : XRq P N T lk b' d j j' m m' h h' x w) : ESq P N T lk b' d h' m' := h99.1
theorem XRq.fr {P N : Nat} {T : Nat → Nat} {lk : List Nat → Nat × Nat} {b' : Bool} {d j j' m m' : Nat} {h h' : mv_H} {x w : Nat} (h99 : XRq P N T lk b' d j j' m m' h h' x w) : XFr P m h h' := h99.2.1
theorem XRq.jj {P N : Nat} {T : Nat → Nat} {lk : List Nat → Nat × Nat} {b' : Bool} {d j j' m m' : Nat} {h h' : mv_H} {x w : Nat} (h99 : XRq P N T lk b' d j j' m m' h h' x w) : j < j' := h99.2.2.1
theorem XRq.gk {P N : Nat} {T : Nat → Nat} {lk : List Nat → Nat × Nat} {b' : Bool} {d j j' m m' : Nat} {h h' : mv_H} {x w : Nat} (h99 : XRq P N T lk b' d j j' m m' h h' x w) : gkT T N j' := h99.2.2.2.1
theorem XRq.cnt {P N : Nat} {T : Nat → Nat} {lk : List Nat → Nat × Nat} {b' : Bool} {d j j' m m' : Nat} {h h' : mv_H} {x w : Nat} (h99 : XRq P N T lk b' d j j' m m' h h' x w) : m' + j ≤ m + j' := h99.2.2.2.2.1
theorem XRq.mm {P N : Nat} {T : Nat → Nat} {lk : List Nat → Nat × Nat} {b' : Bool} {d j j' m m' : Nat} {h h' : mv_H} {x w : Nat} (h99 : XRq P N T lk b' d j j' m m' h h' x w) : m ≤ m' := h99.2.2.2.2.2.1
theorem XRq.xm {P N : Nat} {T : Nat → Nat} {lk : List Nat → Nat × Nat} {b' : Bool} {d j j' m m' : Nat} {h h' : mv_H} {x w : Nat} (h99 : XRq P N T lk b' d j j' m m' h h' x w) : x < m' := h99.2.2.2.2.2.2.1
theorem XRq.wx {P N : Nat} {T : Nat → Nat} {lk : List Nat → Nat × Nat} {b' : Bool} {d j j' m m' : Nat} {h h' : mv_H} {x w : Nat} (h99 : XRq P N T lk b' d j j' m m' h h' x w) : mv_a h' (P + 23) x = nI w := h99.2.2.2.2.2.2.2.1
theorem XRq.w2 {P N : Nat} {T : Nat → Nat} {lk : List Nat → Nat × Nat} {b' : Bool} {d j j' m m' : Nat} {h h' : mv_H} {x w : Nat} (h99 : XRq P N T lk b' d j j' m m' h h' x w) : w ≤ 40000 := h99.2.2.2.2.2.2.2.2.1
theorem XRq.ps {P N : Nat} {T : Nat → Nat} {lk : List Nat → Nat × Nat} {b' : Bool} {d j j' m m' : Nat} {h h' : mv_H} {x w : Nat} (h99 : XRq P N T lk b' d j j' m m' h h' x w) : b' = true → 0 < w := h99.2.2.2.2.2.2.2.2.2
def XOq (P N : Nat) (T : Nat → Nat) (lk : List Nat → Nat × Nat) (d j m : Nat) (h : mv_H) (Sv : Option (Nat × Nat)) (r : Option (Option Int32 × mv_H)) : Prop :=
  (∃ g, r = some (none, g) ∧ Sv = none) ∨ (∃ b' j' w x h' v' m', r = some (some (nI x), rB P N h' j' v') ∧ Sv = on b' (some (j', w)) ∧ XRq P N T lk b' d j j' m m' h h' x w)
section FN
variable {P N : Nat} {T : Nat → Nat} {lk : List Nat → Nat × Nat} {b : Bool} {d m : Nat} {h : mv_H} (E : ESq P N T lk b d h m)
/-- a fault -/
theorem fN (E : ESq P N T lk b d h m) {k : Int32} (hk : 0 < k) (a : Int32) (j : Nat) (v : Int64) : ∃ h1, f_Book_fault P (rB P N h j v) k a = some (rB P N h1 j v) ∧ ESq P N T lk false d h1 m ∧ XFr P m h h1 := by
  obtain ⟨x, y, e, hy⟩ := fault_n P (rB P N h j v) hk a
  refine ⟨mv_si (mv_si h P 37 x) P 38 y, ?_, ?_⟩
  · rw [e, rB_si (by omega), rB_si (by omega)]
  · have X : XFr P m h (mv_si (mv_si h P 37 x) P 38 y) := ⟨fun o k q => (mv_u_ne (mv_i (mv_si h P 37 x)) _ (by omega)).trans (mv_u_ne (mv_i h) _ (by omega)), rfl, rfl, fun _ _ => rfl, fun _ _ => rfl, fun _ _ => rfl⟩
    refine ⟨E.fr X ?_ (fun w => by cases w) ?_ (fun i h1 h2 => by omega), X⟩
    · have : mv_i (mv_si (mv_si h P 37 x) P 38 y) P 38 = y := mv_u_same (mv_i (mv_si h P 37 x)) P 38 y
      rw [this]
      exact fz_no hy
    · exact (mv_u_ne (mv_i (mv_si h P 37 x)) _ (by omega)).trans ((mv_u_ne (mv_i h) _ (by omega)).trans E.nd)
/-- a node -/
theorem nN (E : ESq P N T lk b d h m) (hm : m < 33000) (s x y z : Int32) {w : Nat} (hw : w ≤ 40000) (j : Nat) (v : Int64) : ∃ h1, f_Book_node P (rB P N h j v) s x y z (nI w) = some (nI m, rB P N h1 j v) ∧ ESq P N T lk b d h1 (m + 1) ∧ XFr P m h h1 ∧ mv_a h1 (P + 23) m = nI w := by
  have hP := E.hb.p
  have e48 : mv_i (rB P N h j v) P 48 = nI m := (rB_o j v (by omega)).trans E.nd
  let h1 := mv_sa (mv_sa (mv_sa (mv_sa (mv_sa (mv_sa (mv_sa (mv_si h P 48 (nI (m + 1))) (P + 18) m s) (P + 19) m x) (P + 20) m y) (P + 21) m z) (P + 23) m (nI w)) (P + 22) m (-1)) (P + 25) m (vp_nar .boolean (0 : Int32))
  have ew : ∀ k, mv_a h1 (P + 23) k = if k = m then nI w else mv_a h (P + 23) k := fun k => by
    show (if P + 23 = P + 25 ∧ k = m then _ else if P + 23 = P + 22 ∧ k = m then _ else if P + 23 = P + 23 ∧ k = m then nI w else if P + 23 = P + 21 ∧ k = m then _ else if P + 23 = P + 20 ∧ k = m then _ else if P + 23 = P + 19 ∧ k = m then _ else if P + 23 = P + 18 ∧ k = m then _ else mv_a h (P + 23) k) = _
    rw [if_neg (by omega), if_neg (by omega), if_neg (show ¬ (P + 23 = P + 21 ∧ k = m) by omega), if_neg (show ¬ (P + 23 = P + 20 ∧ k = m) by omega), if_neg (show ¬ (P + 23 = P + 19 ∧ k = m) by omega), if_neg (show ¬ (P + 23 = P + 18 ∧ k = m) by omega)]
    by_cases e : k = m
    · rw [if_pos ⟨rfl, e⟩, if_pos e]
    · rw [if_neg (fun q => e q.2), if_neg e]
  have ei : ∀ o k, mv_i h1 o k = if o = P ∧ k = 48 then nI (m + 1) else mv_i h o k := fun o k => rfl
  have X : XFr P m h h1 := ⟨
    fun o k q => by rw [ei, if_neg (by omega)],
    rfl,
    rfl,
    fun o q => by
      funext k
      show (if o = P + 25 ∧ k = m then _ else if o = P + 22 ∧ k = m then _ else if o = P + 23 ∧ k = m then nI w else if o = P + 21 ∧ k = m then _ else if o = P + 20 ∧ k = m then _ else if o = P + 19 ∧ k = m then _ else if o = P + 18 ∧ k = m then _ else mv_a h o k) = _
      rw [if_neg (by omega), if_neg (by omega), if_neg (by omega), if_neg (by omega), if_neg (by omega), if_neg (by omega), if_neg (by omega)],
    fun k q => by rw [ew, if_neg (by omega)],
    fun _ _ => rfl⟩
  refine ⟨h1, ?_, E.fr X ?_ (fun w => w) ?_ ?_, X, ?_⟩
  · unfold f_Book_node
    rw [e48, nI1 (by omega), xvi_n hm (by decide), cln (by omega)]
    simp only [cond_true, xk_s]
    rw [rB_si (by omega), rB_sa (by omega), rB_sa (by omega), rB_sa (by omega), rB_sa (by omega), rB_sa (by omega), rB_sa (by omega), rB_sa (by omega)]
  · rw [ei, if_neg (by omega)]; exact E.fa
  · rw [ei, if_pos ⟨rfl, rfl⟩]
  · intro i h2 h3
    exact ⟨w, hw, by rw [ew, if_pos (by omega)]⟩
  · rw [ew, if_pos rfl]
theorem ESq.w0 (E : ESq P N T lk b d h m) {x : Nat} (hx : x < m) : ∃ w, w ≤ 40000 ∧ mv_a h (P + 23) x = nI w := E.wd x hx
end FN
/-- signs and words between two: the reference's and the class's number -/
def OPK : List (Nat × Nat) := [(124, 124), (94, 94), (38, 38), (256, 128), (257, 129), (60, 60), (258, 130), (259, 131), (260, 132), (43, 43), (45, 45), (42, 42), (47, 47), (37, 37), (1000, 213), (1001, 214), (1002, 215), (1003, 216)]
theorem OPK_sh (h : mv_H) : ∀ p, p ∈ OPK → f_Book_shifts h (nI p.1) = some (b01 (decide (p.2 = 131 ∨ p.2 = 132 ∨ p.2 = 216)), h) := by
  intro p hp
  simp only [OPK, List.mem_cons, List.not_mem_nil, or_false] at hp
  rcases hp with rfl | rfl | rfl | rfl | rfl | rfl | rfl | rfl | rfl | rfl | rfl | rfl | rfl | rfl | rfl | rfl | rfl | rfl <;> rfl
theorem OPK_as (h : mv_H) : ∀ p, p ∈ OPK → f_Book_asks h (nI p.1) = some (b01 (decide (lvq p.2 = 4 ∨ lvq p.2 = 5 ∨ p.2 = 213)), h) := by
  intro p hp
  simp only [OPK, List.mem_cons, List.not_mem_nil, or_false] at hp
  rcases hp with rfl | rfl | rfl | rfl | rfl | rfl | rfl | rfl | rfl | rfl | rfl | rfl | rfl | rfl | rfl | rfl | rfl | rfl <;> rfl
theorem nle_0 {w : Nat} (hw : w ≤ 40000) : nI w ≤ 0 ↔ w = 0 := by
  have := nIle (a := w) (b := 0) (by omega) (by decide)
  rw [show (0 : Int32) = nI 0 from rfl, this]
  omega
section TWO
variable {P N : Nat} {T : Nat → Nat} {lk : List Nat → Nat × Nat} {b : Bool} {d m : Nat} {h : mv_H} (E : ESq P N T lk b d h m) (hm : m < 33000)
/-- two: a node more, or a fault -/
theorem two_S (E : ESq P N T lk b d h m) (hm : m < 33000) {ko k : Nat} (hp : (ko, k) ∈ OPK) (a : Int32) {x y wx wy : Nat} (hx : x < m) (hy : y < m) (ex : mv_a h (P + 23) x = nI wx) (ey : mv_a h (P + 23) y = nI wy) (kx : wx ≤ 40000) (ky : wy ≤ 40000) (bx : b = true → 0 < wx) (by' : b = true → 0 < wy) (j : Nat) (v : Int64) :
    ∃ b' w h1, f_Book_two P (rB P N h j v) (nI ko) a (nI x) (nI y) = some (nI m, rB P N h1 j v) ∧ ESq P N T lk b' d h1 (m + 1) ∧ XFr P m h h1 ∧ mv_a h1 (P + 23) m = nI w ∧ w ≤ 40000 ∧ (b' = true → 0 < w) ∧ on b (tw k wx wy) = on b' (some w) := by
  have ex' : mv_a (rB P N h j v) (P + 23) x = nI wx := ex
  have ey' : mv_a (rB P N h j v) (P + 23) y = nI wy := ey
  have sh := OPK_sh (rB P N h j v) _ hp
  have as := OPK_as (rB P N h j v) _ hp
  unfold f_Book_two
  rw [xvi_n (by omega) (by decide), xvi_n (by omega) (by decide), cln (by omega), cln (by omega), ex', ey']
  simp only [cond_true]
  have none0 : ¬ (b = true) → ∃ b' w h1, f_Book_two_23 P (nI ko) a (nI x) (nI y) (rB P N h j v) = some (nI m, rB P N h1 j v) ∧ ESq P N T lk b' d h1 (m + 1) ∧ XFr P m h h1 ∧ mv_a h1 (P + 23) m = nI w ∧ w ≤ 40000 ∧ (b' = true → 0 < w) ∧ on b (tw k wx wy) = on b' (some w) := fun hb => by
    have hb : b = false := Bool.eq_false_iff.mpr hb
    subst hb
    obtain ⟨h1, e1, E1, X1, w1⟩ := nN E hm 7 (nI x) (nI y) (nI ko) (w := 0) (by omega) j v
    refine ⟨false, 0, h1, ?_, E1, X1, w1, by omega, fun w => (by cases w), rfl⟩
    show xhb (f_Book_node P (rB P N h j v) 7 (nI x) (nI y) (nI ko) (nI 0)) (fun u2 g1 => some (u2, g1)) = _
    rw [e1]; rfl
  by_cases c1 : wx = 0
  · rw [if_pos ((nle_0 kx).mpr c1)]; exact none0 (fun hb => by have := bx hb; omega)
  · rw [if_neg (fun w => c1 ((nle_0 kx).mp w))]
    by_cases c2 : wy = 0
    · rw [if_pos ((nle_0 ky).mpr c2)]; exact none0 (fun hb => by have := by' hb; omega)
    · rw [if_neg (fun w => c2 ((nle_0 ky).mp w))]
      unfold f_Book_two_24
      rw [if_neg (by decide), sh, xhb_s]
      have fin : ∀ (h0 : mv_H) (b0 : Bool), ESq P N T lk b0 d h0 m → XFr P m h h0 → (k = 131 ∨ k = 132 ∨ k = 216 ∨ wx = wy) → b0 = b → ∃ b' w h1, f_Book_two_54 P (nI ko) a (nI x) (nI y) 1 (rB P N h0 j v) = some (nI m, rB P N h1 j v) ∧ ESq P N T lk b' d h1 (m + 1) ∧ XFr P m h h1 ∧ mv_a h1 (P + 23) m = nI w ∧ w ≤ 40000 ∧ (b' = true → 0 < w) ∧ on b (tw k wx wy) = on b' (some w) := fun h0 b0 E0 X0 hk eb => by
        subst eb
        have as0 := OPK_as (rB P N h0 j v) _ hp
        have ex0 : mv_a (rB P N h0 j v) (P + 23) x = nI wx := (X0.w x hx).trans ex
        have etw : tw k wx wy = some (if lvq k = 4 ∨ lvq k = 5 ∨ k = 213 then 1 else wx) := if_pos hk
        by_cases q : lvq k = 4 ∨ lvq k = 5 ∨ k = 213
        · obtain ⟨h1, e1, E1, X1, w1⟩ := nN E0 hm 7 (nI x) (nI y) (nI ko) (w := 1) (by omega) j v
          refine ⟨b0, 1, h1, ?_, E1, X0.trans X1 (Nat.le_refl _), w1, by omega, fun _ => by omega, by rw [etw, if_pos q]⟩
          unfold f_Book_two_54 f_Book_two_59 f_Book_two_77 f_Book_two_110
          rw [if_neg (by decide), if_neg (by decide), if_neg (by decide), as0, xhb_s, decide_eq_true q, if_neg (show ¬ b01 true = 0 by decide)]
          show xhb (f_Book_node P (rB P N h0 j v) 7 (nI x) (nI y) (nI ko) (nI 1)) _ = _
          rw [e1]; rfl
        · obtain ⟨h1, e1, E1, X1, w1⟩ := nN E0 hm 7 (nI x) (nI y) (nI ko) (w := wx) kx j v
          refine ⟨b0, wx, h1, ?_, E1, X0.trans X1 (Nat.le_refl _), w1, kx, bx, by rw [etw, if_neg q]⟩
          unfold f_Book_two_54 f_Book_two_59 f_Book_two_77 f_Book_two_110
          rw [if_neg (by decide), if_neg (by decide), if_neg (by decide), as0, xhb_s, decide_eq_false q, if_pos (show b01 false = 0 from rfl), xvi_n (by omega) (by decide), cln (by omega), ex0, cond_true]
          show xhb (f_Book_node P (rB P N h0 j v) 7 (nI x) (nI y) (nI ko) (nI wx)) _ = _
          rw [e1]; rfl
      by_cases c3 : k = 131 ∨ k = 132 ∨ k = 216
      · rw [decide_eq_true c3, if_neg (show ¬ b01 true = 0 by decide)]
        exact fin h b E (XFr.refl P m h) (by omega) rfl
      · rw [decide_eq_false c3, if_pos (show b01 false = 0 from rfl), xvi_n (by omega) (by decide), xvi_n (by omega) (by decide), cln (by omega), cln (by omega), ex', ey']
        simp only [cond_true]
        by_cases c4 : wx = wy
        · rw [if_pos (by rw [c4])]
          exact fin h b E (XFr.refl P m h) (by omega) rfl
        · rw [if_neg (fun w => c4 ((nIinj (by omega) (by omega)).mp w))]
          obtain ⟨h0, e0, E0, X0⟩ := fN E (k := 4) (by decide) a j v
          obtain ⟨h1, e1, E1, X1, w1⟩ := nN E0 hm 7 (nI x) (nI y) (nI ko) (w := 0) (by omega) j v
          refine ⟨false, 0, h1, ?_, E1, X0.trans X1 (Nat.le_refl _), w1, by omega, fun w => (by cases w), ?_⟩
          · unfold f_Book_two_58 f_Book_two_59 f_Book_two_77 f_Book_two_110
            rw [if_neg (by decide), if_pos rfl, e0, xhv_s, if_pos rfl]
            show xhb (f_Book_node P (rB P N h0 j v) 7 (nI x) (nI y) (nI ko) (nI 0)) _ = _
            rw [e1]; rfl
          · have : tw k wx wy = none := if_neg (by omega)
            rw [this, on_none]; rfl
/-- chosen -/
theorem chosen_S (E : ESq P N T lk b d h m) (hm : m < 33000) (a : Int32) {x y z wx wy wz : Nat} (hx : x < m) (hy : y < m) (hz : z < m) (ex : mv_a h (P + 23) x = nI wx) (ey : mv_a h (P + 23) y = nI wy) (ez : mv_a h (P + 23) z = nI wz) (kx : wx ≤ 40000) (ky : wy ≤ 40000) (kz : wz ≤ 40000) (bx : b = true → 0 < wx) (by' : b = true → 0 < wy) (bz : b = true → 0 < wz) (j : Nat) (v : Int64) :
    ∃ b' w h1, f_Book_chosen P (rB P N h j v) a (nI x) (nI y) (nI z) = some (nI m, rB P N h1 j v) ∧ ESq P N T lk b' d h1 (m + 1) ∧ XFr P m h h1 ∧ mv_a h1 (P + 23) m = nI w ∧ w ≤ 40000 ∧ (b' = true → 0 < w) ∧ on b (if wx = 1 ∧ wy = wz then some wy else none) = on b' (some w) := by
  have ex' : mv_a (rB P N h j v) (P + 23) x = nI wx := ex
  have ey' : mv_a (rB P N h j v) (P + 23) y = nI wy := ey
  have ez' : mv_a (rB P N h j v) (P + 23) z = nI wz := ez
  unfold f_Book_chosen
  rw [xvi_n (by omega) (by decide), xvi_n (by omega) (by decide), xvi_n (by omega) (by decide), cln (by omega), cln (by omega), cln (by omega), ex', ey', ez']
  simp only [cond_true]
  have none0 : ¬ (b = true) → ∃ b' w h1, f_Book_chosen_32 P a (nI x) (nI y) (nI z) (rB P N h j v) = some (nI m, rB P N h1 j v) ∧ ESq P N T lk b' d h1 (m + 1) ∧ XFr P m h h1 ∧ mv_a h1 (P + 23) m = nI w ∧ w ≤ 40000 ∧ (b' = true → 0 < w) ∧ on b (if wx = 1 ∧ wy = wz then some wy else none) = on b' (some w) := fun hb => by
    have hb : b = false := Bool.eq_false_iff.mpr hb
    subst hb
    obtain ⟨h1, e1, E1, X1, w1⟩ := nN E hm 9 (nI x) (nI y) (nI z) (w := 0) (by omega) j v
    refine ⟨false, 0, h1, ?_, E1, X1, w1, by omega, fun w => (by cases w), rfl⟩
    show xhb (f_Book_node P (rB P N h j v) 9 (nI x) (nI y) (nI z) (nI 0)) (fun u2 g1 => some (u2, g1)) = _
    rw [e1]; rfl
  by_cases c1 : wx = 0
  · rw [if_pos ((nle_0 kx).mpr c1)]; exact none0 (fun hb => by have := bx hb; omega)
  by_cases c2 : wy = 0
  · rw [if_neg (fun w => c1 ((nle_0 kx).mp w)), if_pos ((nle_0 ky).mpr c2)]; exact none0 (fun hb => by have := by' hb; omega)
  by_cases c3 : wz = 0
  · rw [if_neg (fun w => c1 ((nle_0 kx).mp w)), if_neg (fun w => c2 ((nle_0 ky).mp w)), if_pos ((nle_0 kz).mpr c3)]; exact none0 (fun hb => by have := bz hb; omega)
  rw [if_neg (fun w => c1 ((nle_0 kx).mp w)), if_neg (fun w => c2 ((nle_0 ky).mp w)), if_neg (fun w => c3 ((nle_0 kz).mp w))]
  unfold f_Book_chosen_33
  rw [if_neg (by decide), xvi_n (by omega) (by decide), xvi_n (by omega) (by decide), xvi_n (by omega) (by decide), cln (by omega), cln (by omega), cln (by omega), ex', ey', ez']
  simp only [cond_true]
  have bad : ¬ (wx = 1 ∧ wy = wz) → ∃ b' w h1, f_Book_chosen_70 P a (nI x) (nI y) (nI z) 1 (rB P N h j v) = some (nI m, rB P N h1 j v) ∧ ESq P N T lk b' d h1 (m + 1) ∧ XFr P m h h1 ∧ mv_a h1 (P + 23) m = nI w ∧ w ≤ 40000 ∧ (b' = true → 0 < w) ∧ on b (if wx = 1 ∧ wy = wz then some wy else none) = on b' (some w) := fun q => by
    obtain ⟨h0, e0, E0, X0⟩ := fN E (k := 4) (by decide) a j v
    obtain ⟨h1, e1, E1, X1, w1⟩ := nN E0 hm 9 (nI x) (nI y) (nI z) (w := 0) (by omega) j v
    refine ⟨false, 0, h1, ?_, E1, X0.trans X1 (Nat.le_refl _), w1, by omega, fun w => (by cases w), by rw [if_neg q, on_none]; rfl⟩
    unfold f_Book_chosen_70 f_Book_chosen_71 f_Book_chosen_89 f_Book_chosen_111
    rw [if_neg (by decide), if_pos rfl, e0, xhv_s, if_pos rfl]
    show xhb (f_Book_node P (rB P N h0 j v) 9 (nI x) (nI y) (nI z) (nI 0)) _ = _
    rw [e1]; rfl
  by_cases c4 : wx = 1
  · rw [if_pos (by rw [c4]; rfl)]
    by_cases c5 : wy = wz
    · rw [if_pos (by rw [c5])]
      obtain ⟨h1, e1, E1, X1, w1⟩ := nN E hm 9 (nI x) (nI y) (nI z) (w := wy) ky j v
      refine ⟨b, wy, h1, ?_, E1, X1, w1, ky, by', by rw [if_pos ⟨c4, c5⟩]⟩
      unfold f_Book_chosen_71 f_Book_chosen_89 f_Book_chosen_111
      rw [if_neg (by decide), if_neg (by decide), if_neg (by decide), xvi_n (by omega) (by decide), cln (by omega), ey', cond_true]
      show xhb (f_Book_node P (rB P N h j v) 9 (nI x) (nI y) (nI z) (nI wy)) _ = _
      rw [e1]; rfl
    · rw [if_neg (fun w => c5 ((nIinj (by omega) (by omega)).mp w))]
      exact bad (fun w => c5 w.2)
  · rw [if_neg (show ¬ nI wx = 1 from fun w => c4 ((nIinj (b := 1) (by omega) (by decide)).mp w))]
    exact bad (fun w => c4 w.1)
end TWO
theorem n10 : ¬ (1 : Int32) = 0 := by decide
/-- numbers of tokens -/
theorem num_tok {T : Nat → Nat} {N : Nat} (hT : ∀ p, ¬ p < N → T p = 256) (hT2 : ∀ p, T p ≤ 256) {j : Nat} (hk : (tok T N j).1 = 2) : (tok T N j).2.2.1 = some ((txT T N).nu j) ∧ (txT T N).nu j < 18446744073709551616 := by
  have hp : pos T N j ≤ N := (bp_bd hT hT2 j).2.1
  have hbd := s_num_bd hT hT2 hp
  have e : (txT T N).nu j = ((tok T N j).2.2.1).getD 0 := rfl
  rw [e]
  unfold tok s_tok at hk ⊢
  by_cases a : T (pos T N j) = 256
  · rw [if_pos a] at hk; exact absurd (show (0 : Int32) = 2 from hk) (by decide)
  rw [if_neg a] at hk ⊢
  by_cases b : isL (T (pos T N j)) = true
  · rw [if_pos b] at hk; exact absurd (show (1 : Int32) = 2 from hk) (by decide)
  rw [if_neg b] at hk ⊢
  by_cases c : isD (T (pos T N j)) = true
  · rw [if_pos c]
    exact ⟨rfl, hbd.2.2⟩
  rw [if_neg c] at hk ⊢
  by_cases d : T (pos T N j) = 34
  · rw [if_pos d] at hk; exact absurd (show (3 : Int32) = 2 from hk) (by decide)
  rw [if_neg d] at hk ⊢
  have hpv : ∀ c d, pairv c d = 0 ∨ (256 ≤ pairv c d ∧ pairv c d ≤ 260) := by
    intro c d
    unfold pairv
    cases (Nat.beq c 61 && Nat.beq d 61) <;> cases (Nat.beq c 33 && Nat.beq d 61) <;> cases (Nat.beq c 60 && Nat.beq d 61) <;> cases (Nat.beq c 60 && Nat.beq d 60) <;> cases (Nat.beq c 62 && Nat.beq d 62) <;> decide
  by_cases f : ¬ pairv (T (pos T N j)) (T (pos T N j + 1)) = 0
  · rw [if_pos f] at hk
    rcases hpv (T (pos T N j)) (T (pos T N j + 1)) with w | w
    · exact absurd w f
    · have := (nIinj (b := 2) (by omega) (by omega)).mp hk
      omega
  rw [if_neg f] at hk ⊢
  by_cases g : T (pos T N j) = 62
  · rw [if_pos g] at hk; exact absurd (show (260 : Int32) = 2 from hk) (by decide)
  rw [if_neg g] at hk ⊢
  by_cases i : isS (T (pos T N j)) = true
  · rw [if_pos i] at hk
    have := isS_33 _ (by have := hT2 (pos T N j); omega) i
    have := (nIinj (b := 2) (by omega) (by omega)).mp hk
    omega
  · rw [if_neg i] at hk
    exact absurd (show (-1 : Int32) = 2 from hk) (by decide)
theorem lc_lt {v w : Nat} (hv : v < 18446744073709551616) (hw : w < 9223372036854775808) : lg_cmp (nJ v) (nJ w) < 0 ↔ (v < w ∨ 9223372036854775808 ≤ v) := by
  rw [lc_v, ys_v, ys_v]
  split
  · exact ⟨fun z => absurd z (by decide), fun z => by omega⟩
  · split
    · exact ⟨fun z => absurd z (by decide), fun z => by omega⟩
    · exact ⟨fun _ => by omega, fun _ => by decide⟩
theorem lc_gt {v w : Nat} (hv : v < 18446744073709551616) (hw : w < 9223372036854775808) : 0 < lg_cmp (nJ v) (nJ w) ↔ (w < v ∧ v < 9223372036854775808) := by
  rw [lc_v, ys_v, ys_v]
  split
  · exact ⟨fun z => by omega, fun z => by decide⟩
  · split
    · exact ⟨fun z => absurd z (by decide), fun z => by omega⟩
    · exact ⟨fun z => absurd z (by decide), fun z => by omega⟩
theorem in_S (h : mv_H) {x lo hi : Nat} (hx : x < 18446744073709551616) (hl : lo < 1000000) (hh : hi < 10000000) : f_Model_in h (nJ x) (nJ lo) (nJ hi) = some (b01 (decide (lo ≤ x ∧ x ≤ hi)), h) := by
  unfold f_Model_in f_Model_in_17
  rw [xz0, xz1']
  by_cases a : x < lo ∨ 9223372036854775808 ≤ x
  · rw [if_pos ((lc_lt hx (by omega)).mpr a), decide_eq_false (by omega)]; rfl
  · rw [if_neg (fun w => a ((lc_lt hx (by omega)).mp w))]
    by_cases c : hi < x ∧ x < 9223372036854775808
    · rw [if_pos ((lc_gt hx (by omega)).mpr c), decide_eq_false (by omega)]; rfl
    · rw [if_neg (fun w => c ((lc_gt hx (by omega)).mp w)), decide_eq_true (by omega)]; rfl
theorem nJi {x : Nat} (hx : x < 2147483648) : (nJ x).toInt32 = nI x := by
  rw [xJ_i, Nat.mod_eq_of_lt (by omega)]
theorem sh_0 {v w : Nat} (hv : v < 18446744073709551616) (hw : w < 64) : lg_cmp (nJ (yshr v w)) 0 = 0 ↔ v < 2 ^ w := by
  rw [lcmp0]
  unfold yshr
  rw [Nat.mod_eq_of_lt hv, Nat.mod_eq_of_lt hw, Nat.shiftRight_eq_div_pow]
  have h1 : v / 2 ^ w ≤ v := Nat.div_le_self _ _
  rw [Nat.mod_eq_of_lt (by omega)]
  constructor
  · intro e
    rcases Nat.div_eq_zero_iff.mp e with q | q
    · exact absurd q (Nat.ne_of_gt (Nat.two_pow_pos w))
    · exact q
  · intro e; exact Nat.div_eq_of_lt e
section LIT
variable {P N : Nat} {T : Nat → Nat} {lk : List Nat → Nat × Nat} {b : Bool} {d m : Nat} {h : mv_H} (E : ESq P N T lk b d h m) (hm : m < 33000)
theorem ESq.te (E : ESq P N T lk b d h m) : (∀ p, ¬ p < N → T p = 256) ∧ (∀ p, T p ≤ 256) := by
  rw [← E.hb.t]
  exact ⟨fun p z => ck_end h N p z, fun p => ck_lt h N p⟩
theorem ESq.num (E : ESq P N T lk b d h m) {j : Nat} (G : gkT T N j) (hk : kdT T N j = 4) (v : Int64) : mv_l (rB P N h j v) P 9 = nJ ((txT T N).nu j) ∧ (txT T N).nu j < 18446744073709551616 := by
  have := num_tok E.te.1 E.te.2 (j := j) ((kd_num E.hb.lt G.1).mpr hk)
  exact ⟨E.hb.k9 this.1, this.2⟩
theorem ESq.vb (E : ESq P N T lk b d h m) (o k : Nat) (ho : o = P + 24) (x : Int64) : ESq P N T lk b d (mv_sb h o k x) m ∧ XFr P m h (mv_sb h o k x) := by
  have X : XFr P m h (mv_sb h o k x) := ⟨fun _ _ _ => rfl, rfl, rfl, fun _ _ => rfl, fun _ _ => rfl, fun o' q => funext fun k' => mv_u_ne (mv_b h) _ (by omega)⟩
  exact ⟨E.fr X E.fa (fun w => w) E.nd (fun i h1 h2 => by omega), X⟩
theorem lit121 (E : ESq P N T lk b d h m) (hm : m < 33000) (s x y z : Int32) {w : Nat} (hw : w ≤ 40000) (j : Nat) (v u : Int64) : ∃ h1, f_Book_literal_121 P u (nI w) z y x s (rB P N h j v) = some (some (nI m), rB P N h1 j v) ∧ ESq P N T lk b d h1 (m + 1) ∧ XFr P m h h1 ∧ mv_a h1 (P + 23) m = nI w := by
  obtain ⟨h1, e1, E1, X1, w1⟩ := nN E hm s x y z hw j v
  have V := E1.vb (P + 24) m rfl u
  refine ⟨mv_sb h1 (P + 24) m u, ?_, V.1, X1.trans V.2 (by omega), w1⟩
  unfold f_Book_literal_121
  rw [e1, xhb_s, xvi_n hm (by decide), cond_true, cln (by omega), rB_sb, xk_s]
theorem lit_S (E : ESq P N T lk b d h m) (hm : m < 33000) {j : Nat} (G : gkT T N j) (hk : kdT T N j = 4) (v : Int64) : XOq P N T lk d j m h (on b (sLit (txT T N) d j)) (f_Book_literal P (rB P N h j v)) := by
  have H := E.hb
  unfold f_Book_literal sLit
  obtain ⟨en, hn⟩ := E.num G hk v
  rw [en]
  rcases pS H G (by omega) (by omega) v with ⟨p1, G1, v1, e1⟩ | ⟨p1, g, e1⟩
  rotate_left
  · rw [e1, xtb_n, gd_f p1, on_none]; exact Or.inl ⟨g, rfl, rfl⟩
  rw [e1, xtb_s, gd_t p1]
  rcases ndS H G1 (c := 39) (k := 39) (by omega) (H.ch (c := 39) G1 (by omega) (by omega)) v1 with ⟨k2, p2, G2, s2, v2, e2⟩ | ⟨s2, g, e2⟩
  rotate_left
  · rw [e2, xtb_n, s2]; exact Or.inl ⟨g, rfl, on_none _⟩
  rw [e2, xtb_s, s2]
  rcases ndS H G2 (c := 4) (k := 2) (by omega) (kd_num H.lt G2.1) v2 with ⟨k3, p3, G3, s3, v3, e3⟩ | ⟨s3, g, e3⟩
  rotate_left
  · rw [e3, xtb_n, s3]; exact Or.inl ⟨g, rfl, on_none _⟩
  obtain ⟨en3, hn3⟩ := E.num G2 k3 v2
  rw [e3, xtb_s, s3, en3, show (1 : Int64) = nJ 1 from rfl, show (64 : Int64) = nJ 64 from rfl, in_S _ hn (by omega) (by omega), xhb_s]
  simp only [Option.bind_some]
  have bad : ∀ (h0 : mv_H), ESq P N T lk false d h0 m → XFr P m h h0 → ¬ (1 ≤ (txT T N).nu j ∧ (txT T N).nu j ≤ 64 ∧ (txT T N).nu (j + 2) < 2 ^ (txT T N).nu j) → XOq P N T lk d j m h (on b (if 1 ≤ (txT T N).nu j ∧ (txT T N).nu j ≤ 64 ∧ (txT T N).nu (j + 2) < 2 ^ (txT T N).nu j then some (j + 3, (txT T N).nu j) else none)) (f_Book_literal_105 P (nJ ((txT T N).nu j)) (nJ ((txT T N).nu (j + 2))) 0 (rB P N h0 (j + 3) v3)) := fun h0 E0 X0 c => by
    obtain ⟨h1, e5, E1, X1, w1⟩ := lit121 E0 hm 1 0 0 0 (w := 0) (by omega) (j + 3) v3 (nJ ((txT T N).nu (j + 2)))
    unfold f_Book_literal_105
    rw [if_neg c, on_none, if_pos rfl]
    refine Or.inr ⟨false, j + 3, 0, m, h1, v3, m + 1, e5, rfl, ⟨E1, X0.trans X1 (by omega), by omega, G3, by omega, by omega, by omega, w1, by omega, fun w => by cases w⟩⟩
  by_cases c1 : 1 ≤ (txT T N).nu j ∧ (txT T N).nu j ≤ 64
  · rw [decide_eq_true c1, if_neg (show ¬ b01 true = 0 by decide)]
    have good : (txT T N).nu (j + 2) < 2 ^ (txT T N).nu j → XOq P N T lk d j m h (on b (if 1 ≤ (txT T N).nu j ∧ (txT T N).nu j ≤ 64 ∧ (txT T N).nu (j + 2) < 2 ^ (txT T N).nu j then some (j + 3, (txT T N).nu j) else none)) (f_Book_literal_81 P (nJ ((txT T N).nu j)) (nJ ((txT T N).nu (j + 2))) (mv_i (rB P N h (j + 1 + 1) v2) P 5) (b01 true) (rB P N h (j + 3) v3)) := fun c => by
      obtain ⟨h1, e5, E1, X1, w1⟩ := lit121 E hm 1 0 0 0 (w := (txT T N).nu j) (by omega) (j + 3) v3 (nJ ((txT T N).nu (j + 2)))
      unfold f_Book_literal_81 f_Book_literal_86 f_Book_literal_105
      rw [if_neg (show ¬ b01 true = 0 by decide), if_neg n10, if_neg n10, nJi (by omega), if_pos (show 1 ≤ (txT T N).nu j ∧ (txT T N).nu j ≤ 64 ∧ (txT T N).nu (j + 2) < 2 ^ (txT T N).nu j from ⟨c1.1, c1.2, c⟩)]
      refine Or.inr ⟨b, j + 3, (txT T N).nu j, m, h1, v3, m + 1, e5, rfl, ⟨E1, X1, by omega, G3, by omega, by omega, by omega, w1, by omega, fun _ => by omega⟩⟩
    have badc : ¬ (txT T N).nu (j + 2) < 2 ^ (txT T N).nu j → XOq P N T lk d j m h (on b (if 1 ≤ (txT T N).nu j ∧ (txT T N).nu j ≤ 64 ∧ (txT T N).nu (j + 2) < 2 ^ (txT T N).nu j then some (j + 3, (txT T N).nu j) else none)) (f_Book_literal_85 P (nJ ((txT T N).nu j)) (nJ ((txT T N).nu (j + 2))) (mv_i (rB P N h (j + 1 + 1) v2) P 5) (b01 true) (rB P N h (j + 3) v3)) := fun c => by
      obtain ⟨h0, e0, E0, X0⟩ := fN E (k := 3) (by decide) (mv_i (rB P N h (j + 1 + 1) v2) P 5) (j + 3) v3
      unfold f_Book_literal_85 f_Book_literal_86
      rw [if_neg (show ¬ b01 true = 0 by decide), if_pos rfl, e0, xhv_s]
      exact bad h0 E0 X0 (fun w => c w.2.2)
    unfold f_Book_literal_58
    rw [if_neg (show ¬ b01 true = 0 by decide), show (64 : Int64) = nJ 64 from rfl, nJi (by omega), xJ_shr]
    by_cases c2 : (txT T N).nu j = 64
    · rw [if_pos ((lc_eq (by omega) (by omega)).mpr c2)]
      exact good (by rw [c2]; exact hn3)
    · rw [if_neg (fun w => c2 ((lc_eq (by omega) (by omega)).mp w))]
      have hs := sh_0 hn3 (w := (txT T N).nu j) (by omega)
      by_cases c3 : (txT T N).nu (j + 2) < 2 ^ (txT T N).nu j
      · rw [if_pos (hs.mpr c3)]; exact good c3
      · rw [if_neg (fun w => c3 (hs.mp w))]; exact badc c3
  · rw [decide_eq_false c1, if_pos (show b01 false = 0 from rfl)]
    obtain ⟨h0, e0, E0, X0⟩ := fN E (k := 3) (by decide) (mv_i (rB P N h j v) P 5) (j + 3) v3
    rw [e0, xhv_s]
    unfold f_Book_literal_58 f_Book_literal_85 f_Book_literal_86
    rw [if_pos (show b01 false = 0 from rfl), if_pos (show b01 false = 0 from rfl)]
    exact bad h0 E0 X0 (fun w => c1 ⟨w.1, w.2.1⟩)
end LIT
def rkq (mo a : Nat) : Nat := if mo = 0 then 13 else if mo = 1 then 12 - a else if mo = 2 then 3 else if mo = 3 then 2 else if mo = 4 then 1 else 0
/-- fuel enough for a mode at a depth -/
def Fq (nn mo a d : Nat) : Prop := d ≤ 61 ∧ 14 * (61 - d) + rkq mo a + 1 ≤ nn
def preq (T : Nat → Nat) (N mo a : Nat) (α : Int32) (j : Nat) : Prop := mo ≤ 8 ∧ (mo = 1 → α = nI a ∧ a ≤ 8) ∧ (mo = 5 → kdT T N j = 3) ∧ (mo = 6 → kdT T N j = 211 ∨ kdT T N j = 212) ∧ (mo = 7 → ∃ ko, α = nI ko ∧ (ko, kdT T N j) ∈ OPK ∧ 213 ≤ kdT T N j) ∧ (mo = 8 → kdT T N j = 123)
def IHq (P N : Nat) (T : Nat → Nat) (lk : List Nat → Nat × Nat) (nn : Nat) : Prop := ∀ (mo a : Nat) (α : Int32) (d j : Nat) (h : mv_H) (b : Bool) (m : Nat) (v : Int64), Fq nn mo a d → ESq P N T lk b d h m → gkT T N j → m ≤ j → preq T N mo a α j → XOq P N T lk d j m h (on b (sR (txT T N) lk nn mo a d j)) (f_BookR P nn mo α (rB P N h j v))
theorem pre0 (T : Nat → Nat) (N a : Nat) (α : Int32) (j : Nat) {mo : Nat} (h : mo = 0 ∨ mo = 2 ∨ mo = 3 ∨ mo = 4) : preq T N mo a α j := ⟨by omega, fun w => by omega, fun w => by omega, fun w => by omega, fun w => by omega, fun w => by omega⟩
theorem pre1 (T : Nat → Nat) (N : Nat) {a : Nat} (ha : a ≤ 8) (j : Nat) : preq T N 1 a (nI a) j := ⟨by omega, fun w => ⟨rfl, ha⟩, fun w => by omega, fun w => by omega, fun w => by omega, fun w => by omega⟩
theorem ps_d {X : TX} {d j : Nat} (h : ps X d j = true) : d ≤ 60 := by
  unfold ps at h
  rw [Bool.and_eq_true, Nat.ble_eq] at h
  exact h.1
section EXS
variable {P N : Nat} {T : Nat → Nat} {lk : List Nat → Nat × Nat}
/-- the reader one deeper, and back -/
theorem dUp {d : Nat} {h : mv_H} (H : HB P N T d h) (hd : d ≤ 60) (j : Nat) (v : Int64) : mv_si (rB P N h j v) P 8 (mv_i (rB P N h j v) P 8 + 1) = rB P N (mv_si h P 8 (nI (d + 1))) j v := by
  rw [rB_o j v (by omega), H.dp, nI1 (by omega), rB_si (by omega)]
theorem dDn {d : Nat} {h : mv_H} (H : HB P N T (d + 1) h) (j : Nat) (v : Int64) : mv_si (rB P N h j v) P 8 (mv_i (rB P N h j v) P 8 - 1) = rB P N (mv_si h P 8 (nI d)) j v := by
  have := H.d2
  have e : nI (d + 1) - 1 = nI d := nIsub (a := d + 1) (b := 1) (by omega) (by omega)
  rw [rB_o j v (by omega), H.dp, e, rB_si (by omega)]
theorem XRq.tr {b1 b2 : Bool} {d j j1 k1 j2 m m1 m2 x1 x2 w1 w2 : Nat} {h h1 h2 : mv_H} (A : XRq P N T lk b1 d j j1 m m1 h h1 x1 w1) (B : XRq P N T lk b2 d k1 j2 m1 m2 h1 h2 x2 w2) (e : j1 ≤ k1) : XRq P N T lk b2 d j j2 m m2 h h2 x2 w2 :=
  ⟨B.es, A.fr.trans B.fr A.mm, by have := A.jj; have := B.jj; omega, B.gk, by have := A.cnt; have := B.cnt; omega, by have := A.mm; have := B.mm; omega, B.xm, B.wx, B.w2, B.ps⟩
/-- tokens are fewer than characters -/
theorem gk_le {d m j : Nat} {b : Bool} {h : mv_H} (E : ESq P N T lk b d h m) (G : gkT T N j) : j ≤ 32768 := by
  have h1 := bp_j E.te.1 E.te.2 j G.2
  have h2 := (bp_bd E.te.1 E.te.2 j).1
  have := E.hb.n2
  omega
/-- a node behind a part: what stands in the end -/
theorem XRq.nd {b1 : Bool} {d j j1 j2 m m1 x1 w1 w : Nat} {h h1 h2 h3 : mv_H} {b3 : Bool} {m2 : Nat} (A : XRq P N T lk b1 d j j1 m m1 h h1 x1 w1) (X : XFr P m1 h1 h2) (E3 : ESq P N T lk b3 d h3 (m2 + 1)) (X3 : XFr P m2 h2 h3) (hm : m1 ≤ m2) (G : gkT T N j2) (hj : j1 ≤ j2) (hc : m2 + 1 + j1 ≤ m1 + j2) (ew : mv_a h3 (P + 23) m2 = nI w) (hw : w ≤ 40000) (hp : b3 = true → 0 < w) : XRq P N T lk b3 d j j2 m (m2 + 1) h h3 m2 w :=
  ⟨E3, (A.fr.trans X A.mm).trans X3 (by have := A.mm; omega), by have := A.jj; omega, G, by have := A.cnt; omega, by have := A.mm; omega, by omega, ew, hw, hp⟩
variable {nn : Nat} (IH : IHq P N T lk nn) {b : Bool} {d m j : Nat} {h : mv_H} (E : ESq P N T lk b d h m) (G : gkT T N j) (hmj : m ≤ j)
theorem ex_S (IH : IHq P N T lk nn) (E : ESq P N T lk b d h m) (G : gkT T N j) (hmj : m ≤ j) (F : Fq (nn + 1) 0 0 d) (v : Int64) : XOq P N T lk d j m h (on b (sEx (txT T N) (sR (txT T N) lk nn) d j)) (f_Book_expression P (f_BookR P nn) (rB P N h j v)) := by
  unfold f_Book_expression sEx
  unfold Fq rkq at F
  rw [if_pos rfl] at F
  rcases IH 1 0 0 d j h b m v (by unfold Fq rkq; rw [if_neg (by omega), if_pos rfl]; omega) E G hmj (pre1 T N (by omega) j) with ⟨g, e1, s1⟩ | ⟨b1, j1, w1, x1, h1, v1, m1, e1, s1, R1⟩
  · rw [e1, xtb_n, on_bind, s1]; exact Or.inl ⟨g, rfl, rfl⟩
  rw [e1, xtb_s, R1.es.hb.k4, on_bind, s1]
  simp only [on_s]
  have H1 := R1.es.hb
  have hch : (tok T N j1).1 = (63 : Int32) ↔ kdT T N j1 = 63 := H1.ch (c := 63) R1.gk (by omega) (by omega)
  have eX : ∀ i, (txT T N).kd i = kdT T N i := fun _ => rfl
  rw [eX]
  by_cases c : kdT T N j1 = 63
  rotate_left
  · rw [if_neg (fun w => c (hch.mp w)), if_neg c]
    exact Or.inr ⟨b1, j1, w1, x1, h1, v1, m1, rfl, rfl, R1⟩
  rw [if_pos (hch.mpr c), if_pos c]
  rcases pS H1 R1.gk (by omega) (by omega) v1 with ⟨p2, G2, v2, e2⟩ | ⟨p2, g, e2⟩
  rotate_left
  · rw [e2, xtb_n, gd_f p2, on_none]; exact Or.inl ⟨g, rfl, rfl⟩
  have hd := ps_d p2
  rw [e2, xtb_s, gd_t p2, dUp H1 hd, xk_s]
  have E2 := R1.es.dep (d2 := d + 1) (by omega)
  have F2 : Fq nn 0 0 (d + 1) := by unfold Fq rkq; rw [if_pos rfl]; omega
  have hc1 := R1.cnt
  have hj1 := R1.jj
  rcases IH 0 0 0 (d + 1) (j1 + 1) _ b1 m1 v2 F2 E2 G2 (by omega) (pre0 T N 0 0 _ (Or.inl rfl)) with ⟨g, e3, s3⟩ | ⟨b3, j3, w3, x3, h3, v3, m3, e3, s3, R3⟩
  · rw [e3, xtb_n, on_bind, s3]; exact Or.inl ⟨g, rfl, rfl⟩
  rw [e3, xtb_s, on_bind, s3]
  simp only [on_s]
  rcases ndS R3.es.hb R3.gk (c := 58) (k := 58) (by omega) (R3.es.hb.ch (c := 58) R3.gk (by omega) (by omega)) v3 with ⟨k4, p4, G4, s4, v4, e4⟩ | ⟨s4, g, e4⟩
  rotate_left
  · rw [e4, xtb_n, s4]; exact Or.inl ⟨g, rfl, on_none _⟩
  rw [e4, xtb_s, s4, Option.bind_some]
  have hc3 := R3.cnt
  have hj3 := R3.jj
  rcases IH 0 0 0 (d + 1) (j3 + 1) _ b3 m3 v4 F2 R3.es G4 (by omega) (pre0 T N 0 0 _ (Or.inl rfl)) with ⟨g, e5, s5⟩ | ⟨b5, j5, w5, x5, h5, v5, m5, e5, s5, R5⟩
  · rw [e5, xtb_n, on_bind, s5]; exact Or.inl ⟨g, rfl, rfl⟩
  rw [e5, xtb_s, on_bind, s5, dDn R5.es.hb, xk_s]
  simp only [on_s]
  have hc5 := R5.cnt
  have hj5 := R5.jj
  have E6 := R5.es.dep (d2 := d) (by omega)
  have R35 := R3.tr R5 (by omega)
  have X6 := R35.fr.dep H1.dp
  have h5m : m5 < 33000 := by have := gk_le R5.es R5.gk; omega
  have wx : mv_a (mv_si h5 P 8 (nI d)) (P + 23) x1 = nI w1 := (X6.w x1 R1.xm).trans R1.wx
  have wy : mv_a (mv_si h5 P 8 (nI d)) (P + 23) x3 = nI w3 := (R5.fr.w x3 R3.xm).trans R3.wx
  have wz : mv_a (mv_si h5 P 8 (nI d)) (P + 23) x5 = nI w5 := R5.wx
  have m13 := R3.mm
  have m35 := R5.mm
  have mono : b5 = true → b1 = true ∧ b3 = true := fun w => by
    rw [w] at s5
    cases b3 with
    | false => cases s5
    | true =>
      cases b1 with
      | false => cases s3
      | true => exact ⟨rfl, rfl⟩
  have xm1 := R1.xm
  have xm3 := R3.xm
  have xm5 := R5.xm
  obtain ⟨b6, w6, h6, e6, E7, X7, ew, hw, hp, s6⟩ := chosen_S E6 h5m (mv_i (rB P N h1 j1 v1) P 5) (show x1 < m5 by omega) (show x3 < m5 by omega) xm5 wx wy wz R1.w2 R3.w2 R5.w2 (fun w => R1.ps (mono w).1) (fun w => R3.ps (mono w).2) R5.ps j5 v5
  rw [e6, xhb_s]
  refine Or.inr ⟨b6, j5, w6, m5, h6, v5, m5 + 1, rfl, ?_, R1.nd X6 E7 X7 (by omega) R5.gk (by omega) (by omega) ew hw hp⟩
  show on b5 (if w1 = 1 ∧ w3 = w5 then some (j5, w3) else none) = _
  by_cases q : w1 = 1 ∧ w3 = w5
  · rw [if_pos q] at s6 ⊢
    cases b5 <;> cases b6 <;> cases s6 <;> rfl
  · rw [if_neg q] at s6 ⊢
    cases b5 <;> cases b6 <;> cases s6 <;> rfl
end EXS
theorem lv_h (h : mv_H) (x : Int32) : ∃ u, f_Book_levelOf h x = some (u, h) ∧ f_Book_levelOf hZ x = some (u, hZ) := by
  unfold f_Book_levelOf
  by_cases c37 : x.toInt = 37
  · rw [if_pos c37, if_pos c37]; exact ⟨_, rfl, rfl⟩
  rw [if_neg c37, if_neg c37]
  by_cases c38 : x.toInt = 38
  · rw [if_pos c38, if_pos c38]; exact ⟨_, rfl, rfl⟩
  rw [if_neg c38, if_neg c38]
  by_cases c42 : x.toInt = 42
  · rw [if_pos c42, if_pos c42]; exact ⟨_, rfl, rfl⟩
  rw [if_neg c42, if_neg c42]
  by_cases c43 : x.toInt = 43
  · rw [if_pos c43, if_pos c43]; exact ⟨_, rfl, rfl⟩
  rw [if_neg c43, if_neg c43]
  by_cases c45 : x.toInt = 45
  · rw [if_pos c45, if_pos c45]; exact ⟨_, rfl, rfl⟩
  rw [if_neg c45, if_neg c45]
  by_cases c47 : x.toInt = 47
  · rw [if_pos c47, if_pos c47]; exact ⟨_, rfl, rfl⟩
  rw [if_neg c47, if_neg c47]
  by_cases c60 : x.toInt = 60
  · rw [if_pos c60, if_pos c60]; exact ⟨_, rfl, rfl⟩
  rw [if_neg c60, if_neg c60]
  by_cases c94 : x.toInt = 94
  · rw [if_pos c94, if_pos c94]; exact ⟨_, rfl, rfl⟩
  rw [if_neg c94, if_neg c94]
  by_cases c124 : x.toInt = 124
  · rw [if_pos c124, if_pos c124]; exact ⟨_, rfl, rfl⟩
  rw [if_neg c124, if_neg c124]
  by_cases c256 : x.toInt = 256
  · rw [if_pos c256, if_pos c256]; exact ⟨_, rfl, rfl⟩
  rw [if_neg c256, if_neg c256]
  by_cases c257 : x.toInt = 257
  · rw [if_pos c257, if_pos c257]; exact ⟨_, rfl, rfl⟩
  rw [if_neg c257, if_neg c257]
  by_cases c258 : x.toInt = 258
  · rw [if_pos c258, if_pos c258]; exact ⟨_, rfl, rfl⟩
  rw [if_neg c258, if_neg c258]
  by_cases c259 : x.toInt = 259
  · rw [if_pos c259, if_pos c259]; exact ⟨_, rfl, rfl⟩
  rw [if_neg c259, if_neg c259]
  by_cases c260 : x.toInt = 260
  · rw [if_pos c260, if_pos c260]; exact ⟨_, rfl, rfl⟩
  rw [if_neg c260, if_neg c260]
  exact ⟨_, rfl, rfl⟩
theorem lv_t : ∀ c, c < 261 → (c < 127 ∨ 256 ≤ c) → ∀ a, a < 9 → (((f_Book_levelOf hZ (nI c)).map Prod.fst = some (nI a)) ↔ lvq (if 256 ≤ c then c - 128 else c) = a + 1) := by decide +kernel
theorem lv_o : ∀ c, c < 261 → (c < 127 ∨ 256 ≤ c) → lvq (if 256 ≤ c then c - 128 else c) = 0 ∨ (c, if 256 ≤ c then c - 128 else c) ∈ OPK := by decide +kernel
theorem lv_s (a : Nat) (ha : a < 9) : ∀ x, x ∈ [(-1 : Int32), 0, 1, 2, 3] → ¬ (f_Book_levelOf hZ x).map Prod.fst = some (nI a) := by
  intro x hx
  simp only [List.mem_cons, List.not_mem_nil, or_false] at hx
  have : ∀ a, a < 9 → ¬ (-1 : Int32) = nI a := by decide
  intro e
  rcases hx with rfl | rfl | rfl | rfl | rfl <;> exact this a ha (Option.some.inj e)
theorem lv_w : ∀ i, i < 17 → lvq (200 + i) = 0 := by decide
/-- the level of token j -/
theorem lv_S {T : Nat → Nat} {N j : Nat} (hT : ∀ p, T p < 257) (hb : (tok T N j).2.2.2 = none) (h : mv_H) : ∃ u, f_Book_levelOf h (tok T N j).1 = some (u, h) ∧ (∀ a, a < 9 → (u = nI a ↔ lvq (kdT T N j) = a + 1)) ∧ (¬ lvq (kdT T N j) = 0 → ∃ ko, (tok T N j).1 = nI ko ∧ (ko, kdT T N j) ∈ OPK) := by
  obtain ⟨u, e1, e2⟩ := lv_h h (tok T N j).1
  refine ⟨u, e1, ?_⟩
  have small : (tok T N j).1 ∈ [(-1 : Int32), 0, 1, 2, 3] → lvq (kdT T N j) = 0 → (∀ a, a < 9 → (u = nI a ↔ lvq (kdT T N j) = a + 1)) ∧ (¬ lvq (kdT T N j) = 0 → ∃ ko, (tok T N j).1 = nI ko ∧ (ko, kdT T N j) ∈ OPK) := fun hm hl => by
    refine ⟨fun a ha => ⟨fun e => ?_, fun e => by omega⟩, fun w => absurd hl w⟩
    refine absurd ?_ (lv_s a ha _ hm)
    rw [e2, e]; rfl
  rcases kdT_cases hT hb with ⟨a, w⟩ | ⟨a, w⟩ | ⟨w, -, a⟩ | ⟨w, -, a, a2⟩ | ⟨a, w⟩ | ⟨a, w⟩ | ⟨c, k2, k3, k4, w, a⟩
  · exact small (by rw [w]; decide) (by rw [a]; rfl)
  · exact small (by rw [w]; decide) (by rw [a]; rfl)
  · exact small (by rw [w]; decide) (by rw [a]; rfl)
  · exact small (by rw [w]; decide) (by rw [a]; exact lv_w _ a2)
  · exact small (by rw [w]; decide) (by rw [a]; rfl)
  · exact small (by rw [w]; decide) (by rw [a]; rfl)
  · constructor
    · intro x hx
      have := lv_t c (by omega) k4 x hx
      rw [w] at e2
      rw [e2] at this
      rw [a, ← this]
      exact ⟨fun e => by rw [e]; rfl, fun e => Option.some.inj e⟩
    · intro hz
      rw [a] at hz ⊢
      rcases lv_o c (by omega) k4 with q | q
      · exact absurd q hz
      · exact ⟨c, w, q⟩
section BIN
variable {P N : Nat} {T : Nat → Nat} {lk : List Nat → Nat × Nat}
theorem on_mono {α : Type} {b b' : Bool} {X : Option α} {y : α} (e : on b X = on b' (some y)) (w : b' = true) : b = true := by
  cases b with
  | true => rfl
  | false => rw [w] at e; cases e
variable {nn : Nat} (IH : IHq P N T lk nn) {d : Nat}
theorem bl_S (IH : IHq P N T lk nn) {a : Nat} (ha : a < 8) (F : Fq nn 1 (a + 1) d) {j0 m0 : Nat} {h0 : mv_H} (hm0 : m0 ≤ j0) : ∀ (k kk j w x m : Nat) (h : mv_H) (b : Bool) (v : Int64), XRq P N T lk b d j0 j m0 m h0 h x w → 32768 - j < k → 32768 - j < kk →
    XOq P N T lk d j0 m0 h0 (on b (sBL (txT T N) (sR (txT T N) lk nn) a d k j w)) (f_Book_binary_19 P (f_BookR P nn) kk (nI a) (nI x) (rB P N h j v)) := by
  intro k
  induction k with
  | zero => intro kk j w x m h b v R h1; omega
  | succ k ih =>
    intro kk j w x m h b v R h1 h2
    obtain ⟨kk, rfl⟩ : ∃ q, kk = q + 1 := ⟨kk - 1, by omega⟩
    show XOq P N T lk d j0 m0 h0 _ (fF_Book_binary_19 P (f_BookR P nn) (f_Book_binary_19 P (f_BookR P nn) kk) (nI a) (nI x) (rB P N h j v))
    unfold fF_Book_binary_19 sBL
    have H := R.es.hb
    obtain ⟨u, eu, hu, ho⟩ := lv_S H.lt R.gk.1 (rB P N h j v)
    rw [H.k4, eu, xhb_s]
    have eX : (txT T N).kd j = kdT T N j := rfl
    rw [eX]
    by_cases c : lvq (kdT T N j) = a + 1
    rotate_left
    · rw [if_neg (fun q => c ((hu a (by omega)).mp q)), if_neg c]
      exact Or.inr ⟨b, j, w, x, h, v, m, rfl, rfl, R⟩
    rw [if_pos ((hu a (by omega)).mpr c), if_pos c]
    obtain ⟨ko, eko, hko⟩ := ho (by omega)
    have hk1 : ¬ kdT T N j = 1 := fun e => by rw [e] at c; exact absurd c (by show ¬ 0 = a + 1; omega)
    have hk2 : ¬ kdT T N j = 2 := fun e => by rw [e] at c; exact absurd c (by show ¬ 0 = a + 1; omega)
    rcases pS H R.gk hk1 hk2 v with ⟨p2, G2, v2, e2⟩ | ⟨p2, g, e2⟩
    rotate_left
    · rw [e2, xtb_n, gd_f p2, on_none]; exact Or.inl ⟨g, rfl, rfl⟩
    rw [e2, xtb_s, gd_t p2, nI1 (by omega)]
    have hc := R.cnt
    have hj := R.jj
    have hmm := R.mm
    rcases IH 1 (a + 1) (nI (a + 1)) d (j + 1) h b m v2 F R.es G2 (by omega) (pre1 T N (by omega) _) with ⟨g, e3, s3⟩ | ⟨b3, j3, w3, x3, h3, v3, m3, e3, s3, R3⟩
    · rw [e3, xtb_n, on_bind, s3]; exact Or.inl ⟨g, rfl, rfl⟩
    rw [e3, xtb_s, on_bind, s3]
    simp only [on_s]
    have hc3 := R3.cnt
    have hj3 := R3.jj
    have hm3 := R3.mm
    have hjb := gk_le R3.es R3.gk
    have h3m : m3 < 33000 := by omega
    have xm := R.xm
    obtain ⟨b4, w4, h4, e4, E4, X4, ew, hw, hp, s4⟩ := two_S R3.es h3m hko (mv_i (rB P N h j v) P 5) (show x < m3 by omega) R3.xm ((R3.fr.w x xm).trans R.wx) R3.wx R.w2 R3.w2 (fun q => R.ps (on_mono s3 q)) R3.ps j3 v3
    rw [H.k4, eko, e4, xhb_s, on_bind, s4]
    simp only [on_s]
    have R4 : XRq P N T lk b4 d j0 j3 m0 (m3 + 1) h0 h4 m3 w4 := R.nd R3.fr E4 X4 hm3 R3.gk (by omega) (by omega) ew hw hp
    exact ih kk j3 w4 m3 (m3 + 1) h4 b4 v3 R4 (by omega) (by omega)
variable {b : Bool} {m j : Nat} {h : mv_H} (E : ESq P N T lk b d h m) (G : gkT T N j) (hmj : m ≤ j)
theorem bi_S (IH : IHq P N T lk nn) (E : ESq P N T lk b d h m) (G : gkT T N j) (hmj : m ≤ j) {a : Nat} (ha : a ≤ 8) (F : Fq (nn + 1) 1 a d) (v : Int64) : XOq P N T lk d j m h (on b (sBi (txT T N) (sR (txT T N) lk nn) a d j)) (f_Book_binary P (f_BookR P nn) (rB P N h j v) (nI a)) := by
  unfold f_Book_binary sBi
  unfold Fq rkq at F
  rw [if_neg (by omega), if_pos rfl] at F
  by_cases c : a = 8
  · rw [if_pos (show nI a = 8 by rw [c]; rfl), if_pos c]
    rcases IH 2 0 0 d j h b m v (by unfold Fq rkq; rw [if_neg (by omega), if_neg (by omega), if_pos rfl]; omega) E G hmj (pre0 T N 0 0 j (Or.inr (Or.inl rfl))) with ⟨g, e1, s1⟩ | ⟨b1, j1, w1, x1, h1, v1, m1, e1, s1, R1⟩
    · rw [e1, xtb_n, s1]; exact Or.inl ⟨g, rfl, rfl⟩
    · rw [e1, xtb_s, s1]; exact Or.inr ⟨b1, j1, w1, x1, h1, v1, m1, rfl, rfl, R1⟩
  · rw [if_neg (show ¬ nI a = 8 from fun w => c ((nIinj (b := 8) (by omega) (by omega)).mp w)), if_neg c, nI1 (by omega)]
    have F1 : Fq nn 1 (a + 1) d := by unfold Fq rkq; rw [if_neg (by omega), if_pos rfl]; omega
    rcases IH 1 (a + 1) (nI (a + 1)) d j h b m v F1 E G hmj (pre1 T N (by omega) j) with ⟨g, e1, s1⟩ | ⟨b1, j1, w1, x1, h1, v1, m1, e1, s1, R1⟩
    · rw [e1, xtb_n, on_bind, s1]; exact Or.inl ⟨g, rfl, rfl⟩
    · rw [e1, xtb_s, on_bind, s1]
      simp only [on_s]
      exact bl_S IH (by omega) F1 hmj 200000 200000 j1 w1 x1 m1 h1 b1 v1 R1 (by omega) (by omega)
end BIN
theorem lcu {A B : Nat} (hA : A < 18446744073709551616) (hB : B < 18446744073709551616) : 0 < lg_cmp (nJ B + (-9223372036854775808 : Int64)) (nJ A + (-9223372036854775808 : Int64)) ↔ A < B := by
  have e : (-9223372036854775808 : Int64) = nJ 9223372036854775808 := rfl
  rw [e, xJ_add, xJ_add, lc_v, ys_v, ys_v]
  unfold yadd
  have h1 : ((A + 9223372036854775808) % 18446744073709551616 + 9223372036854775808) % 18446744073709551616 = A := by omega
  have h2 : ((B + 9223372036854775808) % 18446744073709551616 + 9223372036854775808) % 18446744073709551616 = B := by omega
  rw [h1, h2]
  split
  · rename_i q; exact ⟨fun _ => q, fun _ => by decide⟩
  · rename_i q
    split
    · exact ⟨fun z => absurd z (by decide), fun z => absurd z q⟩
    · exact ⟨fun z => absurd z (by decide), fun z => absurd z q⟩
theorem subJ {A B : Nat} (h : B ≤ A) (hA : A < 40000) : (nJ A - nJ B).toInt32 + 1 = nI (A - B + 1) := by
  have e : nJ A - nJ B = nJ (A - B) := by
    rw [xJ_sub]
    apply xJ_eq
    unfold ysub
    omega
  rw [e, nJi (by omega), nI1 (by omega)]
theorem wid1 {w : Nat} (h : 0 < w) (hw : w ≤ 40000) : (nI w - 1).toInt64 = nJ (w - 1) := by
  have e : nI w - 1 = nI (w - 1) := nIsub (a := w) (b := 1) (by omega) (by omega)
  rw [e, xI_l, xi2l_s (by omega)]
section PICK
variable {P N : Nat} {T : Nat → Nat} {lk : List Nat → Nat × Nat} {b : Bool} {d m : Nat} {h : mv_H} (E : ESq P N T lk b d h m) (hm : m < 33000)
/-- the end of [h:l] -/
theorem pk_S (E : ESq P N T lk b d h m) (hm : m < 33000) (kR : Nat → Int32 → mv_H → Option (Option Int32 × mv_H)) (k5 : Int32 → mv_H → Option (Option Int32 × mv_H)) {x w A B : Nat} (hx : x < m) (ex : mv_a h (P + 23) x = nI w) (hw : w ≤ 40000) (bw : b = true → 0 < w) (hA : A < 18446744073709551616) (hB : B < 18446744073709551616) (x6 x7 : Int32) (j : Nat) (v : Int64) :
    ∃ b' w' h1, (bif xvi (nI x) 33000 then if (mv_a (rB P N h j v) (P + 23) (nI x).toNatClampNeg) = (0 : Int32) then (f_Book_post_140 P kR k5 (nI x) (nJ A) (nJ B) x6 x7 (rB P N h j v)) else (bif xvi (nI x) 33000 then xhb (f_Model_in (rB P N h j v) (nJ A) (0 : Int64) ((((mv_a (rB P N h j v) (P + 23) (nI x).toNatClampNeg) - (1 : Int32))).toInt64)) fun u14 g13 => if u14 = (0 : Int32) then (f_Book_post_145 P kR k5 (nI x) (nJ A) (nJ B) x6 x7 (0 : Int32) g13) else (f_Book_post_140 P kR k5 (nI x) (nJ A) (nJ B) x6 x7 g13) else none) else none) = k5 (nI m) (rB P N h1 j v) ∧ ESq P N T lk b' d h1 (m + 1) ∧ XFr P m h h1 ∧ mv_a h1 (P + 23) m = nI w' ∧ w' ≤ 40000 ∧ (b' = true → 0 < w') ∧ on b (if A < w ∧ B ≤ A then some (A - B + 1) else none) = on b' (some w') := by
  have ex' : mv_a (rB P N h j v) (P + 23) x = nI w := ex
  -- a node of width 0
  have bad : ∀ (h0 : mv_H) (y0 : Int32), ESq P N T lk false d h0 m → XFr P m h h0 → (¬ (A < w ∧ B ≤ A) ∨ b = false) → ∃ b' w' h1, f_Book_post_216 P kR k5 (nI x) (nJ A) (nJ B) (rB P N h0 j v) = k5 (nI m) (rB P N h1 j v) ∧ ESq P N T lk b' d h1 (m + 1) ∧ XFr P m h h1 ∧ mv_a h1 (P + 23) m = nI w' ∧ w' ≤ 40000 ∧ (b' = true → 0 < w') ∧ on b (if A < w ∧ B ≤ A then some (A - B + 1) else none) = on b' (some w') := fun h0 y0 E0 X0 c => by
    obtain ⟨h1, e1, E1, X1, w1⟩ := nN E0 hm 8 (nI x) 0 0 (w := 0) (by omega) j v
    refine ⟨false, 0, h1, ?_, E1, X0.trans X1 (Nat.le_refl _), w1, by omega, fun q => (by cases q), ?_⟩
    · unfold f_Book_post_216 f_Book_post_217 f_Book_post_234 f_Book_post_246 f_Book_post_262
      rw [if_pos rfl, if_pos rfl, if_pos rfl]
      show xhb (f_Book_node P (rB P N h0 j v) 8 (nI x) 0 0 (nI 0)) _ = _
      rw [e1]; rfl
    · rcases c with c | c
      · rw [if_neg c, on_none]; rfl
      · rw [c]; rfl
  rw [xvi_n (by omega) (by decide), cln (by omega), ex', cond_true, cond_true]
  -- behind the range of high: from 145 on, high said by c
  have go : ∀ (c : Bool), (c = true ↔ w = 0 ∨ A < w) → ∃ b' w' h1, f_Book_post_145 P kR k5 (nI x) (nJ A) (nJ B) x6 x7 (b01 c) (rB P N h j v) = k5 (nI m) (rB P N h1 j v) ∧ ESq P N T lk b' d h1 (m + 1) ∧ XFr P m h h1 ∧ mv_a h1 (P + 23) m = nI w' ∧ w' ≤ 40000 ∧ (b' = true → 0 < w') ∧ on b (if A < w ∧ B ≤ A then some (A - B + 1) else none) = on b' (some w') := fun c hc => by
    have e145 : f_Book_post_145 P kR k5 (nI x) (nJ A) (nJ B) x6 x7 (b01 c) (rB P N h j v) = f_Book_post_167 P kR k5 (nI x) (nJ A) (nJ B) x6 x7 (b01 c) (b01 (decide (B ≤ A))) (rB P N h j v) := by
      unfold f_Book_post_145
      by_cases q : A < B
      · rw [if_pos ((lcu hA hB).mpr q), decide_eq_false (by omega)]; rfl
      · rw [if_neg (fun z => q ((lcu hA hB).mp z)), decide_eq_true (by omega)]; rfl
    rw [e145]
    unfold f_Book_post_167
    have e193 : ∀ h0, XFr P m h h0 → mv_a (rB P N h0 j v) (P + 23) (nI x).toNatClampNeg = nI w := fun h0 X0 => by
      rw [cln (by omega)]; exact (X0.w x hx).trans ex
    cases c with
    | false =>
      have nw : ¬ (A < w ∧ B ≤ A) := fun q => by have := hc.mpr (Or.inr q.1); cases this
      rw [if_pos (show b01 false = 0 from rfl)]
      obtain ⟨h0, e0, E0, X0⟩ := fN E (k := 3) (by decide) x6 j v
      rw [e0, xhv_s]
      unfold f_Book_post_181
      have t193 : ∀ (h2 : mv_H) (y : Int32), ESq P N T lk false d h2 m → XFr P m h h2 → ∃ b' w' h1, f_Book_post_193 P kR k5 (nI x) (nJ A) (nJ B) (b01 false) y (rB P N h2 j v) = k5 (nI m) (rB P N h1 j v) ∧ ESq P N T lk b' d h1 (m + 1) ∧ XFr P m h h1 ∧ mv_a h1 (P + 23) m = nI w' ∧ w' ≤ 40000 ∧ (b' = true → 0 < w') ∧ on b (if A < w ∧ B ≤ A then some (A - B + 1) else none) = on b' (some w') := fun h2 y E2 X2 => by
        unfold f_Book_post_193
        rw [xvi_n (by omega) (by decide), e193 h2 X2, cond_true, if_pos (show b01 false = 0 from rfl)]
        by_cases w0 : w = 0
        · rw [if_pos ((nle_0 hw).mpr w0)]; exact bad h2 0 E2 X2 (Or.inl nw)
        · rw [if_neg (fun z => w0 ((nle_0 hw).mp z))]; exact bad h2 0 E2 X2 (Or.inl nw)
      by_cases q : B ≤ A
      · rw [decide_eq_true q, if_neg (show ¬ b01 true = 0 by decide)]
        exact t193 h0 _ E0 X0
      · rw [decide_eq_false q, if_pos (show b01 false = 0 from rfl)]
        obtain ⟨h2, e2, E2, X2⟩ := fN E0 (k := 3) (by decide) x7 j v
        rw [e2, xhv_s]
        exact t193 h2 _ E2 (X0.trans X2 (Nat.le_refl _))
    | true =>
      rw [if_neg (show ¬ b01 true = 0 by decide)]
      unfold f_Book_post_181
      by_cases q : B ≤ A
      · rw [decide_eq_true q, if_neg (show ¬ b01 true = 0 by decide)]
        unfold f_Book_post_193
        rw [xvi_n (by omega) (by decide), e193 h (XFr.refl P m h), cond_true]
        by_cases w0 : w = 0
        · rw [if_pos ((nle_0 hw).mpr w0)]
          have hb : b = false := Bool.eq_false_iff.mpr (fun z => by have := bw z; omega)
          exact bad h 0 (by rw [← hb]; exact E) (XFr.refl P m h) (Or.inr hb)
        · rw [if_neg (fun z => w0 ((nle_0 hw).mp z)), if_neg (show ¬ b01 true = 0 by decide), if_neg (show ¬ b01 true = 0 by decide)]
          have hAw : A < w := (hc.mp rfl).resolve_left w0
          obtain ⟨h1, e1, E1, X1, w1⟩ := nN E hm 8 (nI x) (nJ A).toInt32 (nJ B).toInt32 (w := A - B + 1) (by omega) j v
          refine ⟨b, A - B + 1, h1, ?_, E1, X1, w1, by omega, fun _ => by omega, by rw [if_pos ⟨hAw, q⟩]⟩
          unfold f_Book_post_217 f_Book_post_234 f_Book_post_246 f_Book_post_262
          rw [if_neg n10, if_neg n10, if_neg n10, subJ q (by omega), e1]; rfl
      · rw [decide_eq_false q, if_pos (show b01 false = 0 from rfl)]
        obtain ⟨h2, e2, E2, X2⟩ := fN E (k := 3) (by decide) x7 j v
        rw [e2, xhv_s]
        unfold f_Book_post_193
        rw [xvi_n (by omega) (by decide), e193 h2 X2, cond_true, if_neg (show ¬ b01 true = 0 by decide), if_pos (show b01 false = 0 from rfl)]
        by_cases w0 : w = 0
        · rw [if_pos ((nle_0 hw).mpr w0)]; exact bad h2 0 E2 X2 (Or.inl (fun z => q z.2))
        · rw [if_neg (fun z => w0 ((nle_0 hw).mp z))]; exact bad h2 0 E2 X2 (Or.inl (fun z => q z.2))
  by_cases w0 : w = 0
  · rw [if_pos (by rw [w0]; rfl)]
    exact go true ⟨fun _ => Or.inl w0, fun _ => rfl⟩
  · rw [if_neg (show ¬ nI w = 0 from fun z => w0 ((nIinj (b := 0) (by omega) (by omega)).mp z)), wid1 (by omega) hw, show (0 : Int64) = nJ 0 from rfl, in_S _ hA (by omega) (by omega), xhb_s]
    by_cases q : A < w
    · rw [decide_eq_true (by omega), if_neg (show ¬ b01 true = 0 by decide)]
      exact go true ⟨fun _ => Or.inr q, fun _ => rfl⟩
    · rw [decide_eq_false (by omega), if_pos (show b01 false = 0 from rfl)]
      exact go false ⟨fun z => (by cases z), fun z => by omega⟩
end PICK
section PL
variable {P N : Nat} {T : Nat → Nat} {lk : List Nat → Nat × Nat} {d : Nat}
theorem on_map {α β : Type} {b b' : Bool} {c : Prop} [Decidable c] {x y : α} (f : α → β) (e : on b (if c then some x else none) = on b' (some y)) : on b (if c then some (f x) else none) = on b' (some (f y)) := by
  by_cases q : c
  · rw [if_pos q] at e ⊢
    cases b <;> cases b' <;> cases e <;> rfl
  · rw [if_neg q] at e ⊢
    cases b <;> cases b' <;> cases e <;> rfl
theorem pl_S (kR : Nat → Int32 → mv_H → Option (Option Int32 × mv_H)) {j0 m0 : Nat} {h0 : mv_H} (hm0 : m0 ≤ j0) : ∀ (k kk j w x m : Nat) (h : mv_H) (b : Bool) (v : Int64), XRq P N T lk b d j0 j m0 m h0 h x w → 32768 - j < k → 32768 - j < kk →
    XOq P N T lk d j0 m0 h0 (on b (sPL (txT T N) d k j w)) (f_Book_post_5 P kR kk (nI x) (rB P N h j v)) := by
  intro k
  induction k with
  | zero => intro kk j w x m h b v R h1; omega
  | succ k ih =>
    intro kk j w x m h b v R h1 h2
    obtain ⟨kk, rfl⟩ : ∃ q, kk = q + 1 := ⟨kk - 1, by omega⟩
    show XOq P N T lk d j0 m0 h0 _ (fF_Book_post_5 P kR (f_Book_post_5 P kR kk) (nI x) (rB P N h j v))
    unfold fF_Book_post_5 sPL
    have H := R.es.hb
    have eX : ∀ i, (txT T N).kd i = kdT T N i := fun _ => rfl
    have hch : (tok T N j).1 = (91 : Int32) ↔ kdT T N j = 91 := H.ch (c := 91) R.gk (by omega) (by omega)
    rw [H.k4, eX]
    by_cases c : kdT T N j = 91
    rotate_left
    · rw [if_neg (fun q => c (hch.mp q)), if_neg c]
      exact Or.inr ⟨b, j, w, x, h, v, m, rfl, rfl, R⟩
    rw [if_pos (hch.mpr c), if_pos c]
    unfold sPk
    rcases pS H R.gk (by omega) (by omega) v with ⟨p2, G2, v2, e2⟩ | ⟨p2, g, e2⟩
    rotate_left
    · rw [e2, xtb_n, gd_f p2]; exact Or.inl ⟨g, rfl, on_none _⟩
    have hd := ps_d p2
    have E2 := R.es.dep (d2 := d + 1) (by omega)
    have H2 := E2.hb
    rw [e2, xtb_s, gd_t p2, dUp H hd, xk_s]
    rcases ndS H2 G2 (c := 4) (k := 2) (by omega) (kd_num H2.lt G2.1) v2 with ⟨k3, p3, G3, s3, v3, e3⟩ | ⟨s3, g, e3⟩
    rotate_left
    · rw [e3, xtb_n, s3]; exact Or.inl ⟨g, rfl, on_none _⟩
    obtain ⟨n3, nn3⟩ := E2.num G2 k3 v2
    have hch2 : (tok T N (j + 1 + 1)).1 = (58 : Int32) ↔ kdT T N (j + 2) = 58 := H2.ch (c := 58) G3 (by omega) (by omega)
    rw [e3, xtb_s, s3, Option.bind_some, n3, H2.k4, eX]
    have hc := R.cnt
    have hj := R.jj
    have hmm := R.mm
    have E6 : ESq P N T lk b d (mv_si (mv_si h P 8 (nI (d + 1))) P 8 (nI d)) m := E2.dep (by omega)
    have X6 : XFr P m h (mv_si (mv_si h P 8 (nI (d + 1))) P 8 (nI d)) := (XFr.refl P m (mv_si h P 8 (nI (d + 1)))).dep H.dp
    have hjb := gk_le R.es R.gk
    -- behind the ]
    have fin : ∀ (j2 B : Nat) (x6 x7 : Int32) (v6 : Int64), j + 3 ≤ j2 → gkT T N j2 → B < 18446744073709551616 → ∃ r : Option (Option Int32 × mv_H), (xk (mv_si (rB P N (mv_si h P 8 (nI (d + 1))) j2 v6) P 8 ((mv_i (rB P N (mv_si h P 8 (nI (d + 1))) j2 v6) P 8) - (1 : Int32))) fun g10 => bif xvi (nI x) 33000 then if (mv_a g10 (P + 23) (nI x).toNatClampNeg) = (0 : Int32) then (f_Book_post_140 P kR (f_Book_post_5 P kR kk) (nI x) (nJ ((txT T N).nu (j + 1))) (nJ B) x6 x7 g10) else (bif xvi (nI x) 33000 then xhb (f_Model_in g10 (nJ ((txT T N).nu (j + 1))) (0 : Int64) ((((mv_a g10 (P + 23) (nI x).toNatClampNeg) - (1 : Int32))).toInt64)) fun u14 g13 => if u14 = (0 : Int32) then (f_Book_post_145 P kR (f_Book_post_5 P kR kk) (nI x) (nJ ((txT T N).nu (j + 1))) (nJ B) x6 x7 (0 : Int32) g13) else (f_Book_post_140 P kR (f_Book_post_5 P kR kk) (nI x) (nJ ((txT T N).nu (j + 1))) (nJ B) x6 x7 g13) else none) else none) = r ∧ XOq P N T lk d j0 m0 h0 (on b ((if (txT T N).nu (j + 1) < w ∧ B ≤ (txT T N).nu (j + 1) then some (j2, (txT T N).nu (j + 1) - B + 1) else none).bind fun z => sPL (txT T N) d k z.1 z.2)) r := by
      intro j2 B x6 x7 v6 hj2 GG hB
      have hjb2 := gk_le R.es GG
      have xm := R.xm
      refine ⟨_, rfl, ?_⟩
      rw [dDn H2, xk_s]
      obtain ⟨b', w', h6, e6, E7, X7, ew, hw, hp, s6⟩ := pk_S E6 (show m < 33000 by omega) kR (f_Book_post_5 P kR kk) xm ((X6.w x xm).trans R.wx) R.w2 R.ps nn3 hB x6 x7 j2 v6
      rw [e6, on_bind, on_map (fun y => (j2, y)) s6]
      simp only [on_s]
      have R7 : XRq P N T lk b' d j0 j2 m0 (m + 1) h0 h6 m w' := R.nd X6 E7 X7 (Nat.le_refl _) GG (by omega) (by omega) ew hw hp
      exact ih kk j2 w' m (m + 1) h6 b' v6 R7 (by omega) (by omega)
    by_cases c2 : kdT T N (j + 2) = 58
    · rw [if_pos (hch2.mpr c2), if_pos c2]
      unfold f_Book_post_70
      rw [if_neg n10]
      rcases pS H2 G3 (by rw [show j + 1 + 1 = j + 2 from rfl]; omega) (by rw [show j + 1 + 1 = j + 2 from rfl]; omega) v3 with ⟨p4, G4, v4, e4⟩ | ⟨p4, g, e4⟩
      rotate_left
      · rw [e4, xtb_n, gd_f p4]; exact Or.inl ⟨g, rfl, on_none _⟩
      rw [e4, xtb_s, gd_t p4]
      rcases ndS H2 G4 (c := 4) (k := 2) (by omega) (kd_num H2.lt G4.1) v4 with ⟨k5, p5, G5, s5, v5, e5⟩ | ⟨s5, g, e5⟩
      rotate_left
      · rw [e5, xtb_n, s5]; exact Or.inl ⟨g, rfl, on_none _⟩
      obtain ⟨n5, nn5⟩ := E2.num G4 k5 v4
      rw [e5, xtb_s, s5, Option.bind_some, n5]
      unfold f_Book_post_98
      rcases ndS H2 G5 (c := 93) (k := 93) (by omega) (H2.ch (c := 93) G5 (by omega) (by omega)) v5 with ⟨k6, p6, G6, s6, v6, e6⟩ | ⟨s6, g, e6⟩
      rotate_left
      · rw [e6, xtb_n, s6]; exact Or.inl ⟨g, rfl, on_none _⟩
      rw [e6, xtb_s, s6, Option.bind_some]
      obtain ⟨r, e7, h7⟩ := fin (j + 5) ((txT T N).nu (j + 3)) (mv_i (rB P N (mv_si h P 8 (nI (d + 1))) (j + 1) v2) P 5) (mv_i (rB P N (mv_si h P 8 (nI (d + 1))) (j + 1 + 1 + 1) v4) P 5) v6 (by omega) G6 nn5
      rw [← e7] at h7
      exact h7
    · rw [if_neg (fun q => c2 (hch2.mp q)), if_neg c2]
      unfold f_Book_post_70
      rw [if_pos rfl]
      unfold f_Book_post_98
      rcases ndS H2 G3 (c := 93) (k := 93) (by omega) (H2.ch (c := 93) G3 (by omega) (by omega)) v3 with ⟨k6, p6, G6, s6, v6, e6⟩ | ⟨s6, g, e6⟩
      rotate_left
      · rw [e6, xtb_n, s6]; exact Or.inl ⟨g, rfl, on_none _⟩
      rw [e6, xtb_s, s6, Option.bind_some]
      obtain ⟨r, e7, h7⟩ := fin (j + 3) ((txT T N).nu (j + 1)) (mv_i (rB P N (mv_si h P 8 (nI (d + 1))) (j + 1) v2) P 5) (mv_i (rB P N (mv_si h P 8 (nI (d + 1))) (j + 1) v2) P 5) v6 (by omega) G6 nn3
      rw [← e7, Nat.sub_self] at h7
      have es : (if (txT T N).nu (j + 1) < w ∧ (txT T N).nu (j + 1) ≤ (txT T N).nu (j + 1) then some (j + 3, 0 + 1) else none) = if (txT T N).nu (j + 1) < w then some (j + 3, 1) else none := by
        by_cases q : (txT T N).nu (j + 1) < w
        · rw [if_pos q, if_pos ⟨q, Nat.le_refl _⟩]
        · rw [if_neg q, if_neg (fun z => q z.1)]
      rw [es] at h7
      exact h7
variable {nn : Nat} (IH : IHq P N T lk nn) {b : Bool} {m j : Nat} {h : mv_H} (E : ESq P N T lk b d h m) (G : gkT T N j) (hmj : m ≤ j)
theorem po_S (IH : IHq P N T lk nn) (E : ESq P N T lk b d h m) (G : gkT T N j) (hmj : m ≤ j) (F : Fq (nn + 1) 3 0 d) (v : Int64) : XOq P N T lk d j m h (on b (sPo (txT T N) (sR (txT T N) lk nn) d j)) (f_Book_post P (f_BookR P nn) (rB P N h j v)) := by
  unfold f_Book_post sPo
  unfold Fq rkq at F
  rw [if_neg (by omega), if_neg (by omega), if_neg (by omega), if_pos rfl] at F
  rcases IH 4 0 0 d j h b m v (by unfold Fq rkq; rw [if_neg (by omega), if_neg (by omega), if_neg (by omega), if_neg (by omega), if_pos rfl]; omega) E G hmj (pre0 T N 0 0 j (by omega)) with ⟨g, e1, s1⟩ | ⟨b1, j1, w1, x1, h1, v1, m1, e1, s1, R1⟩
  · rw [e1, xtb_n, on_bind, s1]; exact Or.inl ⟨g, rfl, rfl⟩
  · rw [e1, xtb_s, on_bind, s1]
    simp only [on_s]
    exact pl_S (f_BookR P nn) hmj 200000 200000 j1 w1 x1 m1 h1 b1 v1 R1 (by omega) (by omega)
theorem un_S (IH : IHq P N T lk nn) (E : ESq P N T lk b d h m) (G : gkT T N j) (hmj : m ≤ j) (F : Fq (nn + 1) 2 0 d) (v : Int64) : XOq P N T lk d j m h (on b (sUn (txT T N) (sR (txT T N) lk nn) d j)) (f_Book_unary P (f_BookR P nn) (rB P N h j v)) := by
  have H := E.hb
  unfold Fq rkq at F
  rw [if_neg (by omega), if_neg (by omega), if_pos rfl] at F
  have eX : ∀ i, (txT T N).kd i = kdT T N i := fun _ => rfl
  have c45 : (tok T N j).1 = (45 : Int32) ↔ kdT T N j = 45 := H.ch (c := 45) G (by omega) (by omega)
  have c126 : (tok T N j).1 = (126 : Int32) ↔ kdT T N j = 126 := H.ch (c := 126) G (by omega) (by omega)
  have c33 : (tok T N j).1 = (33 : Int32) ↔ kdT T N j = 33 := H.ch (c := 33) G (by omega) (by omega)
  unfold f_Book_unary sUn
  rw [H.k4, eX]
  have sg : kdT T N j = 45 ∨ kdT T N j = 126 ∨ kdT T N j = 33 → XOq P N T lk d j m h (on b ((gd (ps (txT T N) d j)).bind fun _ => (sR (txT T N) lk nn 2 0 (d + 1) (j + 1)).bind fun x => if kdT T N j = 33 ∧ ¬ x.2 = 1 then none else some x)) (f_Book_unary_32 P (f_BookR P nn) (rB P N h j v)) := fun hk => by
    unfold f_Book_unary_32
    rw [H.k4]
    rcases pS H G (by omega) (by omega) v with ⟨p2, G2, v2, e2⟩ | ⟨p2, g, e2⟩
    rotate_left
    · rw [e2, xtb_n, gd_f p2]; exact Or.inl ⟨g, rfl, on_none _⟩
    have hd := ps_d p2
    have E2 := E.dep (d2 := d + 1) (by omega)
    rw [e2, xtb_s, gd_t p2, dUp H hd, xk_s]
    rcases IH 2 0 0 (d + 1) (j + 1) _ b m v2 (by unfold Fq rkq; rw [if_neg (by omega), if_neg (by omega), if_pos rfl]; omega) E2 G2 (by omega) (pre0 T N 0 0 _ (by omega)) with ⟨g, e1, s1⟩ | ⟨b1, j1, w1, x1, h1, v1, m1, e1, s1, R1⟩
    · rw [e1, xtb_n, on_bind, s1]; exact Or.inl ⟨g, rfl, rfl⟩
    rw [e1, xtb_s, on_bind, s1, dDn R1.es.hb, xk_s]
    simp only [on_s]
    have E6 := R1.es.dep (d2 := d) (by omega)
    have X6 := R1.fr.dep H.dp
    have hc := R1.cnt
    have hj := R1.jj
    have hmm := R1.mm
    have xm := R1.xm
    have hjb := gk_le R1.es R1.gk
    have h1m : m1 < 33000 := by omega
    have ew : ∀ h3, XFr P m1 (mv_si h1 P 8 (nI d)) h3 → mv_a (rB P N h3 j1 v1) (P + 23) (nI x1).toNatClampNeg = nI w1 := fun h3 X3 => by
      rw [cln (by omega)]; exact (X3.w x1 xm).trans R1.wx
    have fin : ∀ (h3 h4 : mv_H) (b3 : Bool) (w : Nat), XFr P m1 (mv_si h1 P 8 (nI d)) h3 → ESq P N T lk b3 d h4 (m1 + 1) → XFr P m1 h3 h4 → mv_a h4 (P + 23) m1 = nI w → w ≤ 40000 → (b3 = true → 0 < w) → XRq P N T lk b3 d j j1 m (m1 + 1) h h4 m1 w := fun h3 h4 b3 w X3 E4 X4 e4 hw hp =>
      ⟨E4, (X6.trans X3 hmm).trans X4 hmm, by omega, R1.gk, by omega, by omega, by omega, e4, hw, hp⟩
    have base := ew _ (XFr.refl P m1 _)
    rw [xvi_n (by omega) (by decide), base, cond_true]
    -- right: a node as wide
    have good : w1 ≠ 0 → ¬ (kdT T N j = 33 ∧ ¬ w1 = 1) → XOq P N T lk d j m h (on b1 (if kdT T N j = 33 ∧ ¬ w1 = 1 then none else some (j1, w1))) (f_Book_unary_96 P (f_BookR P nn) (tok T N j).1 (mv_i (rB P N h j v) P 5) (nI x1) (rB P N (mv_si h1 P 8 (nI d)) j1 v1)) := fun w0 q => by
      obtain ⟨h4, e4, E4, X4, w4⟩ := nN E6 h1m 6 (nI x1) (tok T N j).1 0 (w := w1) R1.w2 j1 v1
      unfold f_Book_unary_96 f_Book_unary_101 f_Book_unary_123 f_Book_unary_144
      rw [xvi_n (by omega) (by decide), base, cond_true, if_neg (fun z => w0 ((nle_0 R1.w2).mp z)), if_neg n10, if_neg n10, cond_true, e4, xhb_s, if_neg q]
      exact Or.inr ⟨b1, j1, w1, m1, h4, v1, m1 + 1, rfl, rfl, fin _ h4 b1 w1 (XFr.refl P m1 _) E4 X4 w4 R1.w2 R1.ps⟩
    have bad : (w1 = 0 ∨ (kdT T N j = 33 ∧ ¬ w1 = 1)) → XOq P N T lk d j m h (on b1 (if kdT T N j = 33 ∧ ¬ w1 = 1 then none else some (j1, w1))) (f_Book_unary_100 P (f_BookR P nn) (tok T N j).1 (mv_i (rB P N h j v) P 5) (nI x1) (rB P N (mv_si h1 P 8 (nI d)) j1 v1)) := fun q => by
      unfold f_Book_unary_100 f_Book_unary_101 f_Book_unary_123 f_Book_unary_144
      rw [xvi_n (by omega) (by decide), base, cond_true, if_pos rfl]
      by_cases w0 : w1 = 0
      · have hb : b1 = false := Bool.eq_false_iff.mpr (fun z => by have := R1.ps z; omega)
        subst hb
        obtain ⟨h4, e4, E4, X4, w4⟩ := nN E6 h1m 6 (nI x1) (tok T N j).1 0 (w := 0) (by omega) j1 v1
        rw [if_pos ((nle_0 R1.w2).mpr w0)]
        show XOq P N T lk d j m h _ (xhb (f_Book_node P (rB P N (mv_si h1 P 8 (nI d)) j1 v1) 6 (nI x1) (tok T N j).1 0 (nI 0)) _)
        rw [e4, xhb_s]
        exact Or.inr ⟨false, j1, 0, m1, h4, v1, m1 + 1, rfl, rfl, fin _ h4 false 0 (XFr.refl P m1 _) E4 X4 w4 (by omega) (fun z => by cases z)⟩
      · have q := q.resolve_left w0
        obtain ⟨h3, e3, E3, X3⟩ := fN E6 (k := 4) (by decide) (mv_i (rB P N h j v) P 5) j1 v1
        obtain ⟨h4, e4, E4, X4, w4⟩ := nN E3 h1m 6 (nI x1) (tok T N j).1 0 (w := 0) (by omega) j1 v1
        rw [if_neg (fun z => w0 ((nle_0 R1.w2).mp z)), e3, xhv_s, if_pos rfl, if_pos rfl]
        show XOq P N T lk d j m h _ (xhb (f_Book_node P (rB P N h3 j1 v1) 6 (nI x1) (tok T N j).1 0 (nI 0)) _)
        rw [e4, xhb_s, if_pos q, on_none]
        exact Or.inr ⟨false, j1, 0, m1, h4, v1, m1 + 1, rfl, rfl, fin _ h4 false 0 X3 E4 X4 w4 (by omega) (fun z => by cases z)⟩
    by_cases w0 : w1 = 0
    · rw [if_pos ((nle_0 R1.w2).mpr w0)]; exact bad (Or.inl w0)
    · rw [if_neg (fun z => w0 ((nle_0 R1.w2).mp z))]
      by_cases q : kdT T N j = 33
      · rw [if_pos (c33.mpr q), cond_true]
        by_cases o : w1 = 1
        · rw [if_pos (show nI w1 = 1 by rw [o]; rfl)]; exact good w0 (fun z => z.2 o)
        · rw [if_neg (show ¬ nI w1 = 1 from fun z => o ((nIinj (b := 1) (by have := R1.w2; omega) (by omega)).mp z))]; exact bad (Or.inr ⟨q, o⟩)
      · rw [if_neg (fun z => q (c33.mp z))]; exact good w0 (fun z => q z.1)
  by_cases c : kdT T N j = 45 ∨ kdT T N j = 126 ∨ kdT T N j = 33
  · rw [if_pos c]
    by_cases q1 : kdT T N j = 45
    · rw [if_pos (c45.mpr q1)]; exact sg c
    · rw [if_neg (fun z => q1 (c45.mp z))]
      by_cases q2 : kdT T N j = 126
      · rw [if_pos (c126.mpr q2)]; exact sg c
      · rw [if_neg (fun z => q2 (c126.mp z)), if_pos (c33.mpr (by omega))]; exact sg c
  · rw [if_neg c, if_neg (fun z => c (Or.inl (c45.mp z))), if_neg (fun z => c (Or.inr (Or.inl (c126.mp z)))), if_neg (fun z => c (Or.inr (Or.inr (c33.mp z))))]
    rcases IH 3 0 0 d j h b m v (by unfold Fq rkq; rw [if_neg (by omega), if_neg (by omega), if_neg (by omega), if_pos rfl]; omega) E G hmj (pre0 T N 0 0 j (by omega)) with ⟨g, e1, s1⟩ | ⟨b1, j1, w1, x1, h1, v1, m1, e1, s1, R1⟩
    · rw [e1, xtb_n, s1]; exact Or.inl ⟨g, rfl, rfl⟩
    · rw [e1, xtb_s, s1]; exact Or.inr ⟨b1, j1, w1, x1, h1, v1, m1, rfl, rfl, R1⟩
end PL
section NMD
variable {P N : Nat} {T : Nat → Nat} {lk : List Nat → Nat × Nat} {d : Nat} {b : Bool} {m : Nat} {h : mv_H} (E : ESq P N T lk b d h m)
abbrev lfz (P : Nat) (h : mv_H) (q e : Nat) : Option Nat := fsz (mv_a h 71) (mv_i h P 35).toNatClampNeg (mv_a h (P + 14)) (mv_a h (P + 15)) q e
abbrev tfz (P : Nat) (h : mv_H) (q e : Nat) : Option Nat := fsz (mv_a h 71) (mv_i h P 17).toNatClampNeg (mv_a h (P + 1)) (mv_a h (P + 2)) q e
abbrev cfz (P N : Nat) (h : mv_H) (q : Nat) : Nat := ctz (ck h N) (mv_i h P 30) (mv_i h P 29) (mv_a h (P + 10)) (mv_a h (P + 13)) q
theorem let_S (E : ESq P N T lk b d h m) {q e : Nat} (hq : q ≤ e) (he : e ≤ N) (j : Nat) (v : Int64) : f_Book_let P (rB P N h j v) (nI q) (nI e) = some (resI (lfz P h q e), rB P N h j v) := by
  have R := E.ro
  have := E.hb.n2
  exact let_n (h := rB P N h j v) (N := (mv_i h P 35).toNatClampNeg) (S := fun i => (mv_a h (P + 14) i).toNatClampNeg) (E := fun i => (mv_a h (P + 15) i).toNatClampNeg) ((rB_o j v (by omega)).trans R.l0) R.l1 (fun i hi => by have := R.l2 i hi; exact ⟨this.1, this.2.1, this.2.2.1, by omega⟩) hq (by omega)
theorem thg_S (E : ESq P N T lk b d h m) {q e : Nat} (hq : q ≤ e) (he : e ≤ N) (j : Nat) (v : Int64) : f_Book_thing P (rB P N h j v) (nI q) (nI e) = some (resI (tfz P h q e), rB P N h j v) := by
  have R := E.ro
  have := E.hb.n2
  exact thing_n (h := rB P N h j v) (N := (mv_i h P 17).toNatClampNeg) (S := fun i => (mv_a h (P + 1) i).toNatClampNeg) (E := fun i => (mv_a h (P + 2) i).toNatClampNeg) ((rB_o j v (by omega)).trans R.t0) (by have := R.t1; omega) (fun i hi => by have := R.t2 i hi; exact ⟨this.1, this.2.1, this.2.2.1, by omega⟩) hq (by omega)
theorem fld_S (E : ESq P N T lk b d h m) {q e : Nat} (hq : q ≤ e) (he : e ≤ N) (j : Nat) (v : Int64) : f_Book_isField P (rB P N h j v) (nI q) (nI e) = some (b01 (decide (e - q = 1 ∧ isl (ck h N q) = true ∧ 0 < cfz P N h q)), rB P N h j v) := by
  have R := E.ro
  exact isField_n (h := rB P N h j v) (by rw [rB_o j v (by omega)]; exact E.hb.n) E.hb.n2 ((rB_o j v (by omega)).trans R.e0) R.e1 ((rB_o j v (by omega)).trans R.o0) R.o1 R.b0 R.b1 hq he
theorem ltb_S (E : ESq P N T lk b d h m) (c : Int32) (j : Nat) (v : Int64) : f_Book_letterBits P (rB P N h j v) c = some (nI (cntm (mv_a h (P + 13)) c ((mv_i h P 30).toNatClampNeg - (mv_a h (P + 10) (mv_i h P 29).toNatClampNeg).toNatClampNeg) (mv_a h (P + 10) (mv_i h P 29).toNatClampNeg).toNatClampNeg 0), rB P N h j v) := by
  have R := E.ro
  exact letterBits_n (h := rB P N h j v) ((rB_o j v (by omega)).trans R.e0) R.e1 ((rB_o j v (by omega)).trans R.o0) R.o1 R.b0 R.b1 c
theorem cfz_le (E : ESq P N T lk b d h m) (q : Nat) : cfz P N h q ≤ 32768 := by
  have R := E.ro
  unfold cfz ctz
  have := cntm_le (A := mv_a h (P + 13)) (c := chr (ck h N q)) ((mv_i h P 30).toNatClampNeg - (mv_a h (P + 10) (mv_i h P 29).toNatClampNeg).toNatClampNeg) (mv_a h (P + 10) (mv_i h P 29).toNatClampNeg).toNatClampNeg 0
  have := R.e1
  omega
theorem look_S (E : ESq P N T lk b d h m) {q : Nat} (hq : q < 2147483648) (j : Nat) (v : Int64) : f_Book_look P (rB P N h j v) (nI q) = some (chr (ck h N q), rB P N h j v) := look_c (by rw [rB_o j v (by omega)]; exact E.hb.n) E.hb.n2 (nIi hq)
theorem fsz_lt {t : Nat → Int32} {n : Nat} {r s : Nat → Int32} {q e i : Nat} (w : fsz t n r s q e = some i) : i < n := by
  have := fstm_s n 0 i w
  omega
theorem name_pq (E : ESq P N T lk b d h m) {j : Nat} (G : gkT T N j) : pos T N j ≤ bp T N (j + 1) ∧ bp T N (j + 1) ≤ N := by
  have h1 := bp_bd E.te.1 E.te.2 (j + 1)
  exact ⟨(tok_bd E.te.1 E.te.2 (bp_bd E.te.1 E.te.2 j).2.1).1, h1.1⟩
variable {nn : Nat} (IH : IHq P N T lk nn) {j : Nat} (G : gkT T N j) (hmj : m ≤ j)
theorem nm_S (E : ESq P N T lk b d h m) (IH : IHq P N T lk nn) (G : gkT T N j) (hmj : m ≤ j) (hk : kdT T N j = 3) (F : Fq (nn + 1) 5 0 d) (v : Int64) : XOq P N T lk d j m h (on b (sNm (txT T N) lk (sR (txT T N) lk nn) d j)) (f_Book_named P (f_BookR P nn) (rB P N h j v)) := by
  have H := E.hb
  unfold Fq rkq at F
  rw [if_neg (by omega), if_neg (by omega), if_neg (by omega), if_neg (by omega), if_neg (by omega)] at F
  have pq := name_pq E G
  have hn2 := H.n2
  have en : (txT T N).nm j = tn T (pos T N j) (bp T N (j + 1) - pos T N j) := by
    show (if (tok T N j).1 = 3 then _ else _) = _
    rw [if_neg (by rw [((kd_nm H.lt G.1).mpr hk).1]; decide)]
  have eX : ∀ i, (txT T N).kd i = kdT T N i := fun _ => rfl
  have hlk : b = true → lk ((txT T N).nm j) = lkQ P N h (pos T N j) (bp T N (j + 1)) := fun w => by rw [en]; exact (E.ev w _ _ pq.1 pq.2).symm
  unfold f_Book_named sNm
  rw [H.k5, H.k6]
  rcases pS H G (by omega) (by omega) v with ⟨p1, G1, v1, e1⟩ | ⟨p1, g, e1⟩
  rotate_left
  · rw [e1, xtb_n, gd_f p1]; exact Or.inl ⟨g, rfl, on_none _⟩
  have hd := ps_d p1
  rw [e1, xtb_s, gd_t p1, let_S E pq.1 pq.2, xhb_s]
  have hjb := gk_le E G1
  have hm : m < 33000 := by omega
  -- a value: a node as wide as the row says
  have val : ∀ (k w : Nat) (s x y z : Int32), (k = 1 ∨ k = 3) → lkQ P N h (pos T N j) (bp T N (j + 1)) = (k, w) → w ≤ 40000 → XOq P N T lk d j m h (on b (if (lk ((txT T N).nm j)).1 = 3 ∨ (lk ((txT T N).nm j)).1 = 1 then some (j + 1, (lk ((txT T N).nm j)).2) else if (lk ((txT T N).nm j)).1 = 2 ∧ (txT T N).kd (j + 1) = 91 then (gd (ps (txT T N) d (j + 1))).bind fun _ => (sR (txT T N) lk nn 0 0 (d + 1) (j + 2)).bind fun i => (ndq (txT T N) (d + 1) i.1 93).bind fun _ => some (i.1 + 1, (lk ((txT T N).nm j)).2) else none)) (xhb (f_Book_node P (rB P N h (j + 1) v1) s x y z (nI w)) fun u g => some (some u, g)) := fun k w s x y z hk ew hw => by
    obtain ⟨h4, e4, E4, X4, w4⟩ := nN E hm s x y z hw (j + 1) v1
    rw [e4, xhb_s]
    refine Or.inr ⟨b, j + 1, w, m, h4, v1, m + 1, rfl, ?_, ⟨E4, X4, by omega, G1, by omega, by omega, by omega, w4, hw, fun q => ?_⟩⟩
    · cases b with
      | false => rfl
      | true =>
        rw [hlk rfl, ew, if_pos (by omega)]
    · have := E.lp ((txT T N).nm j)
      rw [hlk q, ew] at this
      exact (this (by show ¬ k = 0; omega)).1
  -- no value: a fault and a node of none
  have non : (b = true → ¬ ((lk ((txT T N).nm j)).1 = 3 ∨ (lk ((txT T N).nm j)).1 = 1) ∧ ¬ ((lk ((txT T N).nm j)).1 = 2 ∧ (txT T N).kd (j + 1) = 91)) → XOq P N T lk d j m h (on b (if (lk ((txT T N).nm j)).1 = 3 ∨ (lk ((txT T N).nm j)).1 = 1 then some (j + 1, (lk ((txT T N).nm j)).2) else if (lk ((txT T N).nm j)).1 = 2 ∧ (txT T N).kd (j + 1) = 91 then (gd (ps (txT T N) d (j + 1))).bind fun _ => (sR (txT T N) lk nn 0 0 (d + 1) (j + 2)).bind fun i => (ndq (txT T N) (d + 1) i.1 93).bind fun _ => some (i.1 + 1, (lk ((txT T N).nm j)).2) else none)) (xhv (f_Book_fault P (rB P N h (j + 1) v1) 2 (nI (pos T N j))) fun g => xhb (f_Book_node P g 13 0 0 0 0) fun u g => some (some u, g)) := fun hq => by
    obtain ⟨h3, e3, E3, X3⟩ := fN E (k := 2) (by decide) (nI (pos T N j)) (j + 1) v1
    obtain ⟨h4, e4, E4, X4, w4⟩ := nN E3 hm 13 0 0 0 (w := 0) (by omega) (j + 1) v1
    rw [e3, xhv_s]
    show XOq P N T lk d j m h _ (xhb (f_Book_node P (rB P N h3 (j + 1) v1) 13 0 0 0 (nI 0)) _)
    rw [e4, xhb_s]
    refine Or.inr ⟨false, j + 1, 0, m, h4, v1, m + 1, rfl, ?_, ⟨E4, X3.trans X4 (Nat.le_refl _), by omega, G1, by omega, by omega, by omega, w4, by omega, fun q => by cases q⟩⟩
    cases b with
    | false => rfl
    | true => rw [if_neg (hq rfl).1, if_neg (hq rfl).2]; rfl
  have elk : lkQ P N h (pos T N j) (bp T N (j + 1)) = match lfz P h (pos T N j) (bp T N (j + 1)) with
      | some i => (3, (mv_a h (P + 16) i).toNatClampNeg)
      | none => if bp T N (j + 1) - pos T N j = 1 ∧ isl (ck h N (pos T N j)) = true ∧ 0 < cfz P N h (pos T N j) then (3, cfz P N h (pos T N j)) else match tfz P h (pos T N j) (bp T N (j + 1)) with
        | some i => if mv_a h (P + 6) i = 0 then (1, (mv_a h (P + 3) i).toNatClampNeg) else (2, (mv_a h (P + 3) i).toNatClampNeg)
        | none => (0, 0) := rfl
  cases c1 : lfz P h (pos T N j) (bp T N (j + 1)) with
  | some i =>
    rw [c1] at elk
    have hi := fsz_lt c1
    have l1 := E.ro.l1
    have l3 := E.ro.l3 i hi
    rw [show resI (some i) = nI i from rfl, if_neg (nI_neg (by omega)), xvi_n (by omega) (by decide), cond_true, cond_true, cln (by omega)]
    have ew : mv_a (rB P N h (j + 1) v1) (P + 16) i = nI (mv_a h (P + 16) i).toNatClampNeg := l3.1
    rw [ew]
    exact val 3 _ 5 _ 0 0 (Or.inr rfl) elk l3.2
  | none =>
    rw [c1] at elk
    rw [show resI none = -1 from rfl, if_pos (show (-1 : Int32) < 0 by decide), fld_S E pq.1 pq.2, xhb_s]
    by_cases c2 : bp T N (j + 1) - pos T N j = 1 ∧ isl (ck h N (pos T N j)) = true ∧ 0 < cfz P N h (pos T N j)
    · rw [decide_eq_true c2, if_neg (show ¬ b01 true = 0 by decide), look_S E (by omega), xhb_s, look_S E (by omega), xhb_s, ltb_S E, xhb_s]
      simp only [if_pos c2] at elk
      exact val 3 (cfz P N h (pos T N j)) 4 _ 0 0 (Or.inr rfl) elk (by have := cfz_le E (pos T N j); omega)
    · rw [decide_eq_false c2, if_pos (show b01 false = 0 from rfl), thg_S E pq.1 pq.2, xhb_s]
      simp only [if_neg c2] at elk
      cases c3 : tfz P h (pos T N j) (bp T N (j + 1)) with
      | none =>
        rw [c3] at elk
        rw [show resI none = -1 from rfl, if_neg (show ¬ (0 : Int32) ≤ -1 by decide)]
        exact non (fun w => by rw [hlk w, elk]; exact ⟨by show ¬ (0 = 3 ∨ 0 = 1); decide, fun z => absurd (show 0 = 2 from z.1) (by decide)⟩)
      | some t =>
        rw [c3] at elk
        have ht := fsz_lt c3
        have t1 := E.ro.t1
        have t3 := E.ro.t3 t ht
        rw [show resI (some t) = nI t from rfl, if_pos (show (0 : Int32) ≤ nI t from (nIle (a := 0) (by omega) (by omega)).mpr (by omega)), xvi_n (by omega) (by decide), cond_true, cond_true, cln (by omega)]
        have ew : mv_a (rB P N h (j + 1) v1) (P + 3) t = nI (mv_a h (P + 3) t).toNatClampNeg := t3.1
        have ef : mv_a (rB P N h (j + 1) v1) (P + 6) t = mv_a h (P + 6) t := rfl
        rw [ew, ef, H.k4]
        have hch : (tok T N (j + 1)).1 = (91 : Int32) ↔ kdT T N (j + 1) = 91 := H.ch (c := 91) G1 (by omega) (by omega)
        by_cases c4 : mv_a h (P + 6) t = 0
        · rw [if_pos c4]
          simp only [if_pos c4] at elk
          exact val 1 _ 2 _ 0 0 (Or.inl rfl) elk (by omega)
        · rw [if_neg c4]
          simp only [if_neg c4] at elk
          by_cases c5 : kdT T N (j + 1) = 91
          rotate_left
          · rw [if_neg (fun z => c5 (hch.mp z))]
            exact non (fun w => by rw [hlk w, elk]; exact ⟨by show ¬ (2 = 3 ∨ 2 = 1); decide, fun z => c5 z.2⟩)
          rw [if_pos (hch.mpr c5)]
          have es : on b (if (lk ((txT T N).nm j)).1 = 3 ∨ (lk ((txT T N).nm j)).1 = 1 then some (j + 1, (lk ((txT T N).nm j)).2) else if (lk ((txT T N).nm j)).1 = 2 ∧ (txT T N).kd (j + 1) = 91 then (gd (ps (txT T N) d (j + 1))).bind fun _ => (sR (txT T N) lk nn 0 0 (d + 1) (j + 2)).bind fun i => (ndq (txT T N) (d + 1) i.1 93).bind fun _ => some (i.1 + 1, (lk ((txT T N).nm j)).2) else none) = on b ((gd (ps (txT T N) d (j + 1))).bind fun _ => (sR (txT T N) lk nn 0 0 (d + 1) (j + 2)).bind fun i => (ndq (txT T N) (d + 1) i.1 93).bind fun _ => some (i.1 + 1, (mv_a h (P + 3) t).toNatClampNeg)) := by
            cases b with
            | false => rfl
            | true => rw [hlk rfl, elk, if_neg (by show ¬ (2 = 3 ∨ 2 = 1); decide), if_pos ⟨rfl, c5⟩]
          rw [es]
          rcases pS H G1 (by omega) (by omega) v1 with ⟨p2, G2, v2, e2⟩ | ⟨p2, g, e2⟩
          rotate_left
          · rw [e2, xtb_n, gd_f p2]; exact Or.inl ⟨g, rfl, on_none _⟩
          rw [e2, xtb_s, gd_t p2, dUp H hd, xk_s]
          have E2 := E.dep (d2 := d + 1) (by omega)
          rcases IH 0 0 0 (d + 1) (j + 2) _ b m v2 (by unfold Fq rkq; rw [if_pos rfl]; omega) E2 G2 (by omega) (pre0 T N 0 0 _ (Or.inl rfl)) with ⟨g, e3, s3⟩ | ⟨b3, j3, w3, x3, h3, v3, m3, e3, s3, R3⟩
          · rw [show j + 1 + 1 = j + 2 from rfl, e3, xtb_n, on_bind, s3]; exact Or.inl ⟨g, rfl, rfl⟩
          rw [show j + 1 + 1 = j + 2 from rfl, e3, xtb_s, on_bind, s3]
          simp only [on_s]
          rcases ndS R3.es.hb R3.gk (c := 93) (k := 93) (by omega) (R3.es.hb.ch (c := 93) R3.gk (by omega) (by omega)) v3 with ⟨k4, p4, G4, s4, v4, e4⟩ | ⟨s4, g, e4⟩
          rotate_left
          · rw [e4, xtb_n, s4]; exact Or.inl ⟨g, rfl, on_none _⟩
          rw [e4, xtb_s, s4, Option.bind_some, dDn R3.es.hb, xk_s]
          have E6 := R3.es.dep (d2 := d) (by omega)
          have X6 := R3.fr.dep H.dp
          have hc := R3.cnt
          have hj := R3.jj
          have hmm := R3.mm
          have xm := R3.xm
          have hjb3 := gk_le R3.es R3.gk
          have h3m : m3 < 33000 := by omega
          have ex : mv_a (rB P N (mv_si h3 P 8 (nI d)) (j3 + 1) v4) (P + 23) x3 = nI w3 := R3.wx
          have et : mv_a (rB P N (mv_si h3 P 8 (nI d)) (j3 + 1) v4) (P + 3) t = nI (mv_a h (P + 3) t).toNatClampNeg := (congrFun (X6.a (P + 3) (by omega)) t).trans t3.1
          rw [xvi_n (by omega) (by decide), cond_true, cond_true, cln (by omega), ex, et]
          unfold f_Book_named_223
          by_cases w0 : w3 = 0
          · have hb : b3 = false := Bool.eq_false_iff.mpr (fun z => by have := R3.ps z; omega)
            subst hb
            rw [if_pos (show nI w3 = 0 by rw [w0]; rfl)]
            obtain ⟨h5, e5, E5, X5, w5⟩ := nN E6 h3m 3 (nI t) (nI x3) 0 (w := 0) (by omega) (j3 + 1) v4
            show XOq P N T lk d j m h _ (xhb (f_Book_node P (rB P N (mv_si h3 P 8 (nI d)) (j3 + 1) v4) 3 (nI t) (nI x3) 0 (nI 0)) _)
            rw [e5, xhb_s]
            exact Or.inr ⟨false, j3 + 1, 0, m3, h5, v4, m3 + 1, rfl, rfl, ⟨E5, X6.trans X5 hmm, by omega, G4, by omega, by omega, by omega, w5, by omega, fun q => by cases q⟩⟩
          · rw [if_neg (show ¬ nI w3 = 0 from fun z => w0 ((nIinj (b := 0) (by have := R3.w2; omega) (by omega)).mp z))]
            obtain ⟨h5, e5, E5, X5, w5⟩ := nN E6 h3m 3 (nI t) (nI x3) 0 (w := (mv_a h (P + 3) t).toNatClampNeg) (by omega) (j3 + 1) v4
            rw [e5, xhb_s]
            refine Or.inr ⟨b3, j3 + 1, _, m3, h5, v4, m3 + 1, rfl, rfl, ⟨E5, X6.trans X5 hmm, by omega, G4, by omega, by omega, by omega, w5, by omega, fun q => ?_⟩⟩
            have := E.lp ((txT T N).nm j)
            rw [hlk (on_mono s3 q), elk] at this
            exact (this (by show ¬ 2 = 0; decide)).1
end NMD
section WC
variable {P N : Nat} {T : Nat → Nat} {lk : List Nat → Nat × Nat} {d : Nat} {b : Bool} {m : Nat} {h : mv_H} (E : ESq P N T lk b d h m)
variable {nn : Nat} (IH : IHq P N T lk nn) {j : Nat} (G : gkT T N j) (hmj : m ≤ j)
theorem ca_S (E : ESq P N T lk b d h m) (IH : IHq P N T lk nn) (G : gkT T N j) (hmj : m ≤ j) {ko : Nat} (hko : (ko, kdT T N j) ∈ OPK) (hk : 213 ≤ kdT T N j) (F : Fq (nn + 1) 7 0 d) (v : Int64) : XOq P N T lk d j m h (on b (sCa (txT T N) (sR (txT T N) lk nn) d j)) (f_Book_called P (f_BookR P nn) (rB P N h j v) (nI ko)) := by
  have H := E.hb
  unfold Fq rkq at F
  rw [if_neg (by omega), if_neg (by omega), if_neg (by omega), if_neg (by omega), if_neg (by omega)] at F
  unfold f_Book_called sCa
  rcases pS H G (by omega) (by omega) v with ⟨p1, G1, v1, e1⟩ | ⟨p1, g, e1⟩
  rotate_left
  · rw [e1, xtb_n, gd_f p1]; exact Or.inl ⟨g, rfl, on_none _⟩
  have hd := ps_d p1
  rw [e1, xtb_s, gd_t p1]
  rcases ndS H G1 (c := 40) (k := 40) (by omega) (H.ch (c := 40) G1 (by omega) (by omega)) v1 with ⟨k2, p2, G2, s2, v2, e2⟩ | ⟨s2, g, e2⟩
  rotate_left
  · rw [e2, xtb_n, s2]; exact Or.inl ⟨g, rfl, on_none _⟩
  rw [e2, xtb_s, s2, Option.bind_some, dUp H hd, xk_s]
  have E2 := E.dep (d2 := d + 1) (by omega)
  have F2 : Fq nn 0 0 (d + 1) := by unfold Fq rkq; rw [if_pos rfl]; omega
  rcases IH 0 0 0 (d + 1) (j + 2) _ b m v2 F2 E2 G2 (by omega) (pre0 T N 0 0 _ (Or.inl rfl)) with ⟨g, e3, s3⟩ | ⟨b3, j3, w3, x3, h3, v3, m3, e3, s3, R3⟩
  · rw [show j + 1 + 1 = j + 2 from rfl, e3, xtb_n, on_bind, s3]; exact Or.inl ⟨g, rfl, rfl⟩
  rw [show j + 1 + 1 = j + 2 from rfl, e3, xtb_s, on_bind, s3]
  simp only [on_s]
  rcases ndS R3.es.hb R3.gk (c := 44) (k := 44) (by omega) (R3.es.hb.ch (c := 44) R3.gk (by omega) (by omega)) v3 with ⟨k4, p4, G4, s4, v4, e4⟩ | ⟨s4, g, e4⟩
  rotate_left
  · rw [e4, xtb_n, s4]; exact Or.inl ⟨g, rfl, on_none _⟩
  rw [e4, xtb_s, s4, Option.bind_some]
  have hc3 := R3.cnt
  have hj3 := R3.jj
  have hm3 := R3.mm
  rcases IH 0 0 0 (d + 1) (j3 + 1) _ b3 m3 v4 F2 R3.es G4 (by omega) (pre0 T N 0 0 _ (Or.inl rfl)) with ⟨g, e5, s5⟩ | ⟨b5, j5, w5, x5, h5, v5, m5, e5, s5, R5⟩
  · rw [e5, xtb_n, on_bind, s5]; exact Or.inl ⟨g, rfl, rfl⟩
  rw [e5, xtb_s, on_bind, s5]
  simp only [on_s]
  rcases ndS R5.es.hb R5.gk (c := 41) (k := 41) (by omega) (R5.es.hb.ch (c := 41) R5.gk (by omega) (by omega)) v5 with ⟨k6, p6, G6, s6, v6, e6⟩ | ⟨s6, g, e6⟩
  rotate_left
  · rw [e6, xtb_n, s6]; exact Or.inl ⟨g, rfl, on_none _⟩
  rw [e6, xtb_s, s6, Option.bind_some, dDn R5.es.hb, xk_s]
  have hc5 := R5.cnt
  have hj5 := R5.jj
  have hm5 := R5.mm
  have E6 := R5.es.dep (d2 := d) (by omega)
  have R35 := R3.tr R5 (by omega)
  have X6 := R35.fr.dep H.dp
  have hjb := gk_le R5.es R5.gk
  have h5m : m5 < 33000 := by omega
  have xm3 := R3.xm
  obtain ⟨b7, w7, h7, e7, E7, X7, ew, hw, hp, s7⟩ := two_S E6 h5m hko (mv_i (rB P N h j v) P 5) (show x3 < m5 by omega) R5.xm ((R5.fr.w x3 xm3).trans R3.wx) R5.wx R3.w2 R5.w2 (fun q => R3.ps (on_mono s5 q)) R5.ps (j5 + 1) v6
  have eX : (txT T N).kd j = kdT T N j := rfl
  rw [e7, xhb_s, eX, on_bind, s7]
  simp only [on_s]
  exact Or.inr ⟨b7, j5 + 1, w7, m5, h7, v6, m5 + 1, rfl, rfl, ⟨E7, X6.trans X7 (by omega), by omega, G6, by omega, by omega, by omega, ew, hw, hp⟩⟩
theorem wi_S (E : ESq P N T lk b d h m) (IH : IHq P N T lk nn) (G : gkT T N j) (hmj : m ≤ j) (hk : kdT T N j = 211 ∨ kdT T N j = 212) (F : Fq (nn + 1) 6 0 d) (α : Int32) (v : Int64) : XOq P N T lk d j m h (on b (sWi (txT T N) (sR (txT T N) lk nn) d j)) (f_Book_wider P (f_BookR P nn) (rB P N h j v) α) := by
  have H := E.hb
  unfold Fq rkq at F
  rw [if_neg (by omega), if_neg (by omega), if_neg (by omega), if_neg (by omega), if_neg (by omega)] at F
  unfold f_Book_wider sWi
  rcases pS H G (by omega) (by omega) v with ⟨p1, G1, v1, e1⟩ | ⟨p1, g, e1⟩
  rotate_left
  · rw [e1, xtb_n, gd_f p1]; exact Or.inl ⟨g, rfl, on_none _⟩
  have hd := ps_d p1
  rw [e1, xtb_s, gd_t p1]
  rcases ndS H G1 (c := 40) (k := 40) (by omega) (H.ch (c := 40) G1 (by omega) (by omega)) v1 with ⟨k2, p2, G2, s2, v2, e2⟩ | ⟨s2, g, e2⟩
  rotate_left
  · rw [e2, xtb_n, s2]; exact Or.inl ⟨g, rfl, on_none _⟩
  rw [e2, xtb_s, s2, Option.bind_some, dUp H hd, xk_s]
  have E2 := E.dep (d2 := d + 1) (by omega)
  have F2 : Fq nn 0 0 (d + 1) := by unfold Fq rkq; rw [if_pos rfl]; omega
  rcases IH 0 0 0 (d + 1) (j + 2) _ b m v2 F2 E2 G2 (by omega) (pre0 T N 0 0 _ (Or.inl rfl)) with ⟨g, e3, s3⟩ | ⟨b3, j3, w3, x3, h3, v3, m3, e3, s3, R3⟩
  · rw [show j + 1 + 1 = j + 2 from rfl, e3, xtb_n, on_bind, s3]; exact Or.inl ⟨g, rfl, rfl⟩
  rw [show j + 1 + 1 = j + 2 from rfl, e3, xtb_s, on_bind, s3]
  simp only [on_s]
  have H3 := R3.es.hb
  rcases ndS H3 R3.gk (c := 44) (k := 44) (by omega) (H3.ch (c := 44) R3.gk (by omega) (by omega)) v3 with ⟨k4, p4, G4, s4, v4, e4⟩ | ⟨s4, g, e4⟩
  rotate_left
  · rw [e4, xtb_n, s4]; exact Or.inl ⟨g, rfl, on_none _⟩
  rw [e4, xtb_s, s4, Option.bind_some]
  rcases ndS H3 G4 (c := 4) (k := 2) (by omega) (kd_num H3.lt G4.1) v4 with ⟨k5, p5, G5, s5, v5, e5⟩ | ⟨s5, g, e5⟩
  rotate_left
  · rw [e5, xtb_n, s5]; exact Or.inl ⟨g, rfl, on_none _⟩
  obtain ⟨n5, nn5⟩ := R3.es.num G4 k5 v4
  rw [e5, xtb_s, s5, Option.bind_some, n5]
  rcases ndS H3 G5 (c := 41) (k := 41) (by omega) (H3.ch (c := 41) G5 (by omega) (by omega)) v5 with ⟨k6, p6, G6, s6, v6, e6⟩ | ⟨s6, g, e6⟩
  rotate_left
  · rw [e6, xtb_n, s6]; exact Or.inl ⟨g, rfl, on_none _⟩
  rw [e6, xtb_s, s6, Option.bind_some, dDn H3, xk_s, show (1 : Int64) = nJ 1 from rfl, show (64 : Int64) = nJ 64 from rfl, in_S _ nn5 (by omega) (by omega), xhb_s]
  have hc3 := R3.cnt
  have hj3 := R3.jj
  have hm3 := R3.mm
  have E6 := R3.es.dep (d2 := d) (by omega)
  have X6 := R3.fr.dep H.dp
  have hjb := gk_le R3.es R3.gk
  have h3m : m3 < 33000 := by omega
  have xm3 := R3.xm
  have fin : ∀ (h4 h5 : mv_H) (b5 : Bool) (w : Nat), XFr P m3 (mv_si h3 P 8 (nI d)) h4 → ESq P N T lk b5 d h5 (m3 + 1) → XFr P m3 h4 h5 → mv_a h5 (P + 23) m3 = nI w → w ≤ 40000 → (b5 = true → 0 < w) → XRq P N T lk b5 d j (j3 + 3) m (m3 + 1) h h5 m3 w := fun h4 h5 b5 w X4 E5 X5 ew hw hp =>
    ⟨E5, (X6.trans X4 hm3).trans X5 hm3, by omega, G6, by omega, by omega, by omega, ew, hw, hp⟩
  have e148 : ∀ (h4 : mv_H) (y : Int32), f_Book_wider_148 P (f_BookR P nn) 0 0 (nI x3) y (rB P N h4 (j3 + 3) v6) = xhb (f_Book_node P (rB P N h4 (j3 + 3) v6) y (nI x3) 0 0 (nI 0)) fun u g => some (some u, g) := fun h4 y => rfl
  -- out of range
  have bad : ¬ (1 ≤ (txT T N).nu (j3 + 1) ∧ (txT T N).nu (j3 + 1) ≤ 64 ∧ w3 ≤ (txT T N).nu (j3 + 1)) → XOq P N T lk d j m h (on b3 (if 1 ≤ (txT T N).nu (j3 + 1) ∧ (txT T N).nu (j3 + 1) ≤ 64 ∧ w3 ≤ (txT T N).nu (j3 + 1) then some (j3 + 3, (txT T N).nu (j3 + 1)) else none)) (f_Book_wider_99 P (f_BookR P nn) α (nI x3) (nJ ((txT T N).nu (j3 + 1))) (mv_i (rB P N h3 (j3 + 1) v4) P 5) (rB P N (mv_si h3 P 8 (nI d)) (j3 + 3) v6)) := fun q => by
    obtain ⟨h4, e4, E4, X4⟩ := fN E6 (k := 3) (by decide) (mv_i (rB P N h3 (j3 + 1) v4) P 5) (j3 + 3) v6
    unfold f_Book_wider_99 f_Book_wider_100
    rw [if_pos rfl, e4, xhv_s, if_neg q, on_none]
    unfold f_Book_wider_114 f_Book_wider_126
    rw [if_pos rfl, if_pos rfl, e148, e148]
    by_cases a0 : α = 0
    · rw [if_pos a0]
      obtain ⟨h5, e5, E5, X5, w5⟩ := nN E4 h3m 12 (nI x3) 0 0 (w := 0) (by omega) (j3 + 3) v6
      rw [e5, xhb_s]
      exact Or.inr ⟨false, j3 + 3, 0, m3, h5, v6, m3 + 1, rfl, rfl, fin h4 h5 false 0 X4 E5 X5 w5 (by omega) (fun z => by cases z)⟩
    · rw [if_neg a0]
      obtain ⟨h5, e5, E5, X5, w5⟩ := nN E4 h3m 11 (nI x3) 0 0 (w := 0) (by omega) (j3 + 3) v6
      rw [e5, xhb_s]
      exact Or.inr ⟨false, j3 + 3, 0, m3, h5, v6, m3 + 1, rfl, rfl, fin h4 h5 false 0 X4 E5 X5 w5 (by omega) (fun z => by cases z)⟩
  have ex : mv_a (rB P N (mv_si h3 P 8 (nI d)) (j3 + 3) v6) (P + 23) (nI x3).toNatClampNeg = nI w3 := by rw [cln (by omega)]; exact R3.wx
  have good : (1 ≤ (txT T N).nu (j3 + 1) ∧ (txT T N).nu (j3 + 1) ≤ 64) → (w3 = 0 ∨ w3 ≤ (txT T N).nu (j3 + 1)) → XOq P N T lk d j m h (on b3 (if 1 ≤ (txT T N).nu (j3 + 1) ∧ (txT T N).nu (j3 + 1) ≤ 64 ∧ w3 ≤ (txT T N).nu (j3 + 1) then some (j3 + 3, (txT T N).nu (j3 + 1)) else none)) (f_Book_wider_95 P (f_BookR P nn) α (nI x3) (nJ ((txT T N).nu (j3 + 1))) (mv_i (rB P N h3 (j3 + 1) v4) P 5) (rB P N (mv_si h3 P 8 (nI d)) (j3 + 3) v6)) := fun c1 c2 => by
    have g126 : ∀ y, XOq P N T lk d j m h (on b3 (if 1 ≤ (txT T N).nu (j3 + 1) ∧ (txT T N).nu (j3 + 1) ≤ 64 ∧ w3 ≤ (txT T N).nu (j3 + 1) then some (j3 + 3, (txT T N).nu (j3 + 1)) else none)) (f_Book_wider_126 P (f_BookR P nn) (nI x3) (nJ ((txT T N).nu (j3 + 1))) 1 y (rB P N (mv_si h3 P 8 (nI d)) (j3 + 3) v6)) := fun y => by
      unfold f_Book_wider_126
      rw [if_neg n10, xvi_n (by omega) (by decide), cond_true, ex]
      by_cases w0 : w3 = 0
      · have hb : b3 = false := Bool.eq_false_iff.mpr (fun z => by have := R3.ps z; omega)
        subst hb
        rw [if_pos ((nle_0 R3.w2).mpr w0), e148]
        obtain ⟨h5, e5, E5, X5, w5⟩ := nN E6 h3m y (nI x3) 0 0 (w := 0) (by omega) (j3 + 3) v6
        rw [e5, xhb_s]
        exact Or.inr ⟨false, j3 + 3, 0, m3, h5, v6, m3 + 1, rfl, rfl, fin _ h5 false 0 (XFr.refl P m3 _) E5 X5 w5 (by omega) (fun z => by cases z)⟩
      · rw [if_neg (fun z => w0 ((nle_0 R3.w2).mp z)), nJi (by omega)]
        unfold f_Book_wider_149
        obtain ⟨h5, e5, E5, X5, w5⟩ := nN E6 h3m y (nI x3) 0 0 (w := (txT T N).nu (j3 + 1)) (by omega) (j3 + 3) v6
        rw [e5, xhb_s, if_pos ⟨c1.1, c1.2, by omega⟩]
        exact Or.inr ⟨b3, j3 + 3, _, m3, h5, v6, m3 + 1, rfl, rfl, fin _ h5 b3 _ (XFr.refl P m3 _) E5 X5 w5 (by omega) (fun _ => by omega)⟩
    unfold f_Book_wider_95 f_Book_wider_100 f_Book_wider_114
    rw [if_neg n10]
    by_cases a0 : α = 0
    · rw [if_pos a0]; exact g126 12
    · rw [if_neg a0]; exact g126 11
  by_cases c1 : 1 ≤ (txT T N).nu (j3 + 1) ∧ (txT T N).nu (j3 + 1) ≤ 64
  · rw [decide_eq_true c1, if_neg (show ¬ b01 true = 0 by decide), xvi_n (by omega) (by decide), cond_true, cond_true, ex]
    by_cases w0 : w3 = 0
    · rw [if_pos (show nI w3 = 0 by rw [w0]; rfl)]; exact good c1 (Or.inl w0)
    · have hw2 := R3.w2
      rw [if_neg (show ¬ nI w3 = 0 from fun z => w0 ((nIinj (b := 0) (by omega) (by omega)).mp z)), xI_l, xi2l_s (by omega)]
      have hl := lc_lt nn5 (w := w3) (by omega)
      by_cases c2 : (txT T N).nu (j3 + 1) < w3
      · rw [if_pos (hl.mpr (Or.inl c2))]; exact bad (fun z => by omega)
      · rw [if_neg (show ¬ lg_cmp (nJ ((txT T N).nu (j3 + 1))) (nJ w3) < 0 from fun z => by have := hl.mp z; omega)]; exact good c1 (Or.inr (by omega))
  · rw [decide_eq_false c1, if_pos (show b01 false = 0 from rfl)]
    exact bad (fun z => c1 ⟨z.1, z.2.1⟩)
end WC
theorem b01_and (x y : Bool) : b01 x &&& b01 y = b01 (x && y) := by cases x <;> cases y <;> decide
section TOG
variable {P N : Nat} {T : Nat → Nat} {lk : List Nat → Nat × Nat} {d : Nat}
theorem ESq.fo {b : Bool} {m : Nat} {h : mv_H} (E : ESq P N T lk b d h m) (k : Nat) (x : Int32) : ESq P N T lk b d (mv_sa h (P + 22) k x) m ∧ XFr P m h (mv_sa h (P + 22) k x) := by
  have X : XFr P m h (mv_sa h (P + 22) k x) := ⟨fun _ _ _ => rfl, rfl, rfl, fun o q => funext fun k' => mv_u_ne (mv_a h) _ (by omega), fun k' _ => mv_u_ne (mv_a h) _ (by omega), fun _ _ => rfl⟩
  exact ⟨E.fr X E.fa (fun w => w) E.nd (fun i h1 h2 => by omega), X⟩
variable {nn : Nat} (IH : IHq P N T lk nn)
theorem tl_S (IH : IHq P N T lk nn) {j0 m0 : Nat} {h0 : mv_H} (H0 : HB P N T d h0) (hm0 : m0 ≤ j0) (hd : d ≤ 60) (F2 : Fq nn 0 0 (d + 1)) (pl : Int32) (x3 : Nat) : ∀ (k kk j w m : Nat) (h : mv_H) (b : Bool) (v : Int64) (s x4 : Nat) (kn : Bool), ESq P N T lk b (d + 1) h m → XFr P m0 (mv_si h0 P 8 (nI (d + 1))) h → j0 + 1 < j → gkT T N j → m + (j0 + 1) ≤ m0 + j → m0 ≤ m → x3 < m → x4 < m → s ≤ 41000 → (b = true → kn = true ∧ 0 < s ∧ (s = w ∨ (1000 ≤ s ∧ 1000 ≤ w))) → 32768 - j < k → 32768 - j < kk →
    XOq P N T lk d j0 m0 h0 (on b (sTL (txT T N) (sR (txT T N) lk nn) d k j w)) (f_Book_together_52 P (f_BookR P nn) kk pl (nI s) (nI x3) (nI x4) (b01 kn) (rB P N h j v)) := by
  intro k
  induction k with
  | zero => intro kk j w m h b v s x4 kn _ _ _ _ _ _ _ _ _ _ h1; omega
  | succ k ih =>
    intro kk j w m h b v s x4 kn E X hj G hc hmm hx3 hx4 hs hb h1 h2
    obtain ⟨kk, rfl⟩ : ∃ q, kk = q + 1 := ⟨kk - 1, by omega⟩
    show XOq P N T lk d j0 m0 h0 _ (fF_Book_together_52 P (f_BookR P nn) (f_Book_together_52 P (f_BookR P nn) kk) pl (nI s) (nI x3) (nI x4) (b01 kn) (rB P N h j v))
    have H := E.hb
    have eX : (txT T N).kd j = kdT T N j := rfl
    have hch : (tok T N j).1 = (44 : Int32) ↔ kdT T N j = 44 := H.ch (c := 44) G (by omega) (by omega)
    unfold fF_Book_together_52 sTL
    rw [H.k4, eX]
    have hjb0 := gk_le E G
    by_cases c : kdT T N j = 44
    · rw [if_pos (hch.mpr c), if_pos c]
      rcases pS H G (by omega) (by omega) v with ⟨p2, G2, v2, e2⟩ | ⟨p2, g, e2⟩
      rotate_left
      · rw [e2, xtb_n, gd_f p2]; exact Or.inl ⟨g, rfl, on_none _⟩
      rw [e2, xtb_s, gd_t p2]
      rcases IH 0 0 0 (d + 1) (j + 1) _ b m v2 F2 E G2 (by omega) (pre0 T N 0 0 _ (Or.inl rfl)) with ⟨g, e3, s3⟩ | ⟨b3, j3, w3, x5, h3, v3, m3, e3, s3, R3⟩
      · rw [e3, xtb_n, on_bind, s3]; exact Or.inl ⟨g, rfl, rfl⟩
      rw [e3, xtb_s, on_bind, s3]
      simp only [on_s]
      have hc3 := R3.cnt
      have hj3 := R3.jj
      have hm3 := R3.mm
      have xm := R3.xm
      have hw3 := R3.w2
      have hjb := gk_le R3.es R3.gk
      have V := R3.es.fo x4 (nI x5)
      have ew : mv_a (rB P N (mv_sa h3 (P + 22) x4 (nI x5)) j3 v3) (P + 23) x5 = nI w3 := (V.2.w x5 xm).trans R3.wx
      rw [xvi_n (by omega) (by decide), cond_true, cln (by omega), rB_sa (by have := H.p; omega), xk_s, xvi_n (by omega) (by decide), cond_true, cln (by omega), ew]
      have XX : XFr P m0 (mv_si h0 P 8 (nI (d + 1))) (mv_sa h3 (P + 22) x4 (nI x5)) := (X.trans R3.fr hmm).trans V.2 (by omega)
      have go : ∀ c : Bool, (c = true ↔ 0 < w3) → XOq P N T lk d j0 m0 h0 (on b3 (sTL (txT T N) (sR (txT T N) lk nn) d k j3 (w + w3))) (f_Book_together_101 P (f_BookR P nn) (f_Book_together_52 P (f_BookR P nn) kk) pl (nI s) (nI x3) (nI x5) (nI x5) (b01 c) (b01 kn) (rB P N (mv_sa h3 (P + 22) x4 (nI x5)) j3 v3)) := fun c hcw => by
        unfold f_Book_together_101
        rw [b01_and, xvi_n (by omega) (by decide), cond_true, cln (by omega), ew]
        by_cases s1 : 1000 ≤ s
        · rw [if_pos (show (1000 : Int32) ≤ nI s from (nIle (a := 1000) (by omega) (by omega)).mpr s1)]
          refine ih kk j3 (w + w3) m3 _ b3 v3 s x5 (kn && c) V.1 XX (by omega) R3.gk (by omega) (by omega) (by omega) xm hs (fun q => ?_) (by omega) (by omega)
          have hb' := hb (on_mono s3 q)
          rw [hb'.1, hcw.mpr (R3.ps q)]
          exact ⟨rfl, hb'.2.1, by omega⟩
        · rw [if_neg (show ¬ (1000 : Int32) ≤ nI s from fun z => s1 ((nIle (a := 1000) (by omega) (by omega)).mp z)), nIadd (by omega)]
          refine ih kk j3 (w + w3) m3 _ b3 v3 (s + w3) x5 (kn && c) V.1 XX (by omega) R3.gk (by omega) (by omega) (by omega) xm (by omega) (fun q => ?_) (by omega) (by omega)
          have hb' := hb (on_mono s3 q)
          rw [hb'.1, hcw.mpr (R3.ps q)]
          exact ⟨rfl, by omega, by omega⟩
      by_cases w0 : w3 = 0
      · rw [if_pos ((nle_0 hw3).mpr w0)]
        exact go false ⟨fun z => (by cases z), fun z => by omega⟩
      · rw [if_neg (fun z => w0 ((nle_0 hw3).mp z))]
        exact go true ⟨fun _ => by omega, fun _ => rfl⟩
    · rw [if_neg (fun z => c (hch.mp z)), if_neg c]
      rcases ndS H G (c := 125) (k := 125) (by omega) (H.ch (c := 125) G (by omega) (by omega)) v with ⟨k6, p6, G6, s6, v6, e6⟩ | ⟨s6, g, e6⟩
      rotate_left
      · rw [e6, xtb_n, s6]; exact Or.inl ⟨g, rfl, on_none _⟩
      rw [e6, xtb_s, s6, Option.bind_some, dDn H, xk_s]
      have E6 := E.dep (d2 := d) (by omega)
      have X6 := X.dep H0.dp
      have hm : m < 33000 := by omega
      have fin : ∀ (h4 h5 : mv_H) (b5 : Bool) (w' : Nat), XFr P m (mv_si h P 8 (nI d)) h4 → ESq P N T lk b5 d h5 (m + 1) → XFr P m h4 h5 → mv_a h5 (P + 23) m = nI w' → w' ≤ 40000 → (b5 = true → 0 < w') → XRq P N T lk b5 d j0 (j + 1) m0 (m + 1) h0 h5 m w' := fun h4 h5 b5 w' X4 E5 X5 ew hw hp =>
        ⟨E5, (X6.trans X4 hmm).trans X5 hmm, by omega, G6, by omega, by omega, by omega, ew, hw, hp⟩
      have e178 : ∀ (h4 : mv_H), f_Book_together_178 P (f_BookR P nn) 0 0 (nI x3) 10 (rB P N h4 (j + 1) v6) = xhb (f_Book_node P (rB P N h4 (j + 1) v6) 10 (nI x3) 0 0 (nI 0)) fun u g => some (some u, g) := fun h4 => rfl
      have zero : ∀ (h4 : mv_H), ESq P N T lk false d h4 m → XFr P m (mv_si h P 8 (nI d)) h4 → (b = false ∨ ¬ w ≤ 64) → XOq P N T lk d j0 m0 h0 (on b (if w ≤ 64 then some (j + 1, w) else none)) (f_Book_together_178 P (f_BookR P nn) 0 0 (nI x3) 10 (rB P N h4 (j + 1) v6)) := fun h4 E4 X4 q => by
        obtain ⟨h5, e5, E5, X5, w5⟩ := nN E4 hm 10 (nI x3) 0 0 (w := 0) (by omega) (j + 1) v6
        rw [e178, e5, xhb_s]
        refine Or.inr ⟨false, j + 1, 0, m, h5, v6, m + 1, rfl, ?_, fin h4 h5 false 0 X4 E5 X5 w5 (by omega) (fun z => by cases z)⟩
        rcases q with q | q
        · rw [q]; rfl
        · rw [if_neg q, on_none]; rfl
      cases kn with
      | false =>
        have hbf : b = false := Bool.eq_false_iff.mpr (fun z => by have := (hb z).1; cases this)
        rw [if_pos (show b01 false = 0 from rfl)]
        unfold f_Book_together_157
        rw [if_pos (show b01 false = 0 from rfl)]
        exact zero _ (by rw [← hbf]; exact E6) (XFr.refl P m _) (Or.inl hbf)
      | true =>
        rw [if_neg (show ¬ b01 true = 0 by decide)]
        by_cases s1 : s ≤ 64
        · rw [if_pos (show nI s ≤ 64 from (nIle (b := 64) (by omega) (by omega)).mpr s1)]
          unfold f_Book_together_157 f_Book_together_179
          rw [if_neg (show ¬ b01 true = 0 by decide), if_neg (show ¬ (64 : Int32) < nI s from fun z => absurd ((nIle (b := 64) (by omega) (by omega)).mpr s1) (Int32.not_le.mpr z))]
          obtain ⟨h5, e5, E5, X5, w5⟩ := nN E6 hm 10 (nI x3) 0 0 (w := s) (by omega) (j + 1) v6
          rw [e5, xhb_s]
          refine Or.inr ⟨b, j + 1, s, m, h5, v6, m + 1, rfl, ?_, fin _ h5 b s (XFr.refl P m _) E5 X5 w5 (by omega) (fun q => (hb q).2.1)⟩
          cases b with
          | false => rfl
          | true =>
            have := (hb rfl).2.2
            rw [if_pos (by omega)]
            have e : w = s := by omega
            rw [e]
        · rw [if_neg (show ¬ nI s ≤ 64 from fun z => s1 ((nIle (b := 64) (by omega) (by omega)).mp z))]
          obtain ⟨h4, e4, E4, X4⟩ := fN E6 (k := 4) (by decide) pl (j + 1) v6
          rw [e4, xhv_s]
          unfold f_Book_together_157
          rw [if_neg (show ¬ b01 true = 0 by decide), if_pos (show (64 : Int32) < nI s from Int32.not_le.mp (fun z => s1 ((nIle (b := 64) (by omega) (by omega)).mp z)))]
          refine zero h4 E4 X4 ?_
          cases b with
          | false => exact Or.inl rfl
          | true => have := (hb rfl).2.2; exact Or.inr (by omega)
variable {b : Bool} {m j : Nat} {h : mv_H} (E : ESq P N T lk b d h m) (G : gkT T N j) (hmj : m ≤ j)
theorem to_S (IH : IHq P N T lk nn) (E : ESq P N T lk b d h m) (G : gkT T N j) (hmj : m ≤ j) (hk : kdT T N j = 123) (F : Fq (nn + 1) 8 0 d) (v : Int64) : XOq P N T lk d j m h (on b (sTo (txT T N) (sR (txT T N) lk nn) d j)) (f_Book_together P (f_BookR P nn) (rB P N h j v)) := by
  have H := E.hb
  unfold Fq rkq at F
  rw [if_neg (by omega), if_neg (by omega), if_neg (by omega), if_neg (by omega), if_neg (by omega)] at F
  unfold f_Book_together sTo
  rcases pS H G (by omega) (by omega) v with ⟨p1, G1, v1, e1⟩ | ⟨p1, g, e1⟩
  rotate_left
  · rw [e1, xtb_n, gd_f p1]; exact Or.inl ⟨g, rfl, on_none _⟩
  have hd := ps_d p1
  rw [e1, xtb_s, gd_t p1, dUp H hd, xk_s]
  have E2 := E.dep (d2 := d + 1) (by omega)
  have F2 : Fq nn 0 0 (d + 1) := by unfold Fq rkq; rw [if_pos rfl]; omega
  rcases IH 0 0 0 (d + 1) (j + 1) _ b m v1 F2 E2 G1 (by omega) (pre0 T N 0 0 _ (Or.inl rfl)) with ⟨g, e3, s3⟩ | ⟨b3, j3, w3, x3, h3, v3, m3, e3, s3, R3⟩
  · rw [e3, xtb_n, on_bind, s3]; exact Or.inl ⟨g, rfl, rfl⟩
  rw [e3, xtb_s, on_bind, s3]
  simp only [on_s]
  have hc3 := R3.cnt
  have hj3 := R3.jj
  have hm3 := R3.mm
  have xm := R3.xm
  have hw3 := R3.w2
  have hjb := gk_le R3.es R3.gk
  have ew : mv_a (rB P N h3 j3 v3) (P + 23) (nI x3).toNatClampNeg = nI w3 := by rw [cln (by omega)]; exact R3.wx
  rw [xvi_n (by omega) (by decide), cond_true, ew]
  unfold f_Book_together_43
  rw [xvi_n (by omega) (by decide), cond_true, ew]
  by_cases w0 : w3 = 0
  · rw [if_pos ((nle_0 hw3).mpr w0)]
    exact tl_S IH H hmj hd F2 _ x3 200000 200000 j3 w3 m3 h3 b3 v3 w3 x3 false R3.es R3.fr hj3 R3.gk hc3 hm3 xm xm (by omega) (fun q => by have := R3.ps q; omega) (by omega) (by omega)
  · rw [if_neg (fun z => w0 ((nle_0 hw3).mp z))]
    exact tl_S IH H hmj hd F2 _ x3 200000 200000 j3 w3 m3 h3 b3 v3 w3 x3 true R3.es R3.fr hj3 R3.gk hc3 hm3 xm xm (by omega) (fun q => ⟨rfl, by omega, Or.inl rfl⟩) (by omega) (by omega)
end TOG
section PRI
variable {P N : Nat} {T : Nat → Nat} {lk : List Nat → Nat × Nat} {d : Nat} {b : Bool} {m : Nat} {h : mv_H}
/-- is(word) at token j -/
theorem is_S (H : HB P N T d h) {j : Nat} (G : gkT T N j) {a0 i : Nat} (hw : wrdN a0 = WDN.getD i [] ∧ (st_g a0).2.2.2.length ≤ 1000) (hi : i < 17) (v : Int64) : f_Book_is P (rB P N h j v) a0 = some (b01 (decide (kdT T N j = 200 + i)), rB P N h j v) := by
  unfold rB
  rw [is_r H.n H.n2 hw.2, H.t]
  have := kd_wd H.lt G.1 hi hw.1
  by_cases c : kdT T N j = 200 + i
  · rw [decide_eq_true c, decide_eq_true (this.mpr c)]
  · rw [decide_eq_false c, decide_eq_false (fun z => c (this.mp z))]
theorem b01_dn {c : Prop} [Decidable c] (h : ¬ c) : b01 (decide c) = 0 := by rw [decide_eq_false h]; rfl
theorem b01_dp {c : Prop} [Decidable c] (h : c) : ¬ b01 (decide c) = 0 := by rw [decide_eq_true h]; decide
variable {nn : Nat} (IH : IHq P N T lk nn) (E : ESq P N T lk b d h m) {j : Nat} (G : gkT T N j) (hmj : m ≤ j)
theorem pr_S (IH : IHq P N T lk nn) (E : ESq P N T lk b d h m) (G : gkT T N j) (hmj : m ≤ j) (F : Fq (nn + 1) 4 0 d) (v : Int64) : XOq P N T lk d j m h (on b (sPr (txT T N) (sR (txT T N) lk nn) d j)) (f_Book_primary P (f_BookR P nn) (rB P N h j v)) := by
  have H := E.hb
  unfold Fq rkq at F
  rw [if_neg (by omega), if_neg (by omega), if_neg (by omega), if_neg (by omega), if_pos rfl] at F
  have eX : (txT T N).kd j = kdT T N j := rfl
  have F1 : ∀ mo, 5 ≤ mo → Fq nn mo 0 d := fun mo hmo => by unfold Fq rkq; rw [if_neg (by omega), if_neg (by omega), if_neg (by omega), if_neg (by omega), if_neg (by omega)]; omega
  have hjb := gk_le E G
  have call : ∀ (mo : Nat) (α : Int32), 5 ≤ mo → preq T N mo 0 α j → XOq P N T lk d j m h (on b (sR (txT T N) lk nn mo 0 d j)) (xtb (f_BookR P nn mo α (rB P N h j v)) fun u g => some (some u, g)) := fun mo α hmo hp => by
    rcases IH mo 0 α d j h b m v (F1 mo hmo) E G hmj hp with ⟨g, e1, s1⟩ | ⟨b1, j1, w1, x1, h1, v1, m1, e1, s1, R1⟩
    · rw [e1, xtb_n, s1]; exact Or.inl ⟨g, rfl, rfl⟩
    · rw [e1, xtb_s, s1]; exact Or.inr ⟨b1, j1, w1, x1, h1, v1, m1, rfl, rfl, R1⟩
  unfold f_Book_primary sPr
  rw [H.k4, eX]
  have c4 := kd_num H.lt G.1
  have c40 : (tok T N j).1 = (40 : Int32) ↔ kdT T N j = 40 := H.ch (c := 40) G (by omega) (by omega)
  have c123 : (tok T N j).1 = (123 : Int32) ↔ kdT T N j = 123 := H.ch (c := 123) G (by omega) (by omega)
  by_cases k4 : kdT T N j = 4
  · rw [if_pos (c4.mpr k4), if_pos k4]
    have := lit_S E (by omega) G k4 v
    rcases this with ⟨g, e1, s1⟩ | ⟨b1, j1, w1, x1, h1, v1, m1, e1, s1, R1⟩
    · rw [e1, xtb_n, s1]; exact Or.inl ⟨g, rfl, rfl⟩
    · rw [e1, xtb_s, s1]; exact Or.inr ⟨b1, j1, w1, x1, h1, v1, m1, rfl, rfl, R1⟩
  rw [if_neg (fun z => k4 (c4.mp z)), if_neg k4]
  by_cases k40 : kdT T N j = 40
  · rw [if_pos (c40.mpr k40), if_pos k40]
    rcases pS H G (by omega) (by omega) v with ⟨p1, G1, v1, e1⟩ | ⟨p1, g, e1⟩
    rotate_left
    · rw [e1, xtb_n, gd_f p1]; exact Or.inl ⟨g, rfl, on_none _⟩
    have hd := ps_d p1
    rw [e1, xtb_s, gd_t p1, dUp H hd, xk_s]
    have E2 := E.dep (d2 := d + 1) (by omega)
    have F2 : Fq nn 0 0 (d + 1) := by unfold Fq rkq; rw [if_pos rfl]; omega
    rcases IH 0 0 0 (d + 1) (j + 1) _ b m v1 F2 E2 G1 (by omega) (pre0 T N 0 0 _ (Or.inl rfl)) with ⟨g, e3, s3⟩ | ⟨b3, j3, w3, x3, h3, v3, m3, e3, s3, R3⟩
    · rw [e3, xtb_n, on_bind, s3]; exact Or.inl ⟨g, rfl, rfl⟩
    rw [e3, xtb_s, on_bind, s3]
    simp only [on_s]
    rcases ndS R3.es.hb R3.gk (c := 41) (k := 41) (by omega) (R3.es.hb.ch (c := 41) R3.gk (by omega) (by omega)) v3 with ⟨k6, p6, G6, s6, v6, e6⟩ | ⟨s6, g, e6⟩
    rotate_left
    · rw [e6, xtb_n, s6]; exact Or.inl ⟨g, rfl, on_none _⟩
    rw [e6, xtb_s, s6, Option.bind_some, dDn R3.es.hb, xk_s]
    have hc3 := R3.cnt
    have hj3 := R3.jj
    exact Or.inr ⟨b3, j3 + 1, w3, x3, _, v6, m3, rfl, rfl, ⟨R3.es.dep (by omega), R3.fr.dep H.dp, by omega, G6, by omega, R3.mm, R3.xm, R3.wx, R3.w2, R3.ps⟩⟩
  rw [if_neg (fun z => k40 (c40.mp z)), if_neg k40]
  by_cases k123 : kdT T N j = 123
  · rw [if_pos (c123.mpr k123), if_pos k123]
    exact call 8 0 (by omega) ⟨by omega, fun z => by omega, fun z => by omega, fun z => by omega, fun z => by omega, fun _ => k123⟩
  rw [if_neg (fun z => k123 (c123.mp z)), if_neg k123]
  have w148 : f_Book_is P (rB P N h j v) 148 = some (b01 (decide (kdT T N j = 211)), rB P N h j v) := is_S H G (i := 11) (wds (148, 11) (by decide)) (by decide) v
  have w149 : f_Book_is P (rB P N h j v) 149 = some (b01 (decide (kdT T N j = 212)), rB P N h j v) := is_S H G (i := 12) (wds (149, 12) (by decide)) (by decide) v
  have w150 : f_Book_is P (rB P N h j v) 150 = some (b01 (decide (kdT T N j = 213)), rB P N h j v) := is_S H G (i := 13) (wds (150, 13) (by decide)) (by decide) v
  have w151 : f_Book_is P (rB P N h j v) 151 = some (b01 (decide (kdT T N j = 214)), rB P N h j v) := is_S H G (i := 14) (wds (151, 14) (by decide)) (by decide) v
  have w152 : f_Book_is P (rB P N h j v) 152 = some (b01 (decide (kdT T N j = 215)), rB P N h j v) := is_S H G (i := 15) (wds (152, 15) (by decide)) (by decide) v
  have w153 : f_Book_is P (rB P N h j v) 153 = some (b01 (decide (kdT T N j = 216)), rB P N h j v) := is_S H G (i := 16) (wds (153, 16) (by decide)) (by decide) v
  rw [w148, xhb_s]
  by_cases k211 : kdT T N j = 211
  · rw [if_neg (b01_dp k211), if_pos (Or.inl k211)]
    exact call 6 1 (by omega) ⟨by omega, fun z => by omega, fun z => by omega, fun z => Or.inl k211, fun z => by omega, fun z => by omega⟩
  rw [if_pos (b01_dn k211), w149, xhb_s]
  by_cases k212 : kdT T N j = 212
  · rw [if_neg (b01_dp k212), if_pos (Or.inr k212)]
    exact call 6 0 (by omega) ⟨by omega, fun z => by omega, fun z => by omega, fun z => Or.inr k212, fun z => by omega, fun z => by omega⟩
  rw [if_pos (b01_dn k212), w150, xhb_s, if_neg (show ¬ (kdT T N j = 211 ∨ kdT T N j = 212) by omega)]
  have c7 : ∀ ko k, (ko, k) ∈ OPK → 213 ≤ k → k ≤ 216 → kdT T N j = k → XOq P N T lk d j m h (on b (if 213 ≤ kdT T N j ∧ kdT T N j ≤ 216 then sR (txT T N) lk nn 7 0 d j else if kdT T N j = 3 then sR (txT T N) lk nn 5 0 d j else none)) (xtb (f_BookR P nn 7 (nI ko) (rB P N h j v)) fun u g => some (some u, g)) := fun ko k h1 h2 h3 e => by
    rw [if_pos (by omega)]
    exact call 7 (nI ko) (by omega) ⟨by omega, fun z => by omega, fun z => by omega, fun z => by omega, fun _ => ⟨ko, rfl, by rw [e]; exact h1, by omega⟩, fun z => by omega⟩
  by_cases k213 : kdT T N j = 213
  · rw [if_neg (b01_dp k213)]; exact c7 1000 213 (by decide) (by omega) (by omega) k213
  rw [if_pos (b01_dn k213), w151, xhb_s]
  by_cases k214 : kdT T N j = 214
  · rw [if_neg (b01_dp k214)]; exact c7 1001 214 (by decide) (by omega) (by omega) k214
  rw [if_pos (b01_dn k214), w152, xhb_s]
  by_cases k215 : kdT T N j = 215
  · rw [if_neg (b01_dp k215)]; exact c7 1002 215 (by decide) (by omega) (by omega) k215
  rw [if_pos (b01_dn k215), w153, xhb_s]
  by_cases k216 : kdT T N j = 216
  · rw [if_neg (b01_dp k216)]; exact c7 1003 216 (by decide) (by omega) (by omega) k216
  rw [if_pos (b01_dn k216), H.k4, if_neg (show ¬ (213 ≤ kdT T N j ∧ kdT T N j ≤ 216) by omega)]
  have c3 := kd_nm H.lt G.1
  have er : f_Book_reserved P (rB P N h j v) = some (b01 (decide (isR T N j)), rB P N h j v) := by
    unfold rB
    rw [reserved_r H.n H.n2, H.t]
  by_cases k1 : (tok T N j).1 = 1
  · rw [if_pos k1, er, xhb_s]
    by_cases r1 : isR T N j
    · rw [if_neg (b01_dp r1), if_neg (fun z => (c3.mpr z).2 r1), on_none]
      exact Or.inl ⟨_, rfl, rfl⟩
    · have k3 := c3.mp ⟨k1, r1⟩
      rw [if_pos (b01_dn r1), if_pos k3]
      exact call 5 0 (by omega) ⟨by omega, fun z => by omega, fun _ => k3, fun z => by omega, fun z => by omega, fun z => by omega⟩
  · rw [if_neg k1, if_neg (fun z => k1 (c3.mpr z).1), on_none]
    exact Or.inl ⟨_, rfl, rfl⟩
end PRI
/-- an EXPR of the reference is S's -/
theorem xRq (P N : Nat) (T : Nat → Nat) (lk : List Nat → Nat × Nat) : ∀ nn, IHq P N T lk nn := by
  intro nn
  induction nn with
  | zero => intro mo a α d j h b m v F; unfold Fq at F; omega
  | succ nn IH =>
    intro mo a α d j h b m v F E G hmj hp
    have hmo := hp.1
    obtain ⟨-, p1, p5, p6, p7, p8⟩ := hp
    have ze : ∀ {mo a}, ¬ mo = 1 → Fq (nn + 1) mo a d → Fq (nn + 1) mo 0 d := fun h1 F => by
      unfold Fq rkq at *
      rw [if_neg h1] at *
      exact F
    match mo, hmo with
    | 0, _ => exact ex_S IH E G hmj (ze (by decide) F) v
    | 1, _ =>
      obtain ⟨ea, ha⟩ := p1 rfl
      rw [ea]
      exact bi_S IH E G hmj ha F v
    | 2, _ => exact un_S IH E G hmj (ze (by decide) F) v
    | 3, _ => exact po_S IH E G hmj (ze (by decide) F) v
    | 4, _ => exact pr_S IH E G hmj (ze (by decide) F) v
    | 5, _ => exact nm_S E IH G hmj (p5 rfl) (ze (by decide) F) v
    | 6, _ => exact wi_S E IH G hmj (p6 rfl) (ze (by decide) F) α v
    | 7, _ =>
      obtain ⟨ko, ea, h1, h2⟩ := p7 rfl
      rw [ea]
      exact ca_S E IH G hmj h1 h2 (ze (by decide) F) v
    | 8, _ => exact to_S IH E G hmj (p8 rfl) (ze (by decide) F) v
