/-! rows s77 .. s84 -/
/-! the class's reader: its rows, its small steps -/
/-- the class's tokens are those of X, up to J -/
def TB (X : TX) (J : Nat) (h : mv_H) : Prop := (J ≤ 10240) ∧ (∀ i, i ≤ J → mv_a h 4 (i + 1) = nI (X.kd i) ∧ X.kd i < 300) ∧ (∀ i, i ≤ J → ∃ q, mv_a h 5 (i + 1) = nI q ∧ q < 2147483648) ∧ (∀ i, i ≤ J → X.kd i = 4 → mv_b h 6 (i + 1) = nJ (X.nu i) ∧ X.nu i < 18446744073709551616)
theorem TB.jb {X : TX} {J : Nat} {h : mv_H} (h99 : TB X J h) : J ≤ 10240 := h99.1
theorem TB.k {X : TX} {J : Nat} {h : mv_H} (h99 : TB X J h) : ∀ i, i ≤ J → mv_a h 4 (i + 1) = nI (X.kd i) ∧ X.kd i < 300 := h99.2.1
theorem TB.p {X : TX} {J : Nat} {h : mv_H} (h99 : TB X J h) : ∀ i, i ≤ J → ∃ q, mv_a h 5 (i + 1) = nI q ∧ q < 2147483648 := h99.2.2.1
theorem TB.n {X : TX} {J : Nat} {h : mv_H} (h99 : TB X J h) : ∀ i, i ≤ J → X.kd i = 4 → mv_b h 6 (i + 1) = nJ (X.nu i) ∧ X.nu i < 18446744073709551616 := h99.2.2.2
theorem TB.fr {X : TX} {J : Nat} {h h' : mv_H} (T : TB X J h) (e4 : mv_a h' 4 = mv_a h 4) (e5 : mv_a h' 5 = mv_a h 5) (e6 : mv_b h' 6 = mv_b h 6) : TB X J h' := ⟨T.jb, by rw [e4]; exact T.k, by rw [e5]; exact T.p, by rw [e6]; exact T.n⟩
/-- marks in their rows, the top first -/
def MR (P : Nat) (h : mv_H) : List MkA → Prop
  | [] => True
  | m :: M => (mv_a h 23 M.length = nI m.k ∧ m.k < 400 ∧ m.c ≤ 40000 ∧ (∃ t, mv_a h 24 M.length = nI t ∧ t < 32770) ∧ ((m.k = 123 ∨ (211 ≤ m.k ∧ m.k ≤ 216)) → mv_a h 25 M.length = nI m.c) ∧ (m.k = 91 → ∃ t, mv_a h 25 M.length = nI t ∧ t < 64 ∧ mv_a h (P + 1) t = nI m.c) ∧ (m.k = 63 ∨ m.k = 58 → (mv_a h 25 M.length).toInt < 32768 ∧ mv_a h 26 M.length = nI m.q ∧ m.q ≤ 500000000)) ∧ MR P h M
/-- widths held in their row, the latest first -/
def HR (h : mv_H) : List Nat → Prop
  | [] => True
  | w :: H => (mv_a h 27 H.length = nI w ∧ 0 < w) ∧ HR h H
theorem MR.fr {P : Nat} {h h' : mv_H} (e1 : mv_a h' (P + 1) = mv_a h (P + 1)) : ∀ {M : List MkA}, MR P h M → (∀ i, i < M.length → mv_a h' 23 i = mv_a h 23 i ∧ mv_a h' 24 i = mv_a h 24 i ∧ mv_a h' 25 i = mv_a h 25 i ∧ mv_a h' 26 i = mv_a h 26 i) → MR P h' M := by
  intro M
  induction M with
  | nil => intro _ _; exact trivial
  | cons m M ih =>
    intro hM hi
    obtain ⟨a1, a2, a3, a4⟩ := hi M.length (Nat.lt_succ_self _)
    refine ⟨?_, ih hM.2 (fun i q => hi i (Nat.lt_succ_of_lt q))⟩
    rw [a1, a2, a3, a4, e1]
    exact hM.1
theorem HR.fr {h h' : mv_H} : ∀ {H : List Nat}, HR h H → (∀ i, i < H.length → mv_a h' 27 i = mv_a h 27 i) → HR h' H := by
  intro H
  induction H with
  | nil => intro _ _; exact trivial
  | cons m M ih =>
    intro hM hi
    refine ⟨?_, ih hM.2 (fun i q => hi i (Nat.lt_succ_of_lt q))⟩
    rw [hi M.length (Nat.lt_succ_self _)]
    exact hM.1
def sumL : List Nat → Nat
  | [] => 0
  | w :: H => w + sumL H
/-- the class in an EXPR, nothing wrong so far -/
def CXq (X : TX) (J P : Nat) (h : mv_H) (j d : Nat) (M : List MkA) (H : List Nat) : Prop := (TB X J h) ∧ (P = 32 ∨ P = 48) ∧ (mv_i h 3 7 = nI (j + 1)) ∧ (j ≤ J) ∧ (mv_i h 3 8 = nI d) ∧ (d ≤ 60) ∧ (mv_i h 3 9 = -1) ∧ (mv_i h 21 0 = 0) ∧ (mv_i h 22 8 = nI M.length) ∧ (MR P h M) ∧ (mv_i h 22 10 = nI H.length) ∧ (HR h H) ∧ (sumL H ≤ 40000 * (j + 1)) ∧ (∃ z, mv_i h P 17 = nI z ∧ z ≤ 32768)
theorem CXq.tb {X : TX} {J P : Nat} {h : mv_H} {j d : Nat} {M : List MkA} {H : List Nat} (h99 : CXq X J P h j d M H) : TB X J h := h99.1
theorem CXq.pp {X : TX} {J P : Nat} {h : mv_H} {j d : Nat} {M : List MkA} {H : List Nat} (h99 : CXq X J P h j d M H) : P = 32 ∨ P = 48 := h99.2.1
theorem CXq.at' {X : TX} {J P : Nat} {h : mv_H} {j d : Nat} {M : List MkA} {H : List Nat} (h99 : CXq X J P h j d M H) : mv_i h 3 7 = nI (j + 1) := h99.2.2.1
theorem CXq.jJ {X : TX} {J P : Nat} {h : mv_H} {j d : Nat} {M : List MkA} {H : List Nat} (h99 : CXq X J P h j d M H) : j ≤ J := h99.2.2.2.1
theorem CXq.dp {X : TX} {J P : Nat} {h : mv_H} {j d : Nat} {M : List MkA} {H : List Nat} (h99 : CXq X J P h j d M H) : mv_i h 3 8 = nI d := h99.2.2.2.2.1
theorem CXq.d2 {X : TX} {J P : Nat} {h : mv_H} {j d : Nat} {M : List MkA} {H : List Nat} (h99 : CXq X J P h j d M H) : d ≤ 60 := h99.2.2.2.2.2.1
theorem CXq.ok {X : TX} {J P : Nat} {h : mv_H} {j d : Nat} {M : List MkA} {H : List Nat} (h99 : CXq X J P h j d M H) : mv_i h 3 9 = -1 := h99.2.2.2.2.2.2.1
theorem CXq.no {X : TX} {J P : Nat} {h : mv_H} {j d : Nat} {M : List MkA} {H : List Nat} (h99 : CXq X J P h j d M H) : mv_i h 21 0 = 0 := h99.2.2.2.2.2.2.2.1
theorem CXq.ml {X : TX} {J P : Nat} {h : mv_H} {j d : Nat} {M : List MkA} {H : List Nat} (h99 : CXq X J P h j d M H) : mv_i h 22 8 = nI M.length := h99.2.2.2.2.2.2.2.2.1
theorem CXq.mr {X : TX} {J P : Nat} {h : mv_H} {j d : Nat} {M : List MkA} {H : List Nat} (h99 : CXq X J P h j d M H) : MR P h M := h99.2.2.2.2.2.2.2.2.2.1
theorem CXq.hl {X : TX} {J P : Nat} {h : mv_H} {j d : Nat} {M : List MkA} {H : List Nat} (h99 : CXq X J P h j d M H) : mv_i h 22 10 = nI H.length := h99.2.2.2.2.2.2.2.2.2.2.1
theorem CXq.hr {X : TX} {J P : Nat} {h : mv_H} {j d : Nat} {M : List MkA} {H : List Nat} (h99 : CXq X J P h j d M H) : HR h H := h99.2.2.2.2.2.2.2.2.2.2.2.1
theorem CXq.sm {X : TX} {J P : Nat} {h : mv_H} {j d : Nat} {M : List MkA} {H : List Nat} (h99 : CXq X J P h j d M H) : sumL H ≤ 40000 * (j + 1) := h99.2.2.2.2.2.2.2.2.2.2.2.2.1
theorem CXq.sz {X : TX} {J P : Nat} {h : mv_H} {j d : Nat} {M : List MkA} {H : List Nat} (h99 : CXq X J P h j d M H) : ∃ z, mv_i h P 17 = nI z ∧ z ≤ 32768 := h99.2.2.2.2.2.2.2.2.2.2.2.2.2
/-- something was found wrong -/
def Fl (h : mv_H) : Prop := 0 ≤ (mv_i h 3 9).toInt ∨ ¬ mv_i h 21 0 = 0
section PRM
variable {X : TX} {J P : Nat} {h : mv_H} {j d : Nat} {M : List MkA} {H : List Nat} (C : CXq X J P h j d M H)
theorem CXq.lt (C : CXq X J P h j d M H) : mv_i h 3 9 < 0 := by rw [C.ok]; decide
theorem CXq.jb (C : CXq X J P h j d M H) : j + 1 < 32000 := by have := C.tb.jb; have := C.jJ; omega
theorem CXq.kd (C : CXq X J P h j d M H) : f_Tokens_kind h = some (nI (X.kd j), h) := by
  rw [kind_c C.at' (by have := C.jb; omega) C.lt, (C.tb.k j C.jJ).1]
theorem CXq.pl (C : CXq X J P h j d M H) : ∃ q, mv_a h 5 (j + 1) = nI q ∧ q < 2147483648 := C.tb.p j C.jJ
/-- a take that fits -/
theorem CXq.tk (C : CXq X J P h j d M H) {k : Nat} (hk : X.kd j = k) : f_Tokens_take h (nI k) = some (nI (j + 1), mv_si h 3 7 (nI (j + 2))) := by
  rw [take_c C.at' (by have := C.jb; omega) C.lt, (C.tb.k j C.jJ).1, if_pos (by rw [hk])]
/-- a take that does not -/
theorem CXq.tb' (C : CXq X J P h j d M H) {k : Nat} (hk2 : k < 400) (hk : ¬ X.kd j = k) : ∃ q, q < 2147483648 ∧ f_Tokens_take h (nI k) = some (0, mv_si h 3 9 (nI q)) := by
  obtain ⟨q, e, hq⟩ := C.pl
  have := (C.tb.k j C.jJ).2
  refine ⟨q, hq, ?_⟩
  rw [take_c C.at' (by have := C.jb; omega) C.lt, (C.tb.k j C.jJ).1, if_neg (fun z => hk ((nIinj (by omega) (by omega)).mp z)), e]
/-- at the next token -/
theorem CXq.nx (C : CXq X J P h j d M H) (hj : j + 1 ≤ J) : CXq X J P (mv_si h 3 7 (nI (j + 2))) (j + 1) d M H := ⟨
  C.tb.fr rfl rfl rfl,
  C.pp,
  rfl,
  hj,
  C.dp,
  C.d2,
  C.ok,
  C.no,
  C.ml,
  MR.fr (h := h) (h' := mv_si h 3 7 (nI (j + 2))) rfl C.mr (fun i _ => ⟨rfl, rfl, rfl, rfl⟩),
  C.hl,
  C.hr.fr (fun _ _ => rfl),
  by have := C.sm; omega,
  by
    have hp := C.pp
    obtain ⟨z, e, hz⟩ := C.sz
    exact ⟨z, (mv_u_ne (mv_i h) _ (by omega)).trans e, hz⟩⟩
theorem CXq.dd (C : CXq X J P h j d M H) {d2 : Nat} (h2 : d2 ≤ 60) : CXq X J P (mv_si h 3 8 (nI d2)) j d2 M H := ⟨
  C.tb.fr rfl rfl rfl,
  C.pp,
  C.at',
  C.jJ,
  rfl,
  h2,
  C.ok,
  C.no,
  C.ml,
  MR.fr (h := h) (h' := mv_si h 3 8 (nI d2)) rfl C.mr (fun i _ => ⟨rfl, rfl, rfl, rfl⟩),
  C.hl,
  C.hr.fr (fun _ _ => rfl),
  C.sm,
  by
    have hp := C.pp
    obtain ⟨z, e, hz⟩ := C.sz
    exact ⟨z, (mv_u_ne (mv_i h) _ (by omega)).trans e, hz⟩⟩
/-- mark -/
theorem CXq.mark (C : CXq X J P h j d M H) (hM : M.length ≤ 1000) {k t : Nat} (hk : k < 400) (hk2 : ¬ k = 91 ∧ ¬ k = 63 ∧ ¬ k = 58) (ht : t < 32770) : f_Exprs_mark h (nI k) (nI t) = some (mv_si (mv_sa (mv_sa (mv_sa h 23 M.length (nI k)) 24 M.length (nI t)) 25 M.length 0) 22 8 (nI (M.length + 1))) ∧ CXq X J P (mv_si (mv_sa (mv_sa (mv_sa h 23 M.length (nI k)) 24 M.length (nI t)) 25 M.length 0) 22 8 (nI (M.length + 1))) j d (⟨k, 0, 0⟩ :: M) H := by
  have hp := C.pp
  constructor
  · unfold f_Exprs_mark
    have s : ∀ g o k x, mv_i (mv_sa g o k x) = mv_i g := fun _ _ _ _ => rfl
    simp only [xk_s, s, C.ml]
    rw [xvi_n (by omega) (by decide), cln (by omega), nI1 (by omega)]
    rfl
  · have e23 : ∀ i, mv_a (mv_si (mv_sa (mv_sa (mv_sa h 23 M.length (nI k)) 24 M.length (nI t)) 25 M.length 0) 22 8 (nI (M.length + 1))) 23 i = if i = M.length then nI k else mv_a h 23 i := fun i => by
      show (if 23 = 25 ∧ i = M.length then (0 : Int32) else if 23 = 24 ∧ i = M.length then nI t else if 23 = 23 ∧ i = M.length then nI k else mv_a h 23 i) = _
      rw [if_neg (by omega), if_neg (by omega)]
      by_cases z : i = M.length
      · rw [if_pos ⟨rfl, z⟩, if_pos z]
      · rw [if_neg (fun y => z y.2), if_neg z]
    have e24 : ∀ i, mv_a (mv_si (mv_sa (mv_sa (mv_sa h 23 M.length (nI k)) 24 M.length (nI t)) 25 M.length 0) 22 8 (nI (M.length + 1))) 24 i = if i = M.length then nI t else mv_a h 24 i := fun i => by
      show (if 24 = 25 ∧ i = M.length then (0 : Int32) else if 24 = 24 ∧ i = M.length then nI t else if 24 = 23 ∧ i = M.length then nI k else mv_a h 24 i) = _
      rw [if_neg (by omega)]
      by_cases z : i = M.length
      · rw [if_pos ⟨rfl, z⟩, if_pos z]
      · rw [if_neg (fun y => z y.2), if_neg (by omega), if_neg z]
    have e25 : ∀ i, mv_a (mv_si (mv_sa (mv_sa (mv_sa h 23 M.length (nI k)) 24 M.length (nI t)) 25 M.length 0) 22 8 (nI (M.length + 1))) 25 i = if i = M.length then 0 else mv_a h 25 i := fun i => by
      show (if 25 = 25 ∧ i = M.length then (0 : Int32) else if 25 = 24 ∧ i = M.length then nI t else if 25 = 23 ∧ i = M.length then nI k else mv_a h 25 i) = _
      by_cases z : i = M.length
      · rw [if_pos ⟨rfl, z⟩, if_pos z]
      · rw [if_neg (fun y => z y.2), if_neg (by omega), if_neg (by omega), if_neg z]
    have eo : ∀ o, ¬ (o = 23 ∨ o = 24 ∨ o = 25) → mv_a (mv_si (mv_sa (mv_sa (mv_sa h 23 M.length (nI k)) 24 M.length (nI t)) 25 M.length 0) 22 8 (nI (M.length + 1))) o = mv_a h o := fun o ho => by
      funext i
      show (if o = 25 ∧ i = M.length then (0 : Int32) else if o = 24 ∧ i = M.length then nI t else if o = 23 ∧ i = M.length then nI k else mv_a h o i) = _
      rw [if_neg (by omega), if_neg (by omega), if_neg (by omega)]
    refine ⟨?_, hp, C.at', C.jJ, C.dp, C.d2, C.ok, C.no, rfl, ?_, C.hl, ?_, C.sm, ?_⟩
    · exact C.tb.fr (eo 4 (by omega)) (eo 5 (by omega)) rfl
    · refine ⟨⟨?_, hk, Nat.zero_le _, ⟨t, ?_, ht⟩, fun _ => ?_, fun z => absurd z hk2.1, fun z => ?_⟩, ?_⟩
      · rw [e23, if_pos rfl]
      · rw [e24, if_pos rfl]
      · rw [e25, if_pos rfl]; rfl
      · have z : k = 63 ∨ k = 58 := z; omega
      · refine C.mr.fr (eo (P + 1) (by omega)) (fun i hi => ?_)
        rw [e23, e24, e25, if_neg (by omega), if_neg (by omega), if_neg (by omega), eo 26 (by omega)]
        exact ⟨rfl, rfl, rfl, rfl⟩
    · exact C.hr.fr (fun i _ => by rw [eo 27 (by omega)])
    · obtain ⟨z, e, hz⟩ := C.sz
      exact ⟨z, (mv_u_ne (mv_i (mv_sa (mv_sa (mv_sa h 23 M.length (nI k)) 24 M.length (nI t)) 25 M.length 0)) _ (by omega)).trans e, hz⟩
end PRM
/-- the class in an EXPR, in any state: m marks, k widths held -/
def FXq (X : TX) (J P : Nat) (h : mv_H) (a m k : Nat) : Prop := (TB X J h) ∧ (P = 32 ∨ P = 48) ∧ (mv_i h 3 7 = nI a) ∧ (a < 32000) ∧ (mv_i h 22 8 = nI m) ∧ (mv_i h 22 10 = nI k) ∧ (∃ z, mv_i h P 17 = nI z ∧ z ≤ 32768)
theorem FXq.tb {X : TX} {J P : Nat} {h : mv_H} {a m k : Nat} (h99 : FXq X J P h a m k) : TB X J h := h99.1
theorem FXq.pp {X : TX} {J P : Nat} {h : mv_H} {a m k : Nat} (h99 : FXq X J P h a m k) : P = 32 ∨ P = 48 := h99.2.1
theorem FXq.at' {X : TX} {J P : Nat} {h : mv_H} {a m k : Nat} (h99 : FXq X J P h a m k) : mv_i h 3 7 = nI a := h99.2.2.1
theorem FXq.a2 {X : TX} {J P : Nat} {h : mv_H} {a m k : Nat} (h99 : FXq X J P h a m k) : a < 32000 := h99.2.2.2.1
theorem FXq.ml {X : TX} {J P : Nat} {h : mv_H} {a m k : Nat} (h99 : FXq X J P h a m k) : mv_i h 22 8 = nI m := h99.2.2.2.2.1
theorem FXq.hl {X : TX} {J P : Nat} {h : mv_H} {a m k : Nat} (h99 : FXq X J P h a m k) : mv_i h 22 10 = nI k := h99.2.2.2.2.2.1
theorem FXq.sz {X : TX} {J P : Nat} {h : mv_H} {a m k : Nat} (h99 : FXq X J P h a m k) : ∃ z, mv_i h P 17 = nI z ∧ z ≤ 32768 := h99.2.2.2.2.2.2
theorem CXq.f {X : TX} {J P : Nat} {h : mv_H} {j d : Nat} {M : List MkA} {H : List Nat} (C : CXq X J P h j d M H) : FXq X J P h (j + 1) M.length H.length := ⟨C.tb, C.pp, C.at', C.jb, C.ml, C.hl, C.sz⟩
theorem Fl.si {h : mv_H} (F : Fl h) {o k : Nat} (h1 : ¬ (o = 3 ∧ k = 9)) (h2 : ¬ (o = 21 ∧ k = 0)) (v : Int32) : Fl (mv_si h o k v) := by
  have e1 : mv_i (mv_si h o k v) 3 9 = mv_i h 3 9 := mv_u_ne (mv_i h) _ (by omega)
  have e2 : mv_i (mv_si h o k v) 21 0 = mv_i h 21 0 := mv_u_ne (mv_i h) _ (by omega)
  unfold Fl
  rw [e1, e2]; exact F
section FXS
variable {X : TX} {J P : Nat} {h : mv_H} {a m k : Nat} (E : FXq X J P h a m k)
theorem FXq.si (E : FXq X J P h a m k) {o f : Nat} (h1 : ¬ (o = 3 ∧ f = 7)) (h2 : ¬ (o = 22 ∧ f = 8)) (h3 : ¬ (o = 22 ∧ f = 10)) (h4 : ¬ (o = P ∧ f = 17)) (v : Int32) : FXq X J P (mv_si h o f v) a m k :=
  ⟨E.tb.fr rfl rfl rfl, E.pp, (mv_u_ne (mv_i h) _ (by omega)).trans E.at', E.a2, (mv_u_ne (mv_i h) _ (by omega)).trans E.ml, (mv_u_ne (mv_i h) _ (by omega)).trans E.hl, by
    obtain ⟨z, e, hz⟩ := E.sz
    exact ⟨z, (mv_u_ne (mv_i h) _ (by omega)).trans e, hz⟩⟩
/-- wrong -/
theorem FXq.wr (E : FXq X J P h a m k) (hp : ∃ q, mv_a h 5 a = nI q ∧ q < 2147483648) : ∃ h', f_Tokens_wrong h = some h' ∧ FXq X J P h' a m k ∧ 0 ≤ (mv_i h' 3 9).toInt ∧ (Fl h → Fl h') ∧ (∀ o, mv_a h' o = mv_a h o) ∧ (∀ f, ¬ f = 9 → mv_i h' 3 f = mv_i h 3 f) := by
  have hpp := E.pp
  have ha := E.a2
  unfold f_Tokens_wrong
  by_cases c : (0 : Int32) ≤ mv_i h 3 9
  · rw [if_pos c]
    exact ⟨h, rfl, E, Int32.le_iff_toInt_le.mp c, fun w => w, fun _ => rfl, fun _ _ => rfl⟩
  · obtain ⟨q, e, hq⟩ := hp
    rw [if_neg c, E.at', xvi_n (by omega) (by decide), cond_true, cln (by omega), e, xk_s]
    refine ⟨_, rfl, E.si (by omega) (by omega) (by omega) (by omega) _, ?_, fun _ => Or.inl ?_, fun _ => rfl, fun f hf => mv_u_ne (mv_i h) _ (by omega)⟩
    · show 0 ≤ (nI q).toInt
      rw [nIi (by omega)]; omega
    · show 0 ≤ (nI q).toInt
      rw [nIi (by omega)]; omega
end FXS
theorem a27 (h : mv_H) (k : Nat) (x v : Int32) {o : Nat} (ho : ¬ o = 27) : mv_a (mv_si (mv_sa h 27 k x) 22 10 v) o = mv_a h o := by
  funext i
  show (if o = 27 ∧ i = k then x else mv_a h o i) = _
  rw [if_neg (by omega)]
theorem b27 (h : mv_H) (k i : Nat) (x v : Int32) : mv_a (mv_si (mv_sa h 27 k x) 22 10 v) 27 i = if i = k then x else mv_a h 27 i := by
  show (if 27 = 27 ∧ i = k then x else mv_a h 27 i) = _
  by_cases z : i = k
  · rw [if_pos ⟨rfl, z⟩, if_pos z]
  · rw [if_neg (fun y => z y.2), if_neg z]
section FXT
variable {X : TX} {J P : Nat}
/-- a wrong text is read no further -/
theorem take_w {h : mv_H} {a m k : Nat} (E : FXq X J P h a m k) (hw : 0 ≤ (mv_i h 3 9).toInt) {t : Int32} (ht : ¬ (0 : Int32) = t) : f_Tokens_take h t = some (0, h) := by
  have c : (0 : Int32) ≤ mv_i h 3 9 := Int32.le_iff_toInt_le.mpr hw
  unfold f_Tokens_take f_Tokens_kind f_Tokens_wrong
  rw [if_pos c, xhb_s, if_neg ht, if_pos c, xhv_s]
theorem kind_w {h : mv_H} (hw : 0 ≤ (mv_i h 3 9).toInt) : f_Tokens_kind h = some (0, h) := by
  have c : (0 : Int32) ≤ mv_i h 3 9 := Int32.le_iff_toInt_le.mpr hw
  unfold f_Tokens_kind
  rw [if_pos c]
theorem close_w {h : mv_H} {a m k : Nat} (E : FXq X J P h a m k) (hw : 0 ≤ (mv_i h 3 9).toInt) {t : Int32} (ht : ¬ (0 : Int32) = t) : ∃ h', f_Tokens_close h t = some (0, h') ∧ FXq X J P h' a m k ∧ 0 ≤ (mv_i h' 3 9).toInt := by
  have hpp := E.pp
  have E1 := E.si (o := 3) (f := 8) (by omega) (by omega) (by omega) (by omega) (mv_i h 3 8 - 1)
  unfold f_Tokens_close
  rw [xk_s, take_w E1 hw ht, xhb_s]
  exact ⟨_, rfl, E1, hw⟩
theorem open_w {h : mv_H} {a m k : Nat} (E : FXq X J P h a m k) (hw : 0 ≤ (mv_i h 3 9).toInt) {t : Int32} (ht : ¬ (0 : Int32) = t) : ∃ h', f_Tokens_open h t = some (0, h') ∧ FXq X J P h' a m k ∧ 0 ≤ (mv_i h' 3 9).toInt := by
  have hpp := E.pp
  have c : (0 : Int32) ≤ mv_i h 3 9 := Int32.le_iff_toInt_le.mpr hw
  have E1 := E.si (o := 3) (f := 8) (by omega) (by omega) (by omega) (by omega) (mv_i h 3 8 + 1)
  have e1 : f_Tokens_open_13 t h = some (0, mv_si h 3 8 (mv_i h 3 8 + 1)) := by
    unfold f_Tokens_open_13
    rw [xk_s, take_w E1 hw ht, xhb_s]
  unfold f_Tokens_open
  by_cases z : mv_i h 3 8 = 60
  · have e2 : f_Tokens_wrong h = some h := by unfold f_Tokens_wrong; rw [if_pos c]
    rw [if_pos z, e2, xhv_s, e1]
    exact ⟨_, rfl, E1, hw⟩
  · rw [if_neg z, e1]
    exact ⟨_, rfl, E1, hw⟩
/-- mark, in any state -/
theorem mark_f {h : mv_H} {a m k : Nat} (E : FXq X J P h a m k) (hm : m < 1024) (x t : Int32) : ∃ h', f_Exprs_mark h x t = some h' ∧ FXq X J P h' a (m + 1) k ∧ h'.1 = (mv_si h 22 8 (nI (m + 1))).1 ∧ (Fl h → Fl h') := by
  have hpp := E.pp
  refine ⟨mv_si (mv_sa (mv_sa (mv_sa h 23 m x) 24 m t) 25 m 0) 22 8 (nI (m + 1)), ?_, ?_, rfl, ?_⟩
  · unfold f_Exprs_mark
    have s : ∀ g o k x, mv_i (mv_sa g o k x) = mv_i g := fun _ _ _ _ => rfl
    simp only [xk_s, s, E.ml]
    rw [xvi_n (by omega) (by decide), cln (by omega), nI1 (by omega)]
    rfl
  · refine ⟨E.tb.fr ?_ ?_ rfl, hpp, E.at', E.a2, rfl, E.hl, ?_⟩
    · funext i
      show (if 4 = 25 ∧ i = m then (0 : Int32) else if 4 = 24 ∧ i = m then t else if 4 = 23 ∧ i = m then x else mv_a h 4 i) = _
      rw [if_neg (by omega), if_neg (by omega), if_neg (by omega)]
    · funext i
      show (if 5 = 25 ∧ i = m then (0 : Int32) else if 5 = 24 ∧ i = m then t else if 5 = 23 ∧ i = m then x else mv_a h 5 i) = _
      rw [if_neg (by omega), if_neg (by omega), if_neg (by omega)]
    · obtain ⟨z, e, hz⟩ := E.sz
      exact ⟨z, (mv_u_ne (mv_i (mv_sa (mv_sa (mv_sa h 23 m x) 24 m t) 25 m 0)) _ (by omega)).trans e, hz⟩
  · intro F
    exact F
/-- hold, in any state -/
theorem hold_f {h : mv_H} {a m k : Nat} (E : FXq X J P h a m k) (hk : k < 1024) (x : Int32) : f_Exprs_hold h x = some (mv_si (mv_sa h 27 k x) 22 10 (nI (k + 1))) ∧ FXq X J P (mv_si (mv_sa h 27 k x) 22 10 (nI (k + 1))) a m (k + 1) ∧ (Fl h → Fl (mv_si (mv_sa h 27 k x) 22 10 (nI (k + 1)))) := by
  have hpp := E.pp
  refine ⟨?_, ?_, fun F => F⟩
  · unfold f_Exprs_hold
    have s : ∀ g o k x, mv_i (mv_sa g o k x) = mv_i g := fun _ _ _ _ => rfl
    simp only [xk_s, s, E.hl]
    rw [xvi_n (by omega) (by decide), cln (by omega), nI1 (by omega)]
    rfl
  · refine ⟨E.tb.fr (a27 h k x _ (by omega)) (a27 h k x _ (by omega)) rfl, hpp, E.at', E.a2, E.ml, rfl, ?_⟩
    obtain ⟨z, e, hz⟩ := E.sz
    exact ⟨z, (mv_u_ne (mv_i (mv_sa h 27 k x)) _ (by omega)).trans e, hz⟩
/-- release, in any state -/
theorem rel_f {h : mv_H} {a m k : Nat} (E : FXq X J P h a m (k + 1)) (hk : k < 1024) : f_Exprs_release h = some (mv_a h 27 k, mv_si h 22 10 (nI k)) ∧ FXq X J P (mv_si h 22 10 (nI k)) a m k ∧ (Fl h → Fl (mv_si h 22 10 (nI k))) := by
  have hpp := E.pp
  have e : nI (k + 1) - 1 = nI k := nIsub (a := k + 1) (b := 1) (by omega) (by omega)
  refine ⟨?_, ?_, fun F => F⟩
  · unfold f_Exprs_release
    rw [E.hl, e, xk_s]
    have e2 : mv_i (mv_si h 22 10 (nI k)) 22 10 = nI k := rfl
    rw [e2, xvi_n (by omega) (by decide), cln (by omega)]
    rfl
  · refine ⟨E.tb.fr rfl rfl rfl, hpp, E.at', E.a2, E.ml, rfl, ?_⟩
    obtain ⟨z, e, hz⟩ := E.sz
    exact ⟨z, (mv_u_ne (mv_i h) _ (by omega)).trans e, hz⟩
/-- tell: a fault stands -/
theorem tell_f {h : mv_H} {a m k : Nat} (E : FXq X J P h a m k) {t : Nat} (ht : t < 32770) {x : Int32} (hx : ¬ x = 0) : ∃ h', f_Exprs_tell h (nI t) x = some h' ∧ FXq X J P h' a m k ∧ ¬ mv_i h' 21 0 = 0 ∧ Fl h' ∧ (∀ o, ¬ o = 21 → mv_i h' o = mv_i h o) ∧ h'.2 = h.2 := by
  have hpp := E.pp
  have G : ∀ y, FXq X J P (mv_si (mv_si h 21 0 x) 21 1 y) a m k := fun y => (E.si (by omega) (by omega) (by omega) (by omega) _).si (by omega) (by omega) (by omega) (by omega) _
  have fin : ∀ y, ∃ h', f_Faults_tell_31 y x h = some h' ∧ FXq X J P h' a m k ∧ ¬ mv_i h' 21 0 = 0 ∧ Fl h' ∧ (∀ o, ¬ o = 21 → mv_i h' o = mv_i h o) ∧ h'.2 = h.2 := fun y => ⟨mv_si (mv_si h 21 0 x) 21 1 y, rfl, G y, hx, Or.inr hx, fun o ho => by
    funext f
    exact (mv_u_ne (mv_i (mv_si h 21 0 x)) _ (by omega)).trans (mv_u_ne (mv_i h) _ (by omega)), rfl⟩
  unfold f_Exprs_tell f_Faults_tell
  rw [xvi_n ht (by decide), cond_true]
  generalize mv_a h 5 (nI t).toNatClampNeg = y
  by_cases c1 : mv_i h 21 0 = 0
  · rw [if_pos c1]
    obtain ⟨h', e, r⟩ := fin y
    rw [e, xhv_s]; exact ⟨h', rfl, r⟩
  · have same : ∃ h', xhv (some h) (fun g2 => some g2) = some h' ∧ FXq X J P h' a m k ∧ ¬ mv_i h' 21 0 = 0 ∧ Fl h' ∧ (∀ o, ¬ o = 21 → mv_i h' o = mv_i h o) ∧ h'.2 = h.2 := ⟨h, rfl, E, c1, Or.inr c1, fun _ _ => rfl, rfl⟩
    have other : ∃ h', xhv (f_Faults_tell_31 y x h) (fun g2 => some g2) = some h' ∧ FXq X J P h' a m k ∧ ¬ mv_i h' 21 0 = 0 ∧ Fl h' ∧ (∀ o, ¬ o = 21 → mv_i h' o = mv_i h o) ∧ h'.2 = h.2 := by
      obtain ⟨h', e, r⟩ := fin y
      rw [e, xhv_s]; exact ⟨h', rfl, r⟩
    rw [if_neg c1]
    split
    · exact other
    · split
      · split
        · exact same
        · exact other
      · exact same
/-- emit, in any state -/
theorem emit_f {h : mv_H} {a m k : Nat} (E : FXq X J P h a m k) (x : Int32) (y : Int64) : ∃ w h', f_Program_emit P h x y = some (w, h') ∧ w.toInt < 32768 ∧ FXq X J P h' a m k ∧ (Fl h → Fl h') ∧ (∀ o f, ¬ (o = P ∧ f = 17) → mv_i h' o f = mv_i h o f) ∧ (∀ o, ¬ o = P + 9 → mv_a h' o = mv_a h o) ∧ (∀ o, ¬ o = P + 10 → mv_b h' o = mv_b h o) := by
  have hpp := E.pp
  obtain ⟨z, e, hz⟩ := E.sz
  unfold f_Program_emit f_Program_emit_42
  rw [e]
  by_cases c : z = 32768
  · rw [if_pos (show (32768 : Int32) ≤ nI z from (nIle (a := 32768) (by omega) (by omega)).mpr (by omega))]
    refine ⟨_, h, rfl, ?_, E, fun F => F, fun _ _ _ => rfl, fun _ _ => rfl, fun _ _ => rfl⟩
    rw [show (1 : Int32) = nI 1 from rfl, nIsub (by omega) (by omega), nIi (by omega)]; omega
  · rw [if_neg (show ¬ (32768 : Int32) ≤ nI z from fun w => by have := (nIle (a := 32768) (by omega) (by omega)).mp w; omega), xvi_n (by omega) (by decide), cond_true, cln (by omega), xk_s]
    have e2 : mv_i (mv_sa h (P + 9) z x) P 17 = nI z := e
    rw [e2, xvi_n (by omega) (by decide), cond_true, cln (by omega), xk_s]
    have e3 : mv_i (mv_sb (mv_sa h (P + 9) z x) (P + 10) z y) P 17 = nI z := e
    rw [e3, nI1 (by omega), xk_s]
    have e4 : mv_i (mv_si (mv_sb (mv_sa h (P + 9) z x) (P + 10) z y) P 17 (nI (z + 1))) P 17 = nI (z + 1) := mv_u_same _ P 17 _
    have ei : ∀ o f, ¬ (o = P ∧ f = 17) → mv_i (mv_si (mv_sb (mv_sa h (P + 9) z x) (P + 10) z y) P 17 (nI (z + 1))) o f = mv_i h o f := fun o f q => mv_u_ne (mv_i (mv_sb (mv_sa h (P + 9) z x) (P + 10) z y)) _ q
    have ea : ∀ o, ¬ o = P + 9 → mv_a (mv_si (mv_sb (mv_sa h (P + 9) z x) (P + 10) z y) P 17 (nI (z + 1))) o = mv_a h o := fun o q => funext fun i => mv_u_ne (mv_a h) _ (by omega)
    have eb : ∀ o, ¬ o = P + 10 → mv_b (mv_si (mv_sb (mv_sa h (P + 9) z x) (P + 10) z y) P 17 (nI (z + 1))) o = mv_b h o := fun o q => funext fun i => mv_u_ne (mv_b (mv_sa h (P + 9) z x)) _ (by omega)
    refine ⟨_, _, rfl, ?_, ?_, ?_, ei, ea, eb⟩
    · rw [e4, show (1 : Int32) = nI 1 from rfl, nIsub (by omega) (by omega), nIi (by omega)]; omega
    · exact ⟨E.tb.fr (ea 4 (by omega)) (ea 5 (by omega)) (eb 6 (by omega)), hpp, (ei 3 7 (by omega)).trans E.at', E.a2, (ei 22 8 (by omega)).trans E.ml, (ei 22 10 (by omega)).trans E.hl, z + 1, e4, by omega⟩
    · intro F
      unfold Fl
      rw [ei 3 9 (by omega), ei 21 0 (by omega)]; exact F
end FXT
section CXS
variable {X : TX} {J P : Nat} {h : mv_H} {j d : Nat} {M : List MkA} {H : List Nat} (C : CXq X J P h j d M H)
/-- from any state back to the good one -/
theorem CXq.of (C : CXq X J P h j d M H) {h' : mv_H} {M' : List MkA} {H' : List Nat} {j' d' : Nat} (E : FXq X J P h' (j' + 1) M'.length H'.length) (hj : j' ≤ J) (i38 : mv_i h' 3 8 = nI d') (hd : d' ≤ 60) (i39 : mv_i h' 3 9 = -1) (i21 : mv_i h' 21 0 = 0) (mr : MR P h' M') (hr : HR h' H') (sm : sumL H' ≤ 40000 * (j' + 1)) : CXq X J P h' j' d' M' H' :=
  ⟨E.tb, E.pp, E.at', hj, i38, hd, i39, i21, E.ml, mr, E.hl, hr, sm, E.sz⟩
/-- hold, good -/
theorem CXq.hold (C : CXq X J P h j d M H) (hH : H.length < 1024) {w : Nat} (hw : 0 < w) (hs : w + sumL H ≤ 40000 * (j + 1)) : ∃ h', f_Exprs_hold h (nI w) = some h' ∧ CXq X J P h' j d M (w :: H) := by
  obtain ⟨e, E, -⟩ := hold_f C.f hH (nI w)
  have hpp := C.pp
  refine ⟨_, e, C.of (M' := M) (H' := w :: H) E C.jJ C.dp C.d2 C.ok C.no ?_ ?_ hs⟩
  · exact MR.fr (h := h) (a27 h _ _ _ (by omega)) C.mr (fun i _ => by rw [a27 h _ _ _ (show ¬ 23 = 27 by omega), a27 h _ _ _ (show ¬ 24 = 27 by omega), a27 h _ _ _ (show ¬ 25 = 27 by omega), a27 h _ _ _ (show ¬ 26 = 27 by omega)]; exact ⟨rfl, rfl, rfl, rfl⟩)
  · refine ⟨⟨by rw [b27, if_pos rfl], hw⟩, ?_⟩
    exact HR.fr (h := h) C.hr (fun i hi => by rw [b27, if_neg (by omega)])
/-- emit, good -/
theorem CXq.emit (C : CXq X J P h j d M H) (x : Int32) (y : Int64) : ∃ w h', f_Program_emit P h x y = some (w, h') ∧ w.toInt < 32768 ∧ CXq X J P h' j d M H ∧ (∀ o f, ¬ (o = P ∧ f = 17) → mv_i h' o f = mv_i h o f) ∧ (∀ o, ¬ o = P + 9 → mv_a h' o = mv_a h o) ∧ (∀ o, ¬ o = P + 10 → mv_b h' o = mv_b h o) := by
  have hpp := C.pp
  obtain ⟨w, h', e, hw, E, -, ei, ea, eb⟩ := emit_f C.f x y
  refine ⟨w, h', e, hw, C.of E C.jJ ?_ C.d2 ?_ ?_ ?_ ?_ C.sm, ei, ea, eb⟩
  · rw [ei 3 8 (by omega)]; exact C.dp
  · rw [ei 3 9 (by omega)]; exact C.ok
  · rw [ei 21 0 (by omega)]; exact C.no
  · exact MR.fr (h := h) (ea (P + 1) (by omega)) C.mr (fun i _ => by rw [ea 23 (by omega), ea 24 (by omega), ea 25 (by omega), ea 26 (by omega)]; exact ⟨rfl, rfl, rfl, rfl⟩)
  · exact HR.fr (h := h) C.hr (fun i _ => by rw [ea 27 (by omega)])
end CXS
section CXR
variable {X : TX} {J P : Nat} {h : mv_H} {j d : Nat} {M : List MkA} {w : Nat} {H : List Nat} (C : CXq X J P h j d M (w :: H))
/-- release, good -/
theorem CXq.rel (C : CXq X J P h j d M (w :: H)) (hH : H.length < 1024) : f_Exprs_release h = some (nI w, mv_si h 22 10 (nI H.length)) ∧ CXq X J P (mv_si h 22 10 (nI H.length)) j d M H ∧ 0 < w ∧ w ≤ 500000000 ∧ w + sumL H ≤ 40000 * (j + 1) := by
  obtain ⟨e, E, -⟩ := rel_f (k := H.length) C.f hH
  have hs := C.sm
  have hsum : sumL (w :: H) = w + sumL H := rfl
  rw [hsum] at hs
  have hb := C.tb.jb
  have hj := C.jJ
  refine ⟨by rw [e, C.hr.1.1], ⟨E.tb, E.pp, E.at', C.jJ, C.dp, C.d2, C.ok, C.no, E.ml, ?_, E.hl, ?_, by omega, E.sz⟩, C.hr.1.2, by omega, hs⟩
  · exact MR.fr (h := h) (h' := mv_si h 22 10 (nI H.length)) rfl C.mr (fun i _ => ⟨rfl, rfl, rfl, rfl⟩)
  · exact HR.fr (h := h) C.hr.2 (fun i _ => rfl)
end CXR
section OPN
variable {X : TX} {J P : Nat} {h : mv_H} {j d : Nat} {M : List MkA} {H : List Nat} (C : CXq X J P h j d M H)
/-- open, good -/
theorem CXq.op (C : CXq X J P h j d M H) {k : Nat} (hk : X.kd j = k) (hd : d < 60) (hj : j + 1 ≤ J) : ∃ h', f_Tokens_open h (nI k) = some (nI (j + 1), h') ∧ CXq X J P h' (j + 1) (d + 1) M H := by
  have e8 : mv_i h 3 8 + 1 = nI (d + 1) := by rw [C.dp, nI1 (by omega)]
  refine ⟨mv_si (mv_si h 3 8 (nI (d + 1))) 3 7 (nI (j + 2)), ?_, (C.dd (d2 := d + 1) (by omega)).nx hj⟩
  rw [open_c C.at' (by have := C.jb; omega) C.lt (nI k) (by rw [C.dp]; exact fun z => by have := (nIinj (b := 60) (by omega) (by omega)).mp z; omega), (C.tb.k j C.jJ).1, if_pos (by rw [hk]), e8]
/-- open, not good -/
theorem CXq.ob (C : CXq X J P h j d M H) {k : Nat} (hk2 : 0 < k) (hk3 : k < 400) (hb : ¬ (X.kd j = k ∧ d < 60)) : ∃ h', f_Tokens_open h (nI k) = some (0, h') ∧ FXq X J P h' (j + 1) M.length H.length ∧ 0 ≤ (mv_i h' 3 9).toInt := by
  have hpp := C.pp
  have kz : ¬ (0 : Int32) = nI k := fun z => by have := (nIinj (a := 0) (by omega) (by omega)).mp z; omega
  by_cases c : d = 60
  · have hq := C.pl
    obtain ⟨h1, e1, E1, w1, -, -, -⟩ := C.f.wr hq
    have E2 := E1.si (o := 3) (f := 8) (by omega) (by omega) (by omega) (by omega) (mv_i h1 3 8 + 1)
    unfold f_Tokens_open f_Tokens_open_13
    rw [if_pos (by rw [C.dp, c]; rfl), e1, xhv_s, xk_s, take_w E2 w1 kz, xhb_s]
    exact ⟨_, rfl, E2, w1⟩
  · have hk4 : ¬ X.kd j = k := fun z => hb ⟨z, by have := C.d2; omega⟩
    obtain ⟨q, e, hq⟩ := C.pl
    have := (C.tb.k j C.jJ).2
    refine ⟨_, by rw [open_c C.at' (by have := C.jb; omega) C.lt (nI k) (by rw [C.dp]; exact fun z => c ((nIinj (b := 60) (by have := C.d2; omega) (by omega)).mp z)), (C.tb.k j C.jJ).1, if_neg (fun z => hk4 ((nIinj (by omega) (by omega)).mp z)), e], ?_, ?_⟩
    · exact (C.f.si (by omega) (by omega) (by omega) (by omega) _).si (by omega) (by omega) (by omega) (by omega) _
    · show 0 ≤ (nI q).toInt
      rw [nIi (by omega)]; omega
/-- a sign, a ( or a { -/
theorem CXq.opn (C : CXq X J P h j d M H) (hM : M.length ≤ 1000) {k mk : Nat} (hk : X.kd j = k) (hk1 : ¬ k = 1 ∧ ¬ k = 2) (hk3 : 0 < k ∧ k < 400) (hmk : mk < 400) (hm2 : ¬ mk = 91 ∧ ¬ mk = 63 ∧ ¬ mk = 58) (hJ : X.kd J = 1 ∨ X.kd J = 2) : ∃ h', (xhb (f_Tokens_open h (nI k)) fun v g => xhv (f_Exprs_mark g (nI mk) v) fun g' => (some ((0 : Int32), g') : Option (Int32 × mv_H))) = some (0, h') ∧ ((d < 60 ∧ CXq X J P h' (j + 1) (d + 1) (⟨mk, 0, 0⟩ :: M) H) ∨ (¬ d < 60 ∧ Fl h')) := by
  by_cases c : d < 60
  · have hj1 := nxJ hJ C.jJ (by omega) (by omega)
    obtain ⟨h1, e1, C1⟩ := C.op hk c hj1
    have hb := C1.jb
    obtain ⟨e2, C2⟩ := C1.mark hM (k := mk) (t := j + 1) hmk hm2 (by omega)
    rw [e1, xhb_s, e2, xhv_s]
    exact ⟨_, rfl, Or.inl ⟨c, C2⟩⟩
  · obtain ⟨h1, e1, E1, w1⟩ := C.ob (k := k) hk3.1 hk3.2 (fun z => c z.2)
    obtain ⟨h2, e2, E2, -, F2⟩ := mark_f E1 (by omega) (nI mk) 0
    rw [e1, xhb_s, e2, xhv_s]
    exact ⟨h2, rfl, Or.inr ⟨c, F2 (Or.inl w1)⟩⟩
end OPN
theorem mskL {w : Nat} (hw1 : 1 ≤ w) (hw : w ≤ 64) (h : mv_H) : f_Bits_mask h (nI w) = some (nJ (2 ^ w - 1), h) := by
  unfold f_Bits_mask
  by_cases c : w < 64
  · rw [if_pos (show nI w < (64 : Int32) from Int32.not_le.mp (fun z => by have := (nIle (a := 64) (by omega) (by omega)).mp z; omega))]
    have e : (1 : Int64) <<< ((nI w).toInt64 &&& 63) = nJ (2 ^ w) := by
      rw [show (1 : Int64) = nJ 1 from rfl, xJ_shl]
      apply xJ_eq
      unfold yshl
      have h2 : 2 ^ w < 18446744073709551616 := by
        have : 2 ^ w ≤ 2 ^ 63 := Nat.pow_le_pow_right (by omega) (by omega)
        omega
      rw [Nat.mod_eq_of_lt c]
      simp only [Nat.shiftLeft_eq, Nat.one_mul]
      first | done | (rw [Nat.mod_mod]) | skip
    rw [e, show (1 : Int64) = nJ 1 from rfl, xJ_sub]
    refine congrArg (fun t => some (t, h)) (xJ_eq ?_)
    unfold ysub
    have h1 : 1 ≤ 2 ^ w := Nat.one_le_two_pow
    have h2 : 2 ^ w ≤ 2 ^ 63 := Nat.pow_le_pow_right (by omega) (by omega)
    omega
  · have e : w = 64 := by omega
    rw [e]
    rfl
theorem msk_0 {v w : Nat} (hv : v < 18446744073709551616) (hw : w ≤ 64) : lg_cmp (nJ v &&& (nJ (2 ^ w - 1) ^^^ (-1 : Int64))) 0 = 0 ↔ v < 2 ^ w := by
  rw [show (-1 : Int64) = nJ (2 ^ 64 - 1) from rfl, xJ_xor, xJ_and, lcmp0]
  have hlt : v &&& ((2 ^ w - 1) ^^^ (2 ^ 64 - 1)) ≤ v := Nat.and_le_left
  rw [Nat.mod_eq_of_lt (by omega)]
  have hb : ∀ i, Nat.testBit ((2 ^ w - 1) ^^^ (2 ^ 64 - 1)) i = (decide (i < w) ^^ decide (i < 64)) := fun i => by
    rw [Nat.testBit_xor, Nat.testBit_two_pow_sub_one, Nat.testBit_two_pow_sub_one]
  constructor
  · intro e
    by_cases c : v < 2 ^ w
    · exact c
    · obtain ⟨i, hi, hb2⟩ := Nat.exists_ge_and_testBit_of_ge_two_pow (Nat.le_of_not_lt c)
      have h64 : i < 64 := by
        by_cases q : i < 64
        · exact q
        · have : v.testBit i = false := Nat.testBit_lt_two_pow (Nat.lt_of_lt_of_le (show v < 2 ^ 64 from hv) (Nat.pow_le_pow_right (by omega) (by omega)))
          rw [this] at hb2; cases hb2
      have := congrArg (fun x => Nat.testBit x i) e
      simp only [Nat.testBit_and, hb, hb2, Nat.zero_testBit] at this
      rw [decide_eq_false (show ¬ i < w by omega), decide_eq_true h64] at this
      cases this
  · intro c
    apply Nat.eq_of_testBit_eq
    intro i
    rw [Nat.testBit_and, hb, Nat.zero_testBit]
    by_cases q : i < w
    · rw [decide_eq_true q, decide_eq_true (show i < 64 by omega)]
      cases v.testBit i <;> rfl
    · have : v.testBit i = false := Nat.testBit_lt_two_pow (Nat.lt_of_lt_of_le c (Nat.pow_le_pow_right (by omega) (by omega)))
      rw [this]; rfl
section LITC
variable {X : TX} {J P : Nat}
/-- the end of a literal, in any state -/
def litT (P : Nat) (t4 t8 : Int32) (A B : Int64) (g7 : mv_H) : Option mv_H := xhb (f_Program_emit P g7 (300 : Int32) B) fun v12 g11 => if (lg_cmp A (1 : Int64)) < (0 : Int32) then (f_Exprs_literal_76 P t4 g11) else (if (lg_cmp A (64 : Int64)) ≤ (0 : Int32) then (xhb (f_Bits_mask g11 (A.toInt32)) fun v14 g13 => if (lg_cmp (B &&& (v14 ^^^ (-1 : Int64))) (0 : Int64)) = (0 : Int32) then (xhv (f_Exprs_hold g13 (A.toInt32)) fun g15 => some g15) else (xhv (f_Exprs_tell g13 t8 (3 : Int32)) fun g16 => xhv (f_Exprs_hold g16 (0 : Int32)) fun g17 => some g17)) else (f_Exprs_literal_76 P t4 g11))
theorem lit76 {g : mv_H} {a m k : Nat} (E : FXq X J P g a m k) (hk : k < 1024) {t : Nat} (ht : t < 32770) : ∃ h', f_Exprs_literal_76 P (nI t) g = some h' ∧ Fl h' := by
  obtain ⟨h1, e1, E1, -, F1, -, -⟩ := tell_f E ht (x := 3) (by decide)
  obtain ⟨e2, -, F2⟩ := hold_f E1 hk 0
  unfold f_Exprs_literal_76
  rw [e1, xhv_s, e2, xhv_s]
  exact ⟨_, rfl, F2 F1⟩
theorem litT_f {g : mv_H} {a m k : Nat} (E : FXq X J P g a m k) (hk : k < 1024) {t4 t8 : Nat} (h4 : t4 < 32770) (h8 : t8 < 32770) (A B : Int64) : ∃ h', litT P (nI t4) (nI t8) A B g = some h' ∧ (Fl g → Fl h') := by
  obtain ⟨w, g1, e1, -, E1, F1, -, -, -⟩ := emit_f E 300 B
  unfold litT
  rw [e1, xhb_s]
  by_cases c1 : lg_cmp A 1 < 0
  · rw [if_pos c1]
    obtain ⟨h', e, F⟩ := lit76 E1 hk h4
    exact ⟨h', e, fun _ => F⟩
  rw [if_neg c1]
  by_cases c2 : lg_cmp A 64 ≤ 0
  rotate_left
  · rw [if_neg c2]
    obtain ⟨h', e, F⟩ := lit76 E1 hk h4
    exact ⟨h', e, fun _ => F⟩
  rw [if_pos c2]
  have em : ∃ v, f_Bits_mask g1 A.toInt32 = some (v, g1) := by
    unfold f_Bits_mask
    split
    · exact ⟨_, rfl⟩
    · exact ⟨_, rfl⟩
  obtain ⟨v, em⟩ := em
  rw [em, xhb_s]
  split
  · obtain ⟨e2, -, F2⟩ := hold_f E1 hk A.toInt32
    rw [e2, xhv_s]
    exact ⟨_, rfl, fun F => F2 (F1 F)⟩
  · obtain ⟨h2, e2, E2, -, F2, -, -⟩ := tell_f E1 h8 (x := 3) (by decide)
    obtain ⟨e3, -, F3⟩ := hold_f E2 hk 0
    rw [e2, xhv_s, e3, xhv_s]
    exact ⟨_, rfl, fun _ => F3 F2⟩
/-- a literal -/
theorem lit_C {h : mv_H} {j d : Nat} {M : List MkA} {H : List Nat} {o : OuA} (C : CXq X J P h j d M H) (hH : H.length < 1024) (hk : X.kd j = 4) (hJ : X.kd J = 1 ∨ X.kd J = 2) : ∃ h', f_Exprs_literal P h = some h' ∧ match (if X.kd (j + 1) = 39 ∧ X.kd (j + 2) = 4 ∧ 1 ≤ X.nu j ∧ X.nu j ≤ 64 ∧ X.nu (j + 2) < 2 ^ X.nu j then some (CfA.mk 3 (j + 3) d M (X.nu j :: H) o) else none) with
    | some c => CXq X J P h' c.j c.d c.M c.H
    | none => Fl h' := by
  have hb := C.jb
  have hj1 := nxJ hJ C.jJ (by omega) (by omega)
  have C1 := C.nx hj1
  have hA := C.tb.n j C.jJ hk
  unfold f_Exprs_literal
  rw [show f_Tokens_take h 4 = some (nI (j + 1), mv_si h 3 7 (nI (j + 2))) from C.tk hk, xhb_s]
  -- the tail as litT
  have tl : ∀ (v8 : Int32) (g7 : mv_H), (bif xvi (nI (j + 1)) 32770 then bif xvi v8 32770 then xhb (f_Program_emit P g7 (300 : Int32) (mv_b g7 6 (v8).toNatClampNeg)) fun v12 g11 => if (lg_cmp (mv_b g7 6 (nI (j + 1)).toNatClampNeg) (1 : Int64)) < (0 : Int32) then (f_Exprs_literal_76 P (nI (j + 1)) g11) else (if (lg_cmp (mv_b g7 6 (nI (j + 1)).toNatClampNeg) (64 : Int64)) ≤ (0 : Int32) then (xhb (f_Bits_mask g11 (((mv_b g7 6 (nI (j + 1)).toNatClampNeg)).toInt32)) fun v14 g13 => if (lg_cmp ((mv_b g7 6 (v8).toNatClampNeg) &&& (v14 ^^^ (-1 : Int64))) (0 : Int64)) = (0 : Int32) then (xhv (f_Exprs_hold g13 (((mv_b g7 6 (nI (j + 1)).toNatClampNeg)).toInt32)) fun g15 => some g15) else (xhv (f_Exprs_tell g13 v8 (3 : Int32)) fun g16 => xhv (f_Exprs_hold g16 (0 : Int32)) fun g17 => some g17)) else (f_Exprs_literal_76 P (nI (j + 1)) g11)) else none else none) = bif xvi v8 32770 then litT P (nI (j + 1)) v8 (mv_b g7 6 (j + 1)) (mv_b g7 6 v8.toNatClampNeg) g7 else none := fun v8 g7 => by
    rw [xvi_n (show j + 1 < 32770 by omega) (by decide), cond_true, cln (show j + 1 < 2147483648 by omega)]
    rfl
  by_cases k39 : X.kd (j + 1) = 39
  rotate_left
  · -- no '
    rw [if_neg (fun z => k39 z.1)]
    obtain ⟨q, hq, e2⟩ := C1.tb' (k := 39) (by omega) k39
    have E2 : FXq X J P (mv_si (mv_si h 3 7 (nI (j + 2))) 3 9 (nI q)) (j + 1 + 1) M.length H.length := C1.f.si (by omega) (by omega) (by omega) (by have := C.pp; omega) _
    have w2 : 0 ≤ (mv_i (mv_si (mv_si h 3 7 (nI (j + 2))) 3 9 (nI q)) 3 9).toInt := by
      show 0 ≤ (nI q).toInt
      rw [nIi (by omega)]; omega
    rw [show f_Tokens_take (mv_si h 3 7 (nI (j + 2))) 39 = _ from e2, xhb_s, take_w E2 w2 (by decide), xhb_s, tl, show xvi (0 : Int32) 32770 = true from xvi_n (p := 0) (by omega) (by decide), cond_true]
    obtain ⟨h', e, F⟩ := litT_f E2 hH (t4 := j + 1) (t8 := 0) (by omega) (by omega) _ _
    exact ⟨h', e, F (Or.inl w2)⟩
  rw [show f_Tokens_take (mv_si h 3 7 (nI (j + 2))) 39 = _ from C1.tk k39, xhb_s]
  have hj2 := nxJ hJ hj1 (by omega) (by omega)
  have C2 := C1.nx hj2
  by_cases k4 : X.kd (j + 2) = 4
  rotate_left
  · rw [if_neg (fun z => k4 z.2.1)]
    obtain ⟨q, hq, e3⟩ := C2.tb' (k := 4) (by omega) k4
    have E3 : FXq X J P (mv_si (mv_si (mv_si h 3 7 (nI (j + 2))) 3 7 (nI (j + 1 + 2))) 3 9 (nI q)) (j + 1 + 1 + 1) M.length H.length := C2.f.si (by omega) (by omega) (by omega) (by have := C.pp; omega) _
    have w3 : 0 ≤ (mv_i (mv_si (mv_si (mv_si h 3 7 (nI (j + 2))) 3 7 (nI (j + 1 + 2))) 3 9 (nI q)) 3 9).toInt := by
      show 0 ≤ (nI q).toInt
      rw [nIi (by omega)]; omega
    rw [show f_Tokens_take (mv_si (mv_si h 3 7 (nI (j + 2))) 3 7 (nI (j + 1 + 2))) 4 = _ from e3, xhb_s, tl, show xvi (0 : Int32) 32770 = true from xvi_n (p := 0) (by omega) (by decide), cond_true]
    obtain ⟨h', e, F⟩ := litT_f E3 hH (t4 := j + 1) (t8 := 0) (by omega) (by omega) _ _
    exact ⟨h', e, F (Or.inl w3)⟩
  have hj3 := nxJ hJ (j := j + 2) hj2 (by omega) (by omega)
  have C3 := C2.nx hj3
  have hB := C.tb.n (j + 2) hj2 k4
  rw [show f_Tokens_take (mv_si (mv_si h 3 7 (nI (j + 2))) 3 7 (nI (j + 1 + 2))) 4 = _ from C2.tk k4, xhb_s, tl, xvi_n (show j + 1 + 1 + 1 < 32770 by omega) (by decide), cond_true, cln (by omega)]
  have eA : mv_b (mv_si (mv_si (mv_si h 3 7 (nI (j + 2))) 3 7 (nI (j + 1 + 2))) 3 7 (nI (j + 1 + 1 + 2))) 6 (j + 1) = nJ (X.nu j) := hA.1
  have eB : mv_b (mv_si (mv_si (mv_si h 3 7 (nI (j + 2))) 3 7 (nI (j + 1 + 2))) 3 7 (nI (j + 1 + 1 + 2))) 6 (j + 1 + 1 + 1) = nJ (X.nu (j + 2)) := hB.1
  rw [eA, eB]
  unfold litT
  obtain ⟨w, g1, e1, -, C4, ei, -, -⟩ := C3.emit 300 (nJ (X.nu (j + 2)))
  rw [e1, xhb_s]
  have c1 : lg_cmp (nJ (X.nu j)) (1 : Int64) < 0 ↔ (X.nu j < 1 ∨ 9223372036854775808 ≤ X.nu j) := lc_lt hA.2 (w := 1) (by omega)
  have bad : ¬ (1 ≤ X.nu j ∧ X.nu j ≤ 64 ∧ X.nu (j + 2) < 2 ^ X.nu j) → ∀ r : Option mv_H, (∃ h', r = some h' ∧ Fl h') → ∃ h', r = some h' ∧ match (if X.kd (j + 1) = 39 ∧ X.kd (j + 2) = 4 ∧ 1 ≤ X.nu j ∧ X.nu j ≤ 64 ∧ X.nu (j + 2) < 2 ^ X.nu j then some (CfA.mk 3 (j + 3) d M (X.nu j :: H) o) else none) with
    | some c => CXq X J P h' c.j c.d c.M c.H
    | none => Fl h' := fun z r hr => by
    rw [if_neg (fun y => z y.2.2)]; exact hr
  by_cases r1 : X.nu j < 1 ∨ 9223372036854775808 ≤ X.nu j
  · rw [if_pos (c1.mpr r1)]
    exact bad (by omega) _ (lit76 C4.f hH (by omega))
  rw [if_neg (fun z => r1 (c1.mp z))]
  have c2 : lg_cmp (nJ (X.nu j)) (64 : Int64) ≤ 0 ↔ X.nu j ≤ 64 := lc_le (v := X.nu j) (w := 64) (by omega) (by omega)
  by_cases r2 : X.nu j ≤ 64
  rotate_left
  · rw [if_neg (fun z => r2 (c2.mp z))]
    exact bad (by omega) _ (lit76 C4.f hH (by omega))
  rw [if_pos (c2.mpr r2), nJi (by omega), mskL (by omega) r2, xhb_s]
  have c3 := msk_0 hB.2 r2
  by_cases r3 : X.nu (j + 2) < 2 ^ X.nu j
  · rw [if_pos (c3.mpr r3)]
    have hs := C.sm
    obtain ⟨h5, e5, C5⟩ := C4.hold hH (w := X.nu j) (by omega) (by omega)
    rw [e5, xhv_s, if_pos ⟨k39, k4, by omega, r2, r3⟩]
    exact ⟨h5, rfl, C5⟩
  · rw [if_neg (fun z => r3 (c3.mp z))]
    refine bad (fun z => r3 z.2.2) _ ?_
    obtain ⟨h2, e2, E2, -, F2, -, -⟩ := tell_f C4.f (t := j + 1 + 1 + 1) (by omega) (x := 3) (by decide)
    obtain ⟨e3, -, F3⟩ := hold_f E2 hH 0
    rw [e2, xhv_s, e3, xhv_s]
    exact ⟨_, rfl, F3 F2⟩
end LITC
section PSH
variable {X : TX} {J P : Nat} {h : mv_H} {j d : Nat} {M : List MkA} {H : List Nat} (C : CXq X J P h j d M H)
/-- a mark more, its rows written -/
theorem CXq.push (C : CXq X J P h j d M H) {h' : mv_H} {k c q t : Nat} (ei : ∀ o f, ¬ (o = 22 ∧ f = 8) → mv_i h' o f = mv_i h o f) (em : mv_i h' 22 8 = nI (M.length + 1)) (ea : ∀ o, ¬ (23 ≤ o ∧ o ≤ 26) → mv_a h' o = mv_a h o) (eb : mv_b h' 6 = mv_b h 6) (el : ∀ o i, 23 ≤ o → o ≤ 26 → i < M.length → mv_a h' o i = mv_a h o i) (hk : k < 400) (hc : c ≤ 40000) (e23 : mv_a h' 23 M.length = nI k) (e24 : mv_a h' 24 M.length = nI t) (ht : t < 32770) (e25 : (k = 123 ∨ (211 ≤ k ∧ k ≤ 216)) → mv_a h' 25 M.length = nI c) (e91 : k = 91 → ∃ u, mv_a h' 25 M.length = nI u ∧ u < 64 ∧ mv_a h (P + 1) u = nI c) (e63 : k = 63 ∨ k = 58 → (mv_a h' 25 M.length).toInt < 32768 ∧ mv_a h' 26 M.length = nI q ∧ q ≤ 500000000) : CXq X J P h' j d (⟨k, c, q⟩ :: M) H := by
  have hpp := C.pp
  refine ⟨C.tb.fr (ea 4 (by omega)) (ea 5 (by omega)) eb, hpp, (ei 3 7 (by omega)).trans C.at', C.jJ, (ei 3 8 (by omega)).trans C.dp, C.d2, (ei 3 9 (by omega)).trans C.ok, (ei 21 0 (by omega)).trans C.no, em, ?_, (ei 22 10 (by omega)).trans C.hl, ?_, C.sm, ?_⟩
  · refine ⟨⟨e23, hk, hc, ⟨t, e24, ht⟩, e25, fun z => ?_, e63⟩, ?_⟩
    · obtain ⟨u, u1, u2, u3⟩ := e91 z
      exact ⟨u, u1, u2, by rw [ea (P + 1) (by omega)]; exact u3⟩
    · exact MR.fr (h := h) (ea (P + 1) (by omega)) C.mr (fun i hi => ⟨el 23 i (by omega) (by omega) hi, el 24 i (by omega) (by omega) hi, el 25 i (by omega) (by omega) hi, el 26 i (by omega) (by omega) hi⟩)
  · exact HR.fr (h := h) C.hr (fun i _ => by rw [ea 27 (by omega)])
  · obtain ⟨z, e, hz⟩ := C.sz
    exact ⟨z, (ei P 17 (by omega)).trans e, hz⟩
/-- what mark writes -/
theorem CXq.mk0 (C : CXq X J P h j d M H) (hM : M.length ≤ 1000) (x : Int32) (t : Int32) : ∃ h', f_Exprs_mark h x t = some h' ∧ (∀ o f, ¬ (o = 22 ∧ f = 8) → mv_i h' o f = mv_i h o f) ∧ mv_i h' 22 8 = nI (M.length + 1) ∧ (∀ o, ¬ (23 ≤ o ∧ o ≤ 25) → mv_a h' o = mv_a h o) ∧ h'.2.2.2.2 = h.2.2.2.2 ∧ (∀ o i, ¬ i = M.length → mv_a h' o i = mv_a h o i) ∧ mv_a h' 23 M.length = x ∧ mv_a h' 24 M.length = t ∧ mv_a h' 25 M.length = 0 := by
  refine ⟨mv_si (mv_sa (mv_sa (mv_sa h 23 M.length x) 24 M.length t) 25 M.length 0) 22 8 (nI (M.length + 1)), ?_, fun o f q => mv_u_ne (mv_i h) _ q, rfl, fun o ho => ?_, rfl, fun o i hi => ?_, ?_, ?_, ?_⟩
  · unfold f_Exprs_mark
    have s : ∀ g o k x, mv_i (mv_sa g o k x) = mv_i g := fun _ _ _ _ => rfl
    simp only [xk_s, s, C.ml]
    rw [xvi_n (by omega) (by decide), cln (by omega), nI1 (by omega)]
    rfl
  · funext i
    show (if o = 25 ∧ i = M.length then (0 : Int32) else if o = 24 ∧ i = M.length then t else if o = 23 ∧ i = M.length then x else mv_a h o i) = _
    rw [if_neg (by omega), if_neg (by omega), if_neg (by omega)]
  · show (if o = 25 ∧ i = M.length then (0 : Int32) else if o = 24 ∧ i = M.length then t else if o = 23 ∧ i = M.length then x else mv_a h o i) = _
    rw [if_neg (by omega), if_neg (by omega), if_neg (by omega)]
  · show (if 23 = 25 ∧ M.length = M.length then (0 : Int32) else if 23 = 24 ∧ M.length = M.length then t else if 23 = 23 ∧ M.length = M.length then x else mv_a h 23 M.length) = _
    rw [if_neg (by omega), if_neg (by omega), if_pos ⟨rfl, rfl⟩]
  · show (if 24 = 25 ∧ M.length = M.length then (0 : Int32) else if 24 = 24 ∧ M.length = M.length then t else if 24 = 23 ∧ M.length = M.length then x else mv_a h 24 M.length) = _
    rw [if_neg (by omega), if_pos ⟨rfl, rfl⟩]
  · show (if 25 = 25 ∧ M.length = M.length then (0 : Int32) else if 25 = 24 ∧ M.length = M.length then t else if 25 = 23 ∧ M.length = M.length then x else mv_a h 25 M.length) = _
    rw [if_pos ⟨rfl, rfl⟩]
/-- a call -/
theorem cal_C (C : CXq X J P h j d M H) {o : OuA} (hM : M.length ≤ 1000) (hJ : X.kd J = 1 ∨ X.kd J = 2) : ∃ h', f_Exprs_call h (nI (X.kd j)) = some h' ∧ match (if 211 ≤ X.kd j ∧ X.kd j ≤ 216 then (if X.kd (j + 1) = 40 ∧ d < 60 then some (CfA.mk 2 (j + 2) (d + 1) (⟨X.kd j, 0, 0⟩ :: M) H o) else none) else none) with
    | some c => CXq X J P h' c.j c.d c.M c.H
    | none => Fl h' := by
  have hb := C.jb
  have hk := (C.tb.k j C.jJ).2
  have hl : nI (X.kd j) < (211 : Int32) ↔ X.kd j < 211 := by
    have := nIle (a := 211) (b := X.kd j) (by omega) (by omega)
    constructor
    · intro z
      by_cases c : X.kd j < 211
      · exact c
      · exact absurd (this.mpr (by omega)) (Int32.not_le.mpr z)
    · intro z; exact Int32.not_le.mp (fun y => by have := this.mp y; omega)
  have hu : nI (X.kd j) ≤ (216 : Int32) ↔ X.kd j ≤ 216 := nIle (b := 216) (by omega) (by omega)
  have wr : ∃ h', f_Exprs_call_14 h = some h' ∧ Fl h' := by
    obtain ⟨h1, e1, E1, w1, -, -, -⟩ := C.f.wr C.pl
    unfold f_Exprs_call_14
    rw [e1, xhv_s]; exact ⟨h1, rfl, Or.inl w1⟩
  unfold f_Exprs_call
  by_cases c1 : X.kd j < 211
  · rw [if_pos (hl.mpr c1), if_neg (by omega)]; exact wr
  rw [if_neg (fun z => c1 (hl.mp z))]
  by_cases c2 : X.kd j ≤ 216
  rotate_left
  · rw [if_neg (fun z => c2 (hu.mp z)), if_neg (by omega)]; exact wr
  rw [if_pos (hu.mpr c2), if_pos ⟨by omega, c2⟩, C.tk rfl, xhb_s]
  have hj1 := nxJ hJ C.jJ (by omega) (by omega)
  have C1 := C.nx hj1
  obtain ⟨e2, C2⟩ := C1.mark hM (k := X.kd j) (t := j + 1) (by omega) (by omega) (by omega)
  rw [e2, xhv_s]
  by_cases c3 : X.kd (j + 1) = 40 ∧ d < 60
  · have hj2 := nxJ hJ hj1 (by omega) (by omega)
    obtain ⟨h3, e3, C3⟩ := C2.op c3.1 c3.2 hj2
    rw [show (40 : Int32) = nI 40 from rfl, e3, xhb_s, if_pos c3]
    exact ⟨h3, rfl, C3⟩
  · obtain ⟨h3, e3, E3, w3⟩ := C2.ob (k := 40) (by omega) (by omega) c3
    rw [show (40 : Int32) = nI 40 from rfl, e3, xhb_s, if_neg c3]
    exact ⟨h3, rfl, Or.inl w3⟩
end PSH
/-- what the name at token i means to the class -/
def NVi (X : TX) (P : Nat) (h : mv_H) (lk : LK) (i : Nat) : Prop := ∃ sy lt, mv_b h 6 (i + 1) = nJ sy ∧ sy < 16440 ∧ lt < 128 ∧ (∀ g : mv_H, mv_a g 8 = mv_a h 8 → mv_a g 9 = mv_a h 9 → f_Symbols_letter g (nI sy) = some (nI lt, g)) ∧
  ((¬ mv_a h 17 lt ≤ 0 ∧ ∃ w, lk (X.nm i) = (3, w) ∧ 0 < w ∧ w ≤ 40000 ∧ ∀ g : mv_H, f_Long_bitCount g (mv_b h 18 lt) = some (nI w, g)) ∨
   (mv_a h 17 lt ≤ 0 ∧ ((mv_a h 14 sy = 0 ∧ (lk (X.nm i)).1 = 0) ∨
     (∃ v u w, (v = 1 ∨ v = 2) ∧ mv_a h 14 sy = nI v ∧ mv_a h 15 sy = nI u ∧ u < 64 ∧ mv_a h (P + 1) u = nI w ∧ lk (X.nm i) = (v, w) ∧ 0 < w ∧ w ≤ 40000) ∨
     (∃ u w, mv_a h 14 sy = 3 ∧ mv_a h 15 sy = nI u ∧ u < 64 ∧ mv_a h 20 u = nI w ∧ lk (X.nm i) = (3, w) ∧ 0 < w ∧ w ≤ 40000))))
section NMC
variable {X : TX} {J P : Nat} {h : mv_H} {j d : Nat} {M : List MkA} {H : List Nat} {o : OuA} (C : CXq X J P h j d M H)
theorem nam_C (C : CXq X J P h j d M H) (hM : M.length ≤ 1000) (hH : H.length < 1024) (hk : X.kd j = 3) (hJ : X.kd J = 1 ∨ X.kd J = 2) (h36 : mv_i h 3 6 = nI (J + 2)) (V : NVi X P h o.lk j) : ∃ v h', f_Exprs_name P h = some (v, h') ∧ match (if (o.lk (X.nm j)).1 = 2 ∧ X.kd (j + 1) = 91 then (if d < 60 then some (CfA.mk 2 (j + 2) (d + 1) (⟨91, (o.lk (X.nm j)).2, 0⟩ :: M) H o) else none) else if (o.lk (X.nm j)).1 = 3 ∨ (o.lk (X.nm j)).1 = 1 then some ⟨3, j + 1, d, M, (o.lk (X.nm j)).2 :: H, o⟩ else none) with
    | some c => CXq X J P h' c.j c.d c.M c.H ∧ v = (if c.md = 3 then 1 else 0)
    | none => Fl h' ∧ (v = 0 ∨ v = 1) := by
  have hb := C.jb
  have hpp := C.pp
  have hjb := C.tb.jb
  have hj1 := nxJ hJ C.jJ (by omega) (by omega)
  have C1 := C.nx hj1
  have hkb : f_Tokens_kindBehind h = some (nI (X.kd (j + 1)), h) := by
    unfold f_Tokens_kindBehind
    rw [h36, C.at', nI1 (by omega), if_neg (fun z => by have := (nIle (by omega) (by omega)).mp z; omega), xvi_n (by omega) (by decide), cond_true, cln (by omega), (C.tb.k (j + 1) hj1).1]
  have hk1 := (C.tb.k (j + 1) hj1).2
  obtain ⟨sy, lt, v1, v2, v3, v4, v5⟩ := V
  unfold f_Exprs_name
  rw [hkb, xhb_s]
  -- both roads at once
  have e17 : (if nI (X.kd (j + 1)) = (91 : Int32) then f_Exprs_name_17 P 1 h else f_Exprs_name_17 P 0 h) = f_Exprs_name_17 P (b01 (decide (X.kd (j + 1) = 91))) h := by
    by_cases z : X.kd (j + 1) = 91
    · rw [if_pos (by rw [z]; rfl), decide_eq_true z]; rfl
    · rw [if_neg (show ¬ nI (X.kd (j + 1)) = (91 : Int32) from fun y => z ((nIinj (b := 91) (by omega) (by omega)).mp y)), decide_eq_false z]; rfl
  rw [e17]
  unfold f_Exprs_name_17
  have eb : mv_b (mv_si h 3 7 (nI (j + 2))) 6 (j + 1) = nJ sy := v1
  have el : f_Symbols_letter (mv_si h 3 7 (nI (j + 2))) (nI sy) = some (nI lt, mv_si h 3 7 (nI (j + 2))) := v4 _ rfl rfl
  rw [show f_Tokens_take h 3 = _ from C.tk hk, xhb_s, xvi_n (show j + 1 < 32770 by omega) (by decide), cond_true, cln (by omega), eb, nJi (by omega)]
  have ek : f_Names_kindOf (mv_si h 3 7 (nI (j + 2))) (nI sy) = some ((if mv_a h 17 lt ≤ 0 then mv_a h 14 sy else 4), mv_si h 3 7 (nI (j + 2))) := by
    unfold f_Names_kindOf
    rw [el, xhb_s, xvi_n v3 (by decide), cond_true, cln (by omega), xvi_n (show sy < 16448 by omega) (by decide), cond_true, cln (by omega)]
    show (if mv_a h 17 lt ≤ 0 then some (mv_a h 14 sy, _) else some (4, _)) = _
    split <;> rfl
  rw [ek, xhb_s, xvi_n (show sy < 16448 by omega) (by decide), cond_true, cln (show sy < 2147483648 by omega)]
  have e15 : mv_a (mv_si h 3 7 (nI (j + 2))) 15 sy = mv_a h 15 sy := rfl
  rw [e15]
  -- a value held
  have val : ∀ (g : mv_H) (w : Nat), CXq X J P g (j + 1) d M H → 0 < w → w ≤ 40000 → ∃ h', (xhv (f_Exprs_hold g (nI w)) fun g' => f_Exprs_name_233 P g') = some (1, h') ∧ CXq X J P h' (j + 1) d M (w :: H) := fun g w Cg w1 w2 => by
    have hs := Cg.sm
    have hs0 := C.sm
    obtain ⟨h5, e5, C5⟩ := Cg.hold hH (w := w) w1 (by omega)
    rw [e5, xhv_s]
    unfold f_Exprs_name_233
    rw [xz1']
    exact ⟨h5, rfl, C5⟩
  have bad : ∀ x3 x4 x5, ¬ x4 = (4 : Int32) → ¬ x4 = (3 : Int32) → ¬ x4 = (1 : Int32) → ∃ h', f_Exprs_name_99 P (nI (j + 1)) x3 x4 x5 (mv_si h 3 7 (nI (j + 2))) = some (1, h') ∧ Fl h' := fun x3 x4 x5 n4 n3 n1 => by
    unfold f_Exprs_name_99
    rw [if_neg n4, if_neg n3, if_neg n1]
    obtain ⟨h2, e2, E2, -, F2, -, -⟩ := tell_f C1.f (t := j + 1) (by omega) (x := 2) (by decide)
    obtain ⟨e3, -, F3⟩ := hold_f E2 hH 0
    rw [e2, xhv_s, e3, xhv_s]
    unfold f_Exprs_name_233
    rw [xz1']
    exact ⟨_, rfl, F3 F2⟩
  rcases v5 with ⟨w17, w, w1, w2, w3, w4⟩ | ⟨w17, v5⟩
  · -- a letter of the code
    rw [if_neg w17, if_neg (show ¬ (4 : Int32) = 2 by decide), w1, if_neg (by simp [MkA.k, MkA.c, MkA.q]), if_pos (by simp [MkA.k, MkA.c, MkA.q])]
    unfold f_Exprs_name_99
    have em : f_Names_maskOf (mv_si h 3 7 (nI (j + 2))) (nI sy) = some (mv_b h 18 lt, mv_si h 3 7 (nI (j + 2))) := by
      unfold f_Names_maskOf
      rw [el, xhb_s, xvi_n v3 (by decide), cond_true, cln (by omega)]
      rfl
    obtain ⟨x, g1, e1, -, C2, -, -, -⟩ := C1.emit 301 (mv_b h 18 lt)
    rw [if_pos rfl, em, xhb_s, e1, xhb_s, w4, xhb_s]
    obtain ⟨h5, e5, C5⟩ := val g1 w C2 w2 w3
    exact ⟨1, h5, e5, C5, rfl⟩
  rw [if_pos w17]
  rcases v5 with ⟨u1, u2⟩ | ⟨v, u, w, u1, u2, u3, u4, u5, u6, u7, u8⟩ | ⟨u, w, u2, u3, u4, u5, u6, u7, u8⟩
  · -- unknown
    rw [u1, if_neg (show ¬ (0 : Int32) = 2 by decide), if_neg (by omega), if_neg (by omega)]
    obtain ⟨h', e, F⟩ := bad (nI sy) 0 (mv_a h 15 sy) (by decide) (by decide) (by decide)
    exact ⟨1, h', e, F, Or.inr rfl⟩
  · rw [u2, u3, u6]
    rcases u1 with e | e
    · -- a register
      subst e
      rw [if_neg (show ¬ nI 1 = (2 : Int32) by decide), if_neg (by simp [MkA.k, MkA.c, MkA.q]), if_pos (by simp [MkA.k, MkA.c, MkA.q])]
      unfold f_Exprs_name_99
      rw [if_neg (show ¬ nI 1 = (4 : Int32) by decide), if_neg (show ¬ nI 1 = (3 : Int32) by decide), if_pos (show nI 1 = (1 : Int32) from rfl), xvi_n (show u < 64 by omega) (by decide), cond_true, cln (by omega)]
      obtain ⟨x, g1, e1, -, C2, -, ea, -⟩ := C1.emit 303 ((mv_a (mv_si h 3 7 (nI (j + 2))) (P + 3) u).toInt64)
      rw [e1, xhb_s, cond_true]
      have ew : mv_a g1 (P + 1) u = nI w := by rw [ea (P + 1) (by omega)]; exact u5
      rw [ew]
      obtain ⟨h5, e5, C5⟩ := val g1 w C2 u7 u8
      exact ⟨1, h5, e5, C5, rfl⟩
    · -- a file
      subst e
      rw [if_pos (show nI 2 = (2 : Int32) from rfl)]
      by_cases k91 : X.kd (j + 1) = 91
      rotate_left
      · rw [decide_eq_false k91, if_pos (show b01 false = 0 from rfl), if_neg (fun z => k91 z.2), if_neg (by simp [MkA.k, MkA.c, MkA.q])]
        obtain ⟨h', e, F⟩ := bad (nI sy) (nI 2) (nI u) (by decide) (by decide) (by decide)
        exact ⟨1, h', e, F, Or.inr rfl⟩
      rw [decide_eq_true k91, if_neg (show ¬ b01 true = 0 by decide), if_pos ⟨rfl, k91⟩]
      by_cases d60 : d < 60
      · have hj2 := nxJ hJ hj1 (by omega) (by omega)
        obtain ⟨h2, e2, C2⟩ := C1.op k91 d60 hj2
        obtain ⟨h3, e3, i3, m3, a3, b3, l3, r23, r24, r25⟩ := C2.mk0 hM (nI 91) (nI (j + 1 + 1))
        have em : mv_i h3 22 8 - 1 = nI M.length := by rw [m3]; exact nIsub (a := M.length + 1) (b := 1) (by omega) (by omega)
        rw [show (91 : Int32) = nI 91 from rfl, e2, xhb_s, e3, xhv_s, em, xvi_n (show M.length < 1024 by omega) (by decide), cond_true, xk_s, xz0, cond_true, cln (by omega), if_pos d60]
        have e2a : ∀ r, mv_a h2 r = mv_a h r := by
          intro r
          have : h2 = mv_si (mv_si (mv_si h 3 7 (nI (j + 2))) 3 8 (nI (d + 1))) 3 7 (nI (j + 1 + 2)) := by
            have q := open_c C1.at' (by omega) C1.lt (nI 91) (by rw [C1.dp]; exact fun z => by have := (nIinj (b := 60) (by omega) (by omega)).mp z; omega)
            rw [e2, (C1.tb.k (j + 1) C1.jJ).1, if_pos (by rw [k91]), show mv_i (mv_si h 3 7 (nI (j + 2))) 3 8 + 1 = nI (d + 1) by rw [C1.dp, nI1 (by omega)]] at q
            exact (Prod.mk.inj (Option.some.inj q)).2
          rw [this]; rfl
        refine ⟨0, _, rfl, ?_, rfl⟩
        have s25 : ∀ r i, mv_a (mv_sa h3 25 M.length (nI u)) r i = if r = 25 ∧ i = M.length then nI u else mv_a h3 r i := fun _ _ => rfl
        refine C2.push (c := w) (t := j + 1 + 1) i3 m3 (fun r hr => ?_) (congrFun b3 6) (fun r i h1 h2' hi => ?_) (by omega) u8 ?_ ?_ (by omega) (fun z => by omega) (fun _ => ⟨u, ?_, u4, ?_⟩) (fun z => by omega)
        · funext i
          rw [s25, if_neg (by omega), a3 r (by omega)]
        · rw [s25, if_neg (by omega)]; exact l3 r i (by omega)
        · rw [s25, if_neg (by omega)]; exact r23
        · rw [s25, if_neg (by omega)]; exact r24
        · rw [s25, if_pos ⟨rfl, rfl⟩]
        · rw [e2a]; exact u5
      · rw [if_neg d60]
        obtain ⟨h2, e2, E2, w2⟩ := C1.ob (k := 91) (by omega) (by omega) (fun z => d60 z.2)
        obtain ⟨h3, e3, E3, -, F3⟩ := mark_f E2 (by omega) (nI 91) 0
        have em : mv_i h3 22 8 - 1 = nI M.length := by rw [E3.ml]; exact nIsub (a := M.length + 1) (b := 1) (by omega) (by omega)
        rw [show (91 : Int32) = nI 91 from rfl, e2, xhb_s, e3, xhv_s, em, xvi_n (show M.length < 1024 by omega) (by decide), cond_true, xk_s, xz0, cond_true]
        exact ⟨0, _, rfl, F3 (Or.inl w2), Or.inl rfl⟩
  · -- a let
    rw [u2, u3, u6, if_neg (show ¬ (3 : Int32) = 2 by decide), if_neg (by simp [MkA.k, MkA.c, MkA.q]), if_pos (by simp [MkA.k, MkA.c, MkA.q])]
    unfold f_Exprs_name_99
    rw [if_neg (show ¬ (3 : Int32) = 4 by decide), if_pos rfl]
    obtain ⟨x, g1, e1, -, C2, -, ea, -⟩ := C1.emit 302 ((nI u).toInt64)
    rw [e1, xhb_s, xvi_n (show u < 64 by omega) (by decide), cond_true, cln (by omega)]
    have ew : mv_a g1 20 u = nI w := by rw [ea 20 (by omega)]; exact u5
    rw [ew]
    obtain ⟨h5, e5, C5⟩ := val g1 w C2 u7 u8
    exact ⟨1, h5, e5, C5, rfl⟩
/-- a turn where a UNARY is due -/
theorem opr_C (C : CXq X J P h j d M H) (hM : M.length ≤ 1000) (hH : H.length < 1024) (hJ : X.kd J = 1 ∨ X.kd J = 2) (h36 : mv_i h 3 6 = nI (J + 2)) (V : X.kd j = 3 → NVi X P h o.lk j) : ∃ v h', f_Exprs_operand P h = some (v, h') ∧ match aOp X j d M H o with
    | some c => CXq X J P h' c.j c.d c.M c.H ∧ v = (if c.md = 3 then 1 else 0)
    | none => Fl h' ∧ (v = 0 ∨ v = 1) := by
  have hk := (C.tb.k j C.jJ).2
  have t3 : (nI (X.kd j)).toInt = 3 ↔ X.kd j = 3 := by rw [nIi (by omega)]; omega
  have t4 : (nI (X.kd j)).toInt = 4 ↔ X.kd j = 4 := by rw [nIi (by omega)]; omega
  have t33 : (nI (X.kd j)).toInt = 33 ↔ X.kd j = 33 := by rw [nIi (by omega)]; omega
  have t40 : (nI (X.kd j)).toInt = 40 ↔ X.kd j = 40 := by rw [nIi (by omega)]; omega
  have t45 : (nI (X.kd j)).toInt = 45 ↔ X.kd j = 45 := by rw [nIi (by omega)]; omega
  have t123 : (nI (X.kd j)).toInt = 123 ↔ X.kd j = 123 := by rw [nIi (by omega)]; omega
  have t126 : (nI (X.kd j)).toInt = 126 ↔ X.kd j = 126 := by rw [nIi (by omega)]; omega
  unfold f_Exprs_operand f_Exprs_operand_127 aOp
  rw [C.kd, xhb_s, xz0, xz1']
  simp only [cond_true]
  have sgn : ∀ mk : Nat, mk < 400 → (¬ mk = 91 ∧ ¬ mk = 63 ∧ ¬ mk = 58) → ¬ X.kd j = 1 ∧ ¬ X.kd j = 2 → 0 < X.kd j → ∃ v h', (xhb (f_Tokens_open h (nI (X.kd j))) fun v g => xhv (f_Exprs_mark g (nI mk) v) fun g' => (some ((0 : Int32), g') : Option (Int32 × mv_H))) = some (v, h') ∧ match (if d < 60 then some (CfA.mk 2 (j + 1) (d + 1) (⟨mk, 0, 0⟩ :: M) H o) else none) with
      | some c => CXq X J P h' c.j c.d c.M c.H ∧ v = (if c.md = 3 then 1 else 0)
      | none => Fl h' ∧ (v = 0 ∨ v = 1) := fun mk m1 m2 m3 m4 => by
    obtain ⟨h', e, r⟩ := C.opn hM (k := X.kd j) (mk := mk) rfl m3 ⟨m4, by omega⟩ m1 m2 hJ
    refine ⟨0, h', e, ?_⟩
    rcases r with ⟨r1, r2⟩ | ⟨r1, r2⟩
    · rw [if_pos r1]; exact ⟨r2, rfl⟩
    · rw [if_neg r1]; exact ⟨r2, Or.inl rfl⟩
  by_cases k3 : X.kd j = 3
  · rw [if_pos (t3.mpr k3), if_neg (by omega), if_neg (by omega), if_neg (by omega), if_neg (by omega), if_neg (by omega), if_pos k3]
    obtain ⟨v, h', e, r⟩ := nam_C C hM hH k3 hJ h36 (V k3)
    have hv : v = 0 ∨ v = 1 := by
      revert r
      generalize (if (o.lk (X.nm j)).1 = 2 ∧ X.kd (j + 1) = 91 then (if d < 60 then some (CfA.mk 2 (j + 2) (d + 1) (⟨91, (o.lk (X.nm j)).2, 0⟩ :: M) H o) else none) else if (o.lk (X.nm j)).1 = 3 ∨ (o.lk (X.nm j)).1 = 1 then some ⟨3, j + 1, d, M, (o.lk (X.nm j)).2 :: H, o⟩ else none) = z
      intro r
      cases z with
      | none => exact r.2
      | some c =>
        by_cases y : c.md = 3
        · have := r.2; rw [if_pos y] at this; exact Or.inr this
        · have := r.2; rw [if_neg y] at this; exact Or.inl this
    rw [e, xhb_s]
    have ez : xzb v = true := by rcases hv with hv | hv <;> rw [hv] <;> rfl
    rw [ez, cond_true]
    exact ⟨v, h', rfl, r⟩
  rw [if_neg (fun z => k3 (t3.mp z))]
  by_cases k4 : X.kd j = 4
  · rw [if_pos (t4.mpr k4), if_neg (by omega), if_neg (by omega), if_neg (by omega), if_neg (by omega), if_pos k4]
    obtain ⟨h', e, r⟩ := lit_C (o := o) C hH k4 hJ
    rw [e, xhv_s]
    refine ⟨1, h', rfl, ?_⟩
    revert r
    by_cases z : X.kd (j + 1) = 39 ∧ X.kd (j + 2) = 4 ∧ 1 ≤ X.nu j ∧ X.nu j ≤ 64 ∧ X.nu (j + 2) < 2 ^ X.nu j
    · rw [if_pos z]; intro r; exact ⟨r, rfl⟩
    · rw [if_neg z]; intro r; exact ⟨r, Or.inr rfl⟩
  rw [if_neg (fun z => k4 (t4.mp z))]
  by_cases k33 : X.kd j = 33
  · rw [if_pos (t33.mpr k33), if_neg (by omega), if_neg (by omega), if_pos k33]
    exact sgn 307 (by omega) (by omega) (by omega) (by omega)
  rw [if_neg (fun z => k33 (t33.mp z))]
  by_cases k40 : X.kd j = 40
  · rw [if_pos (t40.mpr k40), if_neg (by omega), if_neg (by omega), if_neg k33, if_pos (Or.inl k40)]
    exact sgn (X.kd j) (by omega) (by omega) (by omega) (by omega)
  rw [if_neg (fun z => k40 (t40.mp z))]
  by_cases k45 : X.kd j = 45
  · rw [if_pos (t45.mpr k45), if_pos k45]
    exact sgn 305 (by omega) (by omega) (by omega) (by omega)
  rw [if_neg (fun z => k45 (t45.mp z)), if_neg k45]
  by_cases k123 : X.kd j = 123
  · rw [if_pos (t123.mpr k123), if_neg (by omega), if_neg k33, if_pos (Or.inr k123)]
    exact sgn (X.kd j) (by omega) (by omega) (by omega) (by omega)
  rw [if_neg (fun z => k123 (t123.mp z))]
  by_cases k126 : X.kd j = 126
  · rw [if_pos (t126.mpr k126), if_pos k126]
    exact sgn 306 (by omega) (by omega) (by omega) (by omega)
  rw [if_neg (fun z => k126 (t126.mp z)), if_neg k126, if_neg k33, if_neg (by omega), if_neg k4, if_neg k3]
  obtain ⟨h', e, r⟩ := cal_C (o := o) C hM hJ
  rw [e, xhv_s]
  refine ⟨0, h', rfl, ?_⟩
  revert r
  by_cases z : 211 ≤ X.kd j ∧ X.kd j ≤ 216
  · rw [if_pos z]
    by_cases y : X.kd (j + 1) = 40 ∧ d < 60
    · rw [if_pos y]; intro r; exact ⟨r, rfl⟩
    · rw [if_neg y]; intro r; exact ⟨r, Or.inl rfl⟩
  · rw [if_neg z]; intro r; exact ⟨r, Or.inl rfl⟩
end NMC
theorem xor63 {A : Nat} (hA : A < 18446744073709551616) : A ^^^ 9223372036854775808 = (A + 9223372036854775808) % 18446744073709551616 := by
  rw [show (9223372036854775808 : Nat) = 2 ^ 63 from rfl, show (18446744073709551616 : Nat) = 2 ^ 64 from rfl, Nat.add_comm A]
  apply Nat.eq_of_testBit_eq
  intro i
  rw [Nat.testBit_xor, Nat.testBit_two_pow, Nat.testBit_mod_two_pow]
  by_cases c : i < 63
  · rw [Nat.testBit_two_pow_add_gt c, decide_eq_false (show ¬ 63 = i by omega), decide_eq_true (show i < 64 by omega)]
    cases A.testBit i <;> rfl
  · by_cases e : i = 63
    · rw [e, Nat.testBit_two_pow_add_eq]
      cases A.testBit 63 <;> rfl
    · have : A.testBit i = false := Nat.testBit_lt_two_pow (Nat.lt_of_lt_of_le (show A < 2 ^ 64 from hA) (Nat.pow_le_pow_right (by omega) (by omega)))
      rw [this, decide_eq_false (show ¬ 63 = i by omega), decide_eq_false (show ¬ i < 64 by omega)]
      rfl
theorem bel_C (h : mv_H) {A B : Nat} (hA : A < 18446744073709551616) (hB : B < 18446744073709551616) : f_Bits_below h (nJ A) (nJ B) = some (b01 (decide (A < B)), h) := by
  unfold f_Bits_below
  rw [show (-9223372036854775808 : Int64) = nJ 9223372036854775808 from rfl, xJ_xor, xJ_xor, lc_v, xor63 hA, xor63 hB, ys_v, ys_v, xz0, xz1']
  have e1 : ((A + 9223372036854775808) % 18446744073709551616 + 9223372036854775808) % 18446744073709551616 = A := by omega
  have e2 : ((B + 9223372036854775808) % 18446744073709551616 + 9223372036854775808) % 18446744073709551616 = B := by omega
  rw [e1, e2]
  by_cases c : A < B
  · rw [decide_eq_true c, if_neg (show ¬ B < A by omega), if_neg (show ¬ A = B by omega)]; rfl
  · rw [decide_eq_false c]
    by_cases d : B < A
    · rw [if_pos d]; rfl
    · rw [if_neg d, if_pos (show A = B by omega)]; rfl
section PRT
variable {X : TX} {J P : Nat}
/-- the end of a part, in any state: high told (y0), low told (v6) -/
theorem p184 {g : mv_H} {a m k : Nat} (E : FXq X J P g a m k) (hk : k < 1024) (x6 : Int64) (y : Int32) : ∃ h', f_Exprs_part_184 P x6 y g = some h' ∧ (Fl g → Fl h') := by
  unfold f_Exprs_part_184
  obtain ⟨w, g1, e1, -, E1, F1, -, -, -⟩ := emit_f E 308 ((x6 &&& (255 : Int64)) ||| (((y).toInt64) <<< (((8 : Int32)).toInt64 &&& 63)))
  obtain ⟨e2, -, F2⟩ := hold_f E1 hk y
  rw [e1, xhb_s, e2, xhv_s]
  exact ⟨_, rfl, fun F => F2 (F1 F)⟩
theorem p146 {g : mv_H} {a m k : Nat} (E : FXq X J P g a m k) (hk : k < 1024) (x3 : Int32) (x4 x6 : Int64) (x8 x9 : Int32) : ∃ h', f_Exprs_part_146 P x3 x4 x6 x8 x9 g = some h' ∧ (Fl g → Fl h') := by
  unfold f_Exprs_part_146 f_Exprs_part_160 f_Exprs_part_165
  split
  · rw [if_neg n10]; exact p184 E hk _ _
  · split
    · split
      · rw [if_pos rfl]; exact p184 E hk _ _
      · rw [if_neg n10]; exact p184 E hk _ _
    · rw [if_neg n10]; exact p184 E hk _ _
theorem p113 {g : mv_H} {a m k : Nat} (E : FXq X J P g a m k) (hk : k < 1024) {t1 t2 : Nat} (h1 : t1 < 32770) (h2 : t2 < 32770) (x3 : Int32) (x4 x6 : Int64) (y0 : Int32) : ∃ h', f_Exprs_part_113 P (nI t1) (nI t2) x3 x4 x6 y0 g = some h' ∧ (Fl g → Fl h') ∧ (¬ y0 = 0 → Fl h') ∧ ((∃ g2, f_Bits_below g x4 x6 = some (1, g2)) → Fl h') := by
  have hb : ∃ v, (v = 0 ∨ v = 1) ∧ f_Bits_below g x4 x6 = some (v, g) := by
    unfold f_Bits_below
    rw [xz0, xz1']
    split
    · exact ⟨0, Or.inl rfl, rfl⟩
    · exact ⟨1, Or.inr rfl, rfl⟩
  obtain ⟨v, hv, eb⟩ := hb
  have g135 : ∀ (g0 : mv_H), FXq X J P g0 a m k → ∃ h', f_Exprs_part_135 P (nI t2) x3 x4 x6 y0 v g0 = some h' ∧ (Fl g0 → Fl h') ∧ (¬ v = 0 → Fl h') := fun g0 E0 => by
    unfold f_Exprs_part_135
    by_cases c : v = 0
    · rw [if_pos c]
      obtain ⟨h', e, F⟩ := p146 E0 hk x3 x4 x6 y0 v
      exact ⟨h', e, F, fun z => absurd c z⟩
    · rw [if_neg c]
      obtain ⟨h3, e3, E3, -, F3, -, -⟩ := tell_f E0 h2 (x := 3) (by decide)
      obtain ⟨h', e, F⟩ := p146 E3 hk x3 x4 x6 y0 v
      rw [e3, xhv_s]
      exact ⟨h', e, fun _ => F F3, fun _ => F F3⟩
  unfold f_Exprs_part_113
  rw [eb, xhb_s]
  have one : (∃ g2, some (v, g) = some ((1 : Int32), g2)) → ¬ v = 0 := fun ⟨g2, e⟩ z => by
    have := (Prod.mk.inj (Option.some.inj e)).1
    rw [z] at this; exact absurd this (by decide)
  by_cases c : y0 = 0
  · rw [if_pos c]
    obtain ⟨h', e, F, F'⟩ := g135 g E
    exact ⟨h', e, F, fun z => absurd c z, fun z => F' (one z)⟩
  · rw [if_neg c]
    obtain ⟨h3, e3, E3, -, F3, -, -⟩ := tell_f E h1 (x := 3) (by decide)
    obtain ⟨h', e, F, F'⟩ := g135 h3 E3
    rw [e3, xhv_s]
    exact ⟨h', e, fun _ => F F3, fun _ => F F3, fun _ => F F3⟩
/-- behind the ], the width released -/
def pT (P : Nat) (x1 x2 : Int32) (v11 : Int32) (A B : Int64) (g10 : mv_H) : Option mv_H := if v11 ≤ (0 : Int32) then (f_Exprs_part_112 P x1 x2 v11 A B g10) else (if (lg_cmp A (0 : Int64)) < (0 : Int32) then (f_Exprs_part_108 P x1 x2 v11 A B g10) else (if (lg_cmp A ((v11).toInt64)) < (0 : Int32) then (f_Exprs_part_112 P x1 x2 v11 A B g10) else (f_Exprs_part_108 P x1 x2 v11 A B g10)))
theorem pT_f {g : mv_H} {a m k : Nat} (E : FXq X J P g a m k) (hk : k < 1024) {t1 t2 : Nat} (h1 : t1 < 32770) (h2 : t2 < 32770) (v11 : Int32) (A B : Int64) : ∃ h', pT P (nI t1) (nI t2) v11 A B g = some h' ∧ (Fl g → Fl h') := by
  have q : ∀ y0, ∃ h', f_Exprs_part_113 P (nI t1) (nI t2) v11 A B y0 g = some h' ∧ (Fl g → Fl h') := fun y0 => by
    obtain ⟨h', e, F, -⟩ := p113 E hk h1 h2 v11 A B y0
    exact ⟨h', e, F⟩
  unfold pT f_Exprs_part_112 f_Exprs_part_108
  split
  · exact q 0
  · split
    · exact q 1
    · split
      · exact q 0
      · exact q 1
/-- the same, good -/
theorem pT_g {g : mv_H} {j d : Nat} {M : List MkA} {H : List Nat} {w A B t1 t2 : Nat} (C : CXq X J P g j d M H) (hH : H.length < 1024) (h1 : t1 < 32770) (h2 : t2 < 32770) (hw : 0 < w) (hw2 : w ≤ 500000000) (hs : w + sumL H ≤ 40000 * (j + 1)) (hA : A < 18446744073709551616) (hB : B < 18446744073709551616) : ∃ h', pT P (nI t1) (nI t2) (nI w) (nJ A) (nJ B) g = some h' ∧ ((A < w ∧ B ≤ A ∧ CXq X J P h' j d M ((A - B + 1) :: H)) ∨ (¬ (A < w ∧ B ≤ A) ∧ Fl h')) := by
  have eb := bel_C g hA hB
  have nw : ¬ nI w ≤ (0 : Int32) := fun z => by
    have := (nIle (b := 0) (by omega) (by decide)).mp (show nI w ≤ nI 0 from z)
    omega
  have cl : lg_cmp (nJ A) ((nI w).toInt64) < 0 ↔ (A < w ∨ 9223372036854775808 ≤ A) := by
    rw [xI_l, xi2l_s (by omega)]
    exact lc_lt hA (by omega)
  have bad : ¬ A < w → ∃ h', f_Exprs_part_108 P (nI t1) (nI t2) (nI w) (nJ A) (nJ B) g = some h' ∧ ((A < w ∧ B ≤ A ∧ CXq X J P h' j d M ((A - B + 1) :: H)) ∨ (¬ (A < w ∧ B ≤ A) ∧ Fl h')) := fun z => by
    obtain ⟨h', e, -, F, -⟩ := p113 C.f hH h1 h2 (nI w) (nJ A) (nJ B) 1
    exact ⟨h', e, Or.inr ⟨fun y => z y.1, F (by decide)⟩⟩
  unfold pT
  rw [if_neg nw]
  by_cases c1 : 9223372036854775808 ≤ A
  · rw [if_pos ((lc_neg hA).mpr c1)]
    exact bad (by omega)
  rw [if_neg (fun z => c1 ((lc_neg hA).mp z))]
  by_cases c2 : A < w
  rotate_left
  · rw [if_neg (fun z => by have := cl.mp z; omega)]
    exact bad c2
  rw [if_pos (cl.mpr (Or.inl c2))]
  by_cases c3 : B ≤ A
  rotate_left
  · unfold f_Exprs_part_112
    obtain ⟨h', e, -, -, F⟩ := p113 C.f hH h1 h2 (nI w) (nJ A) (nJ B) 0
    exact ⟨h', e, Or.inr ⟨fun y => c3 y.2, F ⟨g, by rw [eb, decide_eq_true (show A < B by omega)]; rfl⟩⟩⟩
  unfold f_Exprs_part_112 f_Exprs_part_113
  rw [eb, decide_eq_false (show ¬ A < B by omega), xhb_s, if_pos rfl]
  unfold f_Exprs_part_135 f_Exprs_part_146
  have nz : ¬ nI w = (0 : Int32) := fun z => nw (by rw [z]; decide)
  rw [if_pos (show b01 false = 0 from rfl), if_neg nz, if_pos rfl, if_pos (show b01 false = 0 from rfl)]
  unfold f_Exprs_part_165 f_Exprs_part_184
  have esub : (nJ A - nJ B).toInt32 + 1 = nI (A - B + 1) := by
    have e : nJ A - nJ B = nJ (A - B) := by
      rw [xJ_sub]
      apply xJ_eq
      unfold ysub
      omega
    rw [e, nJi (by omega), nI1 (by omega)]
  rw [if_pos rfl, esub]
  obtain ⟨x, g1, e1, -, C1, -, -, -⟩ := C.emit 308 ((nJ B &&& (255 : Int64)) ||| (((nI (A - B + 1)).toInt64) <<< (((8 : Int32)).toInt64 &&& 63)))
  obtain ⟨h5, e5, C5⟩ := C1.hold hH (w := A - B + 1) (by omega) (by omega)
  rw [e1, xhb_s, e5, xhv_s]
  exact ⟨h5, rfl, Or.inl ⟨c2, c3, C5⟩⟩
end PRT
section CLS
variable {X : TX} {J P : Nat} {h : mv_H} {j d : Nat} {M : List MkA} {H : List Nat} (C : CXq X J P h j (d + 1) M H)
theorem CXq.cl (C : CXq X J P h j (d + 1) M H) {k : Nat} (hk : X.kd j = k) (hj : j + 1 ≤ J) : ∃ h', f_Tokens_close h (nI k) = some (nI (j + 1), h') ∧ CXq X J P h' (j + 1) d M H := by
  have hd := C.d2
  have e8 : mv_i h 3 8 - 1 = nI d := by rw [C.dp]; exact nIsub (a := d + 1) (b := 1) (by omega) (by omega)
  refine ⟨mv_si (mv_si h 3 8 (nI d)) 3 7 (nI (j + 2)), ?_, (C.dd (d2 := d) (by omega)).nx hj⟩
  rw [close_c C.at' (by have := C.jb; omega) C.lt (nI k), (C.tb.k j C.jJ).1, if_pos (by rw [hk]), e8]
theorem CXq.cb (C : CXq X J P h j (d + 1) M H) {k : Nat} (hk3 : k < 400) (hb : ¬ X.kd j = k) : ∃ h', f_Tokens_close h (nI k) = some (0, h') ∧ FXq X J P h' (j + 1) M.length H.length ∧ 0 ≤ (mv_i h' 3 9).toInt := by
  have hpp := C.pp
  obtain ⟨q, e, hq⟩ := C.pl
  have := (C.tb.k j C.jJ).2
  refine ⟨_, by rw [close_c C.at' (by have := C.jb; omega) C.lt (nI k), (C.tb.k j C.jJ).1, if_neg (fun z => hb ((nIinj (by omega) (by omega)).mp z)), e], ?_, ?_⟩
  · exact (C.f.si (by omega) (by omega) (by omega) (by omega) _).si (by omega) (by omega) (by omega) (by omega) _
  · show 0 ≤ (nI q).toInt
    rw [nIi (by omega)]; omega
end CLS
section P52
variable {X : TX} {J P : Nat}
theorem p52_e (x1 x2 : Nat) (h1 : x1 < 32770) (h2 : x2 < 32770) (hz : mv_H) : f_Exprs_part_52 P (nI x1) (nI x2) hz = xhb (f_Tokens_close hz (93 : Int32)) fun v9 g8 => xhb (f_Exprs_release g8) fun v11 g10 => pT P (nI x1) (nI x2) v11 (mv_b g10 6 x1) (mv_b g10 6 x2) g10 := by
  unfold f_Exprs_part_52 pT
  rw [xvi_n h1 (by decide), xvi_n h2 (by decide)]
  simp only [cond_true]
  rw [cln (by omega), cln (by omega)]
theorem p52_f {g : mv_H} {a m k x1 x2 : Nat} (E : FXq X J P g a m (k + 1)) (hk : k < 1024) (hw : 0 ≤ (mv_i g 3 9).toInt) (h1 : x1 < 32770) (h2 : x2 < 32770) : ∃ h', f_Exprs_part_52 P (nI x1) (nI x2) g = some h' ∧ Fl h' := by
  obtain ⟨g1, e1, E1, w1⟩ := close_w E hw (t := 93) (by decide)
  obtain ⟨e2, E2, F2⟩ := rel_f E1 hk
  rw [p52_e x1 x2 h1 h2, e1, xhb_s, e2, xhb_s]
  obtain ⟨h', e, F⟩ := pT_f E2 hk h1 h2 (mv_a g1 27 k) (mv_b (mv_si g1 22 10 (nI k)) 6 x1) (mv_b (mv_si g1 22 10 (nI k)) 6 x2)
  exact ⟨h', e, F (F2 (Or.inl w1))⟩
theorem p52_g {g : mv_H} {i d w : Nat} {M : List MkA} {H : List Nat} {x1 x2 : Nat} (C : CXq X J P g i (d + 1) M (w :: H)) (hH : H.length < 1023) (hJ : X.kd J = 1 ∨ X.kd J = 2) (i1 : x1 ≤ J) (i2 : x2 ≤ J) (k1 : X.kd x1 = 4) (k2 : X.kd x2 = 4) : ∃ h', f_Exprs_part_52 P (nI (x1 + 1)) (nI (x2 + 1)) g = some h' ∧ ((X.kd i = 93 ∧ X.nu x1 < w ∧ X.nu x2 ≤ X.nu x1 ∧ CXq X J P h' (i + 1) d M ((X.nu x1 - X.nu x2 + 1) :: H)) ∨ (¬ (X.kd i = 93 ∧ X.nu x1 < w ∧ X.nu x2 ≤ X.nu x1) ∧ Fl h')) := by
  have hb := C.tb.jb
  rw [p52_e (x1 + 1) (x2 + 1) (by omega) (by omega)]
  by_cases c : X.kd i = 93
  rotate_left
  · obtain ⟨g1, e1, E1, w1⟩ := C.cb (k := 93) (by omega) c
    obtain ⟨e2, E2, F2⟩ := rel_f (k := H.length) E1 (by omega)
    rw [show f_Tokens_close g 93 = _ from e1, xhb_s, e2, xhb_s]
    obtain ⟨h', e, F⟩ := pT_f E2 (by omega) (show x1 + 1 < 32770 by omega) (show x2 + 1 < 32770 by omega) (mv_a g1 27 H.length) (mv_b (mv_si g1 22 10 (nI H.length)) 6 (x1 + 1)) (mv_b (mv_si g1 22 10 (nI H.length)) 6 (x2 + 1))
    exact ⟨h', e, Or.inr ⟨fun z => c z.1, F (F2 (Or.inl w1))⟩⟩
  have hi1 := nxJ hJ C.jJ (by omega) (by omega)
  obtain ⟨g1, e1, C1⟩ := C.cl c hi1
  obtain ⟨e2, C2, w1, w2, w3⟩ := C1.rel (by omega)
  rw [show f_Tokens_close g 93 = _ from e1, xhb_s, e2, xhb_s]
  have n1 := C2.tb.n x1 i1 k1
  have n2 := C2.tb.n x2 i2 k2
  rw [n1.1, n2.1]
  obtain ⟨h', e, r⟩ := pT_g C2 (by omega) (show x1 + 1 < 32770 by omega) (show x2 + 1 < 32770 by omega) w1 w2 w3 n1.2 n2.2
  refine ⟨h', e, ?_⟩
  rcases r with ⟨r1, r2, r3⟩ | ⟨r1, r2⟩
  · exact Or.inl ⟨c, r1, r2, r3⟩
  · exact Or.inr ⟨fun z => r1 z.2, r2⟩
/-- [h] or [h:l] -/
theorem prt_C {h : mv_H} {j d w : Nat} {M : List MkA} {H : List Nat} {o : OuA} (C : CXq X J P h j d M (w :: H)) (hH : H.length < 1000) (hJ : X.kd J = 1 ∨ X.kd J = 2) (hk : X.kd j = 91) : ∃ h', f_Exprs_part P h = some h' ∧ match aPk X j d M (w :: H) o with
    | some c => CXq X J P h' c.j c.d c.M c.H ∧ c.md = 3
    | none => Fl h' := by
  have hb := C.jb
  have hjb := C.tb.jb
  have ePk : aPk X j d M (w :: H) o = if d < 60 ∧ X.kd (j + 1) = 4 then (if X.kd (j + 2) = 58 then (if X.kd (j + 3) = 4 ∧ X.kd (j + 4) = 93 ∧ X.nu (j + 1) < w ∧ X.nu (j + 3) ≤ X.nu (j + 1) then some ⟨3, j + 5, d, M, (X.nu (j + 1) - X.nu (j + 3) + 1) :: H, o⟩ else none) else if X.kd (j + 2) = 93 ∧ X.nu (j + 1) < w then some ⟨3, j + 3, d, M, 1 :: H, o⟩ else none) else none := rfl
  rw [ePk]
  have hj1 := nxJ hJ C.jJ (by omega) (by omega)
  unfold f_Exprs_part
  -- wrong before the : or the ]
  have dead : ∀ (g : mv_H) (a t : Nat), t < 32770 → FXq X J P g a M.length (H.length + 1) → 0 ≤ (mv_i g 3 9).toInt → ∃ h', (xhb (f_Tokens_kind g) fun v19 g18 => if v19 = (58 : Int32) then (xhb (f_Tokens_take g18 (58 : Int32)) fun v21 g20 => xhb (f_Tokens_take g20 (4 : Int32)) fun v23 g22 => f_Exprs_part_52 P (nI t) v23 g22) else (f_Exprs_part_52 P (nI t) (nI t) g18)) = some h' ∧ Fl h' := fun g a t ht Eg wg => by
    rw [kind_w wg, xhb_s, if_neg (by decide)]
    exact p52_f Eg (by omega) wg ht ht
  by_cases d60 : d < 60
  rotate_left
  · obtain ⟨g1, e1, E1, w1⟩ := C.ob (k := 91) (by omega) (by omega) (fun z => d60 z.2)
    rw [show f_Tokens_open h 91 = _ from e1, xhb_s, take_w E1 w1 (by decide), xhb_s, if_neg (fun z => d60 z.1)]
    exact dead g1 (j + 1) 0 (by omega) E1 w1
  obtain ⟨g1, e1, C1⟩ := C.op hk d60 hj1
  rw [show f_Tokens_open h 91 = _ from e1, xhb_s]
  by_cases k4 : X.kd (j + 1) = 4
  rotate_left
  · obtain ⟨q, hq, e2⟩ := C1.tb' (k := 4) (by omega) k4
    have w2 : 0 ≤ (mv_i (mv_si g1 3 9 (nI q)) 3 9).toInt := by
      show 0 ≤ (nI q).toInt
      rw [nIi (by omega)]; omega
    have E2 : FXq X J P (mv_si g1 3 9 (nI q)) (j + 1 + 1) M.length (H.length + 1) := C1.f.si (by omega) (by omega) (by omega) (by have := C.pp; omega) _
    rw [show f_Tokens_take g1 4 = _ from e2, xhb_s, if_neg (fun z => k4 z.2)]
    exact dead _ _ 0 (by omega) E2 w2
  have hj2 := nxJ hJ hj1 (by omega) (by omega)
  have C2 := C1.nx hj2
  rw [show f_Tokens_take g1 4 = _ from C1.tk k4, xhb_s, C2.kd, xhb_s, if_pos (show d < 60 ∧ X.kd (j + 1) = 4 from ⟨d60, k4⟩)]
  have kb := (C.tb.k (j + 2) hj2).2
  by_cases c : X.kd (j + 2) = 58
  rotate_left
  · rw [if_neg (show ¬ nI (X.kd (j + 1 + 1)) = (58 : Int32) from fun z => c ((nIinj (b := 58) (by rw [show j + 1 + 1 = j + 2 from rfl]; omega) (by omega)).mp z)), if_neg c]
    obtain ⟨h', e, r⟩ := p52_g (x1 := j + 1) (x2 := j + 1) C2 (by omega) hJ hj1 hj1 k4 k4
    refine ⟨h', e, ?_⟩
    rcases r with ⟨r1, r2, r3, r4⟩ | ⟨r1, r2⟩
    · have r1 : X.kd (j + 2) = 93 := r1
      rw [if_pos ⟨r1, r2⟩]
      rw [Nat.sub_self] at r4
      exact ⟨r4, rfl⟩
    · rw [if_neg (fun z => r1 ⟨z.1, z.2, Nat.le_refl _⟩)]
      exact r2
  rw [if_pos (show nI (X.kd (j + 1 + 1)) = (58 : Int32) by rw [show j + 1 + 1 = j + 2 from rfl, c]; rfl), if_pos c]
  have hj3 := nxJ hJ (j := j + 2) hj2 (by omega) (by omega)
  have C3 := C2.nx hj3
  rw [show f_Tokens_take (mv_si g1 3 7 (nI (j + 1 + 2))) 58 = _ from C2.tk c, xhb_s]
  by_cases k43 : X.kd (j + 3) = 4
  rotate_left
  · obtain ⟨q, hq, e4⟩ := C3.tb' (k := 4) (by omega) k43
    have w4 : 0 ≤ (mv_i (mv_si (mv_si (mv_si g1 3 7 (nI (j + 1 + 2))) 3 7 (nI (j + 1 + 1 + 2))) 3 9 (nI q)) 3 9).toInt := by
      show 0 ≤ (nI q).toInt
      rw [nIi (by omega)]; omega
    have E4 : FXq X J P (mv_si (mv_si (mv_si g1 3 7 (nI (j + 1 + 2))) 3 7 (nI (j + 1 + 1 + 2))) 3 9 (nI q)) (j + 1 + 1 + 1 + 1) M.length (H.length + 1) := C3.f.si (by omega) (by omega) (by omega) (by have := C.pp; omega) _
    rw [show f_Tokens_take (mv_si (mv_si g1 3 7 (nI (j + 1 + 2))) 3 7 (nI (j + 1 + 1 + 2))) 4 = _ from e4, xhb_s, if_neg (fun z => k43 z.1)]
    exact p52_f (x2 := 0) E4 (by omega) w4 (by omega) (by omega)
  have hj4 := nxJ hJ (j := j + 3) hj3 (by omega) (by omega)
  have C4 := C3.nx hj4
  rw [show f_Tokens_take (mv_si (mv_si g1 3 7 (nI (j + 1 + 2))) 3 7 (nI (j + 1 + 1 + 2))) 4 = _ from C3.tk k43, xhb_s]
  obtain ⟨h', e, r⟩ := p52_g (x1 := j + 1) (x2 := j + 3) C4 (by omega) hJ hj1 hj3 k4 k43
  refine ⟨h', e, ?_⟩
  rcases r with ⟨r1, r2, r3, r4⟩ | ⟨r1, r2⟩
  · have r1 : X.kd (j + 4) = 93 := r1
    rw [if_pos ⟨k43, r1, r2, r3⟩]
    exact ⟨r4, rfl⟩
  · rw [if_neg (fun z => r1 ⟨z.2.1, z.2.2⟩)]
    exact r2
end P52
