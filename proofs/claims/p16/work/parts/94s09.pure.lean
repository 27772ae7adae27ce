/-! rows s85 .. s93 -/
theorem lev_C (h : mv_H) {k : Nat} (hk : k < 400) : f_Exprs_levelOf h (nI k) = some (nI (lvq k), h) := by
  by_cases c1 : k = 37
  · subst c1; rfl
  by_cases c2 : k = 38
  · subst c2; rfl
  by_cases c3 : k = 42
  · subst c3; rfl
  by_cases c4 : k = 43
  · subst c4; rfl
  by_cases c5 : k = 45
  · subst c5; rfl
  by_cases c6 : k = 47
  · subst c6; rfl
  by_cases c7 : k = 60
  · subst c7; rfl
  by_cases c8 : k = 94
  · subst c8; rfl
  by_cases c9 : k = 124
  · subst c9; rfl
  by_cases d1 : k = 128
  · subst d1; rfl
  by_cases d2 : k = 129
  · subst d2; rfl
  by_cases d3 : k = 130
  · subst d3; rfl
  by_cases d4 : k = 131
  · subst d4; rfl
  by_cases d5 : k = 132
  · subst d5; rfl
  have e : lvq k = 0 := by
    unfold lvq
    rw [if_neg (by omega), if_neg (by omega), if_neg (by omega), if_neg (by omega), if_neg (by omega), if_neg (by omega), if_neg (by omega), if_neg (by omega)]
  unfold f_Exprs_levelOf
  rw [e, nIi (by omega), if_neg (by omega), if_neg (by omega), if_neg (by omega), if_neg (by omega), if_neg (by omega), if_neg (by omega), if_neg (by omega), if_neg (by omega), if_neg (by omega), if_neg (by omega), if_neg (by omega), if_neg (by omega), if_neg (by omega), if_neg (by omega)]
  rfl
theorem lev_t (h : mv_H) (x : Int32) : ∃ v, f_Exprs_levelOf h x = some (v, h) := by
  unfold f_Exprs_levelOf f_Exprs_levelOf_140 f_Exprs_levelOf_137 f_Exprs_levelOf_132 f_Exprs_levelOf_130 f_Exprs_levelOf_134
  have it : ∀ (p : Prop) [Decidable p] (x y : Option (Int32 × mv_H)), (∃ v, x = some (v, h)) → (∃ v, y = some (v, h)) → ∃ v, (if p then x else y) = some (v, h) := fun p _ x y a b => by
    by_cases c : p
    · rw [if_pos c]; exact a
    · rw [if_neg c]; exact b
  repeat' (first | exact ⟨_, rfl⟩ | apply it)
/-- the class in an EXPR, in any state, its marks in their rows -/
def FMq (X : TX) (J P : Nat) (h : mv_H) (a : Nat) (M : List MkA) (k : Nat) : Prop := (FXq X J P h a M.length k) ∧ (MR P h M)
theorem FMq.f {X : TX} {J P : Nat} {h : mv_H} {a : Nat} {M : List MkA} {k : Nat} (h99 : FMq X J P h a M k) : FXq X J P h a M.length k := h99.1
theorem FMq.mr {X : TX} {J P : Nat} {h : mv_H} {a : Nat} {M : List MkA} {k : Nat} (h99 : FMq X J P h a M k) : MR P h M := h99.2
theorem CXq.fm {X : TX} {J P : Nat} {h : mv_H} {j d : Nat} {M : List MkA} {H : List Nat} (C : CXq X J P h j d M H) : FMq X J P h (j + 1) M H.length := ⟨C.f, C.mr⟩
theorem pop22 (h : mv_H) (m : Nat) {o f : Nat} (ho : ¬ (o = 22 ∧ f = 8)) : mv_i (mv_si h 22 8 (nI m)) o f = mv_i h o f := mv_u_ne (mv_i h) _ ho
theorem CXq.pop {X : TX} {J P : Nat} {h : mv_H} {j d : Nat} {m : MkA} {M : List MkA} {H : List Nat} (C : CXq X J P h j d (m :: M) H) : CXq X J P (mv_si h 22 8 (nI M.length)) j d M H := ⟨
  C.tb.fr rfl rfl rfl,
  C.pp,
  C.at',
  C.jJ,
  C.dp,
  C.d2,
  C.ok,
  C.no,
  rfl,
  MR.fr (h := h) (h' := mv_si h 22 8 (nI M.length)) rfl C.mr.2 (fun i _ => ⟨rfl, rfl, rfl, rfl⟩),
  C.hl,
  C.hr.fr (fun _ _ => rfl),
  C.sm,
  by
    have hp := C.pp
    obtain ⟨z, e, hz⟩ := C.sz
    exact ⟨z, (mv_u_ne (mv_i h) _ (by omega)).trans e, hz⟩⟩
section FM
variable {X : TX} {J P : Nat} {h : mv_H} {a k : Nat} {M : List MkA}
theorem FMq.pop {m : MkA} (E : FMq X J P h a (m :: M) k) : FMq X J P (mv_si h 22 8 (nI M.length)) a M k := by
  have hp := E.f.pp
  refine ⟨⟨E.f.tb.fr rfl rfl rfl, hp, E.f.at', E.f.a2, rfl, E.f.hl, ?_⟩, MR.fr (h := h) (h' := mv_si h 22 8 (nI M.length)) rfl E.mr.2 (fun i _ => ⟨rfl, rfl, rfl, rfl⟩)⟩
  obtain ⟨z, e, hz⟩ := E.f.sz
  exact ⟨z, (mv_u_ne (mv_i h) _ (by omega)).trans e, hz⟩
theorem Fl.pop (F : Fl h) (m : Nat) : Fl (mv_si h 22 8 (nI m)) := F.si (by omega) (by omega) _
theorem FMq.dd (E : FMq X J P h a M k) (v : Int32) : FMq X J P (mv_si h 3 8 v) a M k := by
  have hp := E.f.pp
  exact ⟨E.f.si (by omega) (by omega) (by omega) (by omega) v, MR.fr (h := h) (h' := mv_si h 3 8 v) rfl E.mr (fun i _ => ⟨rfl, rfl, rfl, rfl⟩)⟩
theorem FMq.hold (E : FMq X J P h a M k) (hk : k < 1024) (x : Int32) : ∃ h', f_Exprs_hold h x = some h' ∧ FMq X J P h' a M (k + 1) ∧ (Fl h → Fl h') := by
  have hpp := E.f.pp
  obtain ⟨e, E1, F⟩ := hold_f E.f hk x
  exact ⟨_, e, ⟨E1, MR.fr (h := h) (a27 h _ _ _ (by omega)) E.mr (fun i _ => by rw [a27 h _ _ _ (show ¬ 23 = 27 by omega), a27 h _ _ _ (show ¬ 24 = 27 by omega), a27 h _ _ _ (show ¬ 25 = 27 by omega), a27 h _ _ _ (show ¬ 26 = 27 by omega)]; exact ⟨rfl, rfl, rfl, rfl⟩)⟩, F⟩
theorem FMq.rel (E : FMq X J P h a M (k + 1)) (hk : k < 1024) : f_Exprs_release h = some (mv_a h 27 k, mv_si h 22 10 (nI k)) ∧ FMq X J P (mv_si h 22 10 (nI k)) a M k ∧ (Fl h → Fl (mv_si h 22 10 (nI k))) := by
  obtain ⟨e, E1, F⟩ := rel_f E.f hk
  exact ⟨e, ⟨E1, MR.fr (h := h) (h' := mv_si h 22 10 (nI k)) rfl E.mr (fun i _ => ⟨rfl, rfl, rfl, rfl⟩)⟩, F⟩
theorem FMq.tell (E : FMq X J P h a M k) {t : Nat} (ht : t < 32770) {x : Int32} (hx : ¬ x = 0) : ∃ h', f_Exprs_tell h (nI t) x = some h' ∧ FMq X J P h' a M k ∧ Fl h' ∧ (∀ o, ¬ o = 21 → mv_i h' o = mv_i h o) ∧ h'.2 = h.2 := by
  obtain ⟨h', e, E1, -, F, ei, e2⟩ := tell_f E.f ht hx
  have ea : mv_a h' = mv_a h := by
    unfold mv_a
    rw [e2]
  exact ⟨h', e, ⟨E1, MR.fr (h := h) (by rw [ea]) E.mr (fun i _ => by rw [ea]; exact ⟨rfl, rfl, rfl, rfl⟩)⟩, F, ei, e2⟩
theorem FMq.emit (E : FMq X J P h a M k) (x : Int32) (y : Int64) : ∃ w h', f_Program_emit P h x y = some (w, h') ∧ w.toInt < 32768 ∧ FMq X J P h' a M k ∧ (Fl h → Fl h') ∧ (∀ o f, ¬ (o = P ∧ f = 17) → mv_i h' o f = mv_i h o f) ∧ (∀ o, ¬ o = P + 9 → mv_a h' o = mv_a h o) := by
  have hpp := E.f.pp
  obtain ⟨w, h', e, hw, E1, F, ei, ea, eb⟩ := emit_f E.f x y
  exact ⟨w, h', e, hw, ⟨E1, MR.fr (h := h) (ea (P + 1) (by omega)) E.mr (fun i _ => by rw [ea 23 (by omega), ea 24 (by omega), ea 25 (by omega), ea 26 (by omega)]; exact ⟨rfl, rfl, rfl, rfl⟩)⟩, F, ei, ea⟩
/-- two with a sign between them, in any state -/
theorem t93_f (E : FMq X J P h a M k) (hk : k < 1024) (x1 x4 : Int32) : ∃ h', f_Exprs_ofTwo_93 P x1 x4 h = some h' ∧ FMq X J P h' a M (k + 1) ∧ (Fl h → Fl h') := by
  have q : ∀ y, ∃ h', f_Exprs_ofTwo_125 P y h = some h' ∧ FMq X J P h' a M (k + 1) ∧ (Fl h → Fl h') := fun y => by
    obtain ⟨h', e, r⟩ := E.hold hk y
    unfold f_Exprs_ofTwo_125
    rw [e, xhv_s]
    exact ⟨h', rfl, r⟩
  obtain ⟨v, ev⟩ := lev_t h x1
  unfold f_Exprs_ofTwo_93 f_Exprs_ofTwo_119
  rw [ev, xhb_s]
  split
  · exact q 1
  split
  · exact q 1
  split
  · exact q 1
  · exact q x4
theorem t49_f (E : FMq X J P h a M k) (hk : k < 1024) {t : Nat} (ht : t < 32770) (x1 x3 x4 y0 : Int32) : ∃ h', f_Exprs_ofTwo_49 P x1 (nI t) x3 x4 y0 h = some h' ∧ FMq X J P h' a M (k + 1) ∧ (Fl h → Fl h') := by
  have q : ∃ h', f_Exprs_ofTwo_60 P h = some h' ∧ FMq X J P h' a M (k + 1) ∧ (Fl h → Fl h') := by
    obtain ⟨h', e, r⟩ := E.hold hk 0
    unfold f_Exprs_ofTwo_60
    rw [e, xhv_s]
    exact ⟨h', rfl, r⟩
  unfold f_Exprs_ofTwo_49
  split
  · exact q
  split
  · exact q
  split
  · exact t93_f E hk x1 x4
  split
  · obtain ⟨h1, e1, E1, F1, -⟩ := E.tell ht (x := 4) (by decide)
    obtain ⟨h2, e2, E2, F2⟩ := E1.hold hk 0
    rw [e1, xhv_s, e2, xhv_s]
    exact ⟨h2, rfl, E2, fun _ => F2 F1⟩
  · exact t93_f E hk x1 x4
theorem two_e (P : Nat) (x1 x2 x3 x4 : Int32) (g : mv_H) : (if x1 = (131 : Int32) then (f_Exprs_ofTwo_44 P x1 x2 x3 x4 g) else (if x1 = (132 : Int32) then (f_Exprs_ofTwo_44 P x1 x2 x3 x4 g) else (if x1 = (216 : Int32) then (f_Exprs_ofTwo_44 P x1 x2 x3 x4 g) else (f_Exprs_ofTwo_49 P x1 x2 x3 x4 (0 : Int32) g)))) = f_Exprs_ofTwo_49 P x1 x2 x3 x4 (if x1 = 131 ∨ x1 = 132 ∨ x1 = 216 then 1 else 0) g := by
  unfold f_Exprs_ofTwo_44
  by_cases c1 : x1 = 131
  · rw [if_pos c1, if_pos (Or.inl c1)]
  rw [if_neg c1]
  by_cases c2 : x1 = 132
  · rw [if_pos c2, if_pos (Or.inr (Or.inl c2))]
  rw [if_neg c2]
  by_cases c3 : x1 = 216
  · rw [if_pos c3, if_pos (Or.inr (Or.inr c3))]
  rw [if_neg c3, if_neg (fun z => z.elim c1 (fun z => z.elim c2 c3))]
theorem two_f (E : FMq X J P h a M (k + 2)) (hk : k + 1 < 1024) (x : Int32) {t : Nat} (ht : t < 32770) : ∃ h', f_Exprs_ofTwo P h x (nI t) = some h' ∧ FMq X J P h' a M (k + 1) ∧ (Fl h → Fl h') := by
  obtain ⟨e1, E1, F1⟩ := E.rel (k := k + 1) hk
  obtain ⟨e2, E2, F2⟩ := E1.rel (k := k) (by omega)
  obtain ⟨w, h3, e3, -, E3, F3, -, -⟩ := E2.emit x ((mv_a (mv_si h 22 10 (nI (k + 1))) 27 k).toInt64)
  unfold f_Exprs_ofTwo
  rw [e1, xhb_s, e2, xhb_s, e3, xhb_s, two_e]
  obtain ⟨h', e, E', F⟩ := t49_f E3 (by omega) ht x (mv_a h 27 (k + 1)) (mv_a (mv_si h 22 10 (nI (k + 1))) 27 k) (if x = 131 ∨ x = 132 ∨ x = 216 then 1 else 0)
  exact ⟨h', e, E', fun f => F (F3 (F2 (F1 f)))⟩
end FM
/-- the same, good -/
theorem two_C {X : TX} {J P : Nat} {h : mv_H} {j d x y : Nat} {M : List MkA} {H : List Nat} (C : CXq X J P h j d M (y :: x :: H)) (hH : H.length < 1022) {m : Nat} (hm : m < 400) {t : Nat} (ht : t < 32770) : ∃ h', f_Exprs_ofTwo P h (nI m) (nI t) = some h' ∧ match tw m x y with
    | some z => CXq X J P h' j d M (z :: H)
    | none => FMq X J P h' (j + 1) M (H.length + 1) ∧ Fl h' := by
  obtain ⟨e1, C1, y1, y2, y3⟩ := C.rel (show H.length + 1 < 1024 by omega)
  obtain ⟨e2, C2, x1, x2, x3⟩ := C1.rel (by omega)
  obtain ⟨w, h3, e3, -, C3, -, -, -⟩ := C2.emit (nI m) ((nI x).toInt64)
  unfold f_Exprs_ofTwo
  rw [e1, xhb_s, e2, xhb_s, e3, xhb_s, two_e]
  unfold f_Exprs_ofTwo_49
  have nx : ¬ nI x = (0 : Int32) := fun z => by have := (nIinj (b := 0) (by omega) (by omega)).mp z; omega
  have ny : ¬ nI y = (0 : Int32) := fun z => by have := (nIinj (b := 0) (by omega) (by omega)).mp z; omega
  rw [if_neg nx, if_neg ny]
  have i1 : nI m = (131 : Int32) ↔ m = 131 := nIinj (b := 131) (by omega) (by omega)
  have i2 : nI m = (132 : Int32) ↔ m = 132 := nIinj (b := 132) (by omega) (by omega)
  have i3 : nI m = (216 : Int32) ↔ m = 216 := nIinj (b := 216) (by omega) (by omega)
  have i4 : nI m = (213 : Int32) ↔ m = 213 := nIinj (b := 213) (by omega) (by omega)
  have ixy : nI x = nI y ↔ x = y := nIinj (by omega) (by omega)
  have hl : lvq m < 10 := by unfold lvq; repeat' split
                             all_goals omega
  have i5 : nI (lvq m) = (4 : Int32) ↔ lvq m = 4 := nIinj (b := 4) (by omega) (by omega)
  have i6 : nI (lvq m) = (5 : Int32) ↔ lvq m = 5 := nIinj (b := 5) (by omega) (by omega)
  have good : ∃ h', f_Exprs_ofTwo_93 P (nI m) (nI x) h3 = some h' ∧ CXq X J P h' j d M ((if lvq m = 4 ∨ lvq m = 5 ∨ m = 213 then 1 else x) :: H) := by
    have one : ∃ h', f_Exprs_ofTwo_119 P h3 = some h' ∧ CXq X J P h' j d M (1 :: H) := by
      obtain ⟨h5, e5, C5⟩ := C3.hold (by omega) (w := 1) (by omega) (by omega)
      unfold f_Exprs_ofTwo_119 f_Exprs_ofTwo_125
      rw [show (1 : Int32) = nI 1 from rfl, e5, xhv_s]
      exact ⟨h5, rfl, C5⟩
    unfold f_Exprs_ofTwo_93
    rw [lev_C h3 hm, xhb_s]
    by_cases c1 : lvq m = 4
    · rw [if_pos (i5.mpr c1), if_pos (Or.inl c1)]; exact one
    rw [if_neg (fun z => c1 (i5.mp z))]
    by_cases c2 : lvq m = 5
    · rw [if_pos (i6.mpr c2), if_pos (Or.inr (Or.inl c2))]; exact one
    rw [if_neg (fun z => c2 (i6.mp z))]
    by_cases c3 : m = 213
    · rw [if_pos (i4.mpr c3), if_pos (Or.inr (Or.inr c3))]; exact one
    rw [if_neg (fun z => c3 (i4.mp z)), if_neg (fun z => z.elim c1 (fun z => z.elim c2 c3))]
    obtain ⟨h5, e5, C5⟩ := C3.hold (by omega) (w := x) (by omega) (by omega)
    unfold f_Exprs_ofTwo_125
    rw [e5, xhv_s]
    exact ⟨h5, rfl, C5⟩
  unfold tw
  by_cases c : m = 131 ∨ m = 132 ∨ m = 216 ∨ x = y
  · rw [if_pos c]
    by_cases cxy : x = y
    · rw [if_pos (ixy.mpr cxy)]; exact good
    · rw [if_neg (fun z => cxy (ixy.mp z)), if_pos (show nI m = 131 ∨ nI m = 132 ∨ nI m = 216 from by rw [i1, i2, i3]; omega), if_neg (by decide)]
      exact good
  · rw [if_neg c, if_neg (fun z => c (Or.inr (Or.inr (Or.inr (ixy.mp z))))), if_neg (show ¬ (nI m = 131 ∨ nI m = 132 ∨ nI m = 216) from by rw [i1, i2, i3]; omega), if_pos rfl]
    obtain ⟨h4, e4, E4, F4, -⟩ := C3.fm.tell ht (x := 4) (by decide)
    obtain ⟨h5, e5, E5, F5⟩ := E4.hold (by omega) 0
    rw [e4, xhv_s, e5, xhv_s]
    exact ⟨h5, rfl, E5, F5 F4⟩
/-- widths held, depths used for the marks -/
def nHm (m : MkA) : Nat := if 0 < lvq m.k ∨ m.k = 58 then 1 else if (m.k = 123 ∨ (213 ≤ m.k ∧ m.k ≤ 216)) ∧ ¬ m.c = 0 then 1 else 0
def nH : List MkA → Nat
  | [] => 0
  | m :: M => nHm m + nH M
def nDm (m : MkA) : Nat := if 0 < lvq m.k then 0 else 1
def nD : List MkA → Nat
  | [] => 0
  | m :: M => nDm m + nD M
theorem lvq_b (k : Nat) : lvq k < 10 := by
  unfold lvq
  repeat' split
  all_goals omega
theorem lvq_s {k : Nat} (h : k = 305 ∨ k = 306 ∨ k = 307) : lvq k = 0 := by
  rcases h with h | h | h <;> (rw [h]; rfl)
theorem nHm_s {m : MkA} (h : m.k = 305 ∨ m.k = 306 ∨ m.k = 307) : nHm m = 0 := by
  unfold nHm
  rw [lvq_s h, if_neg (by omega), if_neg (by omega)]
theorem nDm_s {m : MkA} (h : m.k = 305 ∨ m.k = 306 ∨ m.k = 307) : nDm m = 1 := by
  unfold nDm
  rw [lvq_s h, if_neg (by omega)]
theorem popS_f : ∀ {M : List MkA} {H : List Nat} {d : Nat} {r : List MkA × List Nat × Nat}, popS M H d = some r → r.2.1 = H ∧ nH r.1 = nH M ∧ (nD M ≤ d → nD r.1 ≤ r.2.2) ∧ r.1.length ≤ M.length ∧ r.2.2 ≤ d ∧ (∀ m, m ∈ r.1 → m ∈ M) := by
  intro M
  induction M with
  | nil =>
    intro H d r e
    have e : some ([], H, d) = some r := e
    cases e
    exact ⟨rfl, rfl, fun q => Nat.zero_le _, Nat.le_refl _, Nat.le_refl _, fun m q => q⟩
  | cons m M ih =>
    intro H d r e
    have e : (if m.k = 305 ∨ m.k = 306 then popS M H (d - 1) else if m.k = 307 then (if H.headD 0 = 1 then popS M H (d - 1) else none) else some (m :: M, H, d)) = some r := e
    have go : (m.k = 305 ∨ m.k = 306 ∨ m.k = 307) → popS M H (d - 1) = some r → r.2.1 = H ∧ nH r.1 = nH (m :: M) ∧ (nD (m :: M) ≤ d → nD r.1 ≤ r.2.2) ∧ r.1.length ≤ (m :: M).length ∧ r.2.2 ≤ d ∧ (∀ n, n ∈ r.1 → n ∈ m :: M) := fun hk e => by
      obtain ⟨a1, a2, a3, a4, a5, a6⟩ := ih e
      have b1 : nH (m :: M) = nHm m + nH M := rfl
      have b2 : nD (m :: M) = nDm m + nD M := rfl
      rw [b1, b2, nHm_s hk, nDm_s hk]
      exact ⟨a1, by omega, fun q => a3 (by omega), by rw [List.length_cons]; omega, by omega, fun n q => List.mem_cons_of_mem _ (a6 n q)⟩
    by_cases c1 : m.k = 305 ∨ m.k = 306
    · rw [if_pos c1] at e
      exact go (by omega) e
    rw [if_neg c1] at e
    by_cases c2 : m.k = 307
    · rw [if_pos c2] at e
      by_cases c3 : H.headD 0 = 1
      · rw [if_pos c3] at e; exact go (by omega) e
      · rw [if_neg c3] at e; exact absurd e (by simp [MkA.k, MkA.c, MkA.q])
    · rw [if_neg c2] at e
      cases e
      exact ⟨rfl, rfl, fun q => q, Nat.le_refl _, Nat.le_refl _, fun m q => q⟩
theorem nIlt {a b : Nat} (ha : a < 2147483648) (hb : b < 2147483648) : nI a < nI b ↔ a < b := by
  rw [← Int32.not_le, nIle hb ha]; omega
theorem msk_t (h : mv_H) (x : Int32) : ∃ v, f_Bits_mask h x = some (v, h) := by
  unfold f_Bits_mask
  by_cases c : x < (64 : Int32)
  · rw [if_pos c]; exact ⟨_, rfl⟩
  · rw [if_neg c]; exact ⟨_, rfl⟩
theorem zI0 : (0 : Int32) = nI 0 := rfl
section SGN
variable {X : TX} {J P : Nat}
theorem s105_f {h : mv_H} {a k : Nat} {M : List MkA} (E : FMq X J P h a M k) (hk : k < 1024) (K : Int32 → mv_H → Option mv_H) (x2 x3 : Int32) {x1 : Nat} (hx : x1 < 1000) : ∃ h', f_Exprs_endSigns_105 P K (nI x1) x2 x3 h = K (nI (x1 + 1)) h' ∧ FMq X J P h' a M (k + 1) ∧ (Fl h → Fl h') := by
  obtain ⟨v, ev⟩ := msk_t h x3
  obtain ⟨w, h2, e2, -, E2, F2, -, -⟩ := E.emit x2 v
  obtain ⟨h3, e3, E3, F3⟩ := E2.hold hk x3
  unfold f_Exprs_endSigns_105
  rw [ev, xhb_s, e2, xhb_s, e3, xhv_s, nI1 (by omega)]
  exact ⟨h3, rfl, E3, fun f => F3 (F2 f)⟩
/-- the signs, in any state -/
theorem sig_f : ∀ (n x1 : Nat) (M : List MkA) (h : mv_H) {a k : Nat}, FMq X J P h a M (k + 1) → M.length ≤ 1000 → k < 1024 → x1 ≤ 61 → 62 ≤ n + x1 → ∃ h' M', f_Exprs_endSigns_2 P n (nI x1) h = some h' ∧ FMq X J P h' a M' (k + 1) ∧ nH M' = nH M ∧ M'.length ≤ M.length ∧ (Fl h → Fl h') := by
  intro n
  induction n with
  | zero => intro x1 M h a k _ _ _ _ _; omega
  | succ n ih =>
    intro x1 M h a k E hM hk hx hn
    show ∃ h' M', fF_Exprs_endSigns_2 P (f_Exprs_endSigns_2 P n) (nI x1) h = some h' ∧ _
    have here : ∃ h' M', some h = some h' ∧ FMq X J P h' a M' (k + 1) ∧ nH M' = nH M ∧ M'.length ≤ M.length ∧ (Fl h → Fl h') := ⟨h, M, rfl, E, rfl, Nat.le_refl _, fun f => f⟩
    unfold fF_Exprs_endSigns_2
    by_cases c : 60 < x1
    · rw [if_pos (show (60 : Int32) < nI x1 from (nIlt (a := 60) (by omega) (by omega)).mpr c)]
      exact here
    rw [if_neg (show ¬ (60 : Int32) < nI x1 from fun z => c ((nIlt (a := 60) (by omega) (by omega)).mp z))]
    cases M with
    | nil =>
      rw [if_pos (show mv_i h 22 8 ≤ 0 by rw [E.f.ml]; decide)]
      exact here
    | cons m M =>
      have hM' : M.length + 1 ≤ 1000 := hM
      have eml : mv_i h 22 8 = nI (M.length + 1) := E.f.ml
      have em : mv_i h 22 8 - 1 = nI M.length := by rw [eml]; exact nIsub (a := M.length + 1) (b := 1) (by omega) (by omega)
      obtain ⟨q1, q2, q3, ⟨t, q4, q5⟩, q6⟩ := E.mr.1
      rw [if_neg (show ¬ mv_i h 22 8 ≤ 0 by rw [eml]; exact fun z => by have := (nIle (b := 0) (by omega) (by omega)).mp z; omega), em, xvi_n (by omega) (by decide), cond_true, cln (by omega), q1]
      have go : (m.k = 305 ∨ m.k = 306 ∨ m.k = 307) → ∃ h' M', f_Exprs_endSigns_49 P (f_Exprs_endSigns_2 P n) (nI x1) (nI m.k) h = some h' ∧ FMq X J P h' a M' (k + 1) ∧ nH M' = nH (m :: M) ∧ M'.length ≤ (m :: M).length ∧ (Fl h → Fl h') := fun hs => by
        have E1 := (E.pop).dd (mv_i (mv_si h 22 8 (nI M.length)) 3 8 - 1)
        obtain ⟨e2, E2, F2⟩ := E1.rel hk
        unfold f_Exprs_endSigns_49
        rw [em, xk_s, xk_s, e2, xhb_s]
        have nn : nH (m :: M) = nH M := by
          show nHm m + nH M = nH M
          rw [nHm_s hs]; omega
        rw [nn]
        have fin : ∀ (g : mv_H) (y : Int32), FMq X J P g a M k → (Fl h → Fl g) → ∃ h' M', f_Exprs_endSigns_105 P (f_Exprs_endSigns_2 P n) (nI x1) (nI m.k) y g = some h' ∧ FMq X J P h' a M' (k + 1) ∧ nH M' = nH M ∧ M'.length ≤ (m :: M).length ∧ (Fl h → Fl h') := fun g y Eg Fg => by
          obtain ⟨h3, e3, E3, F3⟩ := s105_f Eg hk (f_Exprs_endSigns_2 P n) (nI m.k) y (x1 := x1) (by omega)
          obtain ⟨h', M', e4, r1, r2, r3, r4⟩ := ih (x1 + 1) M h3 E3 (by omega) hk (by omega) (by omega)
          rw [e3]
          exact ⟨h', M', e4, r1, r2, by rw [List.length_cons]; omega, fun f => r4 (F3 (Fg f))⟩
        by_cases c1 : nI m.k = (307 : Int32)
        rotate_left
        · rw [if_neg c1]
          exact fin _ _ E2 (fun f => F2 f)
        rw [if_pos c1]
        split
        · exact fin _ _ E2 (fun f => F2 f)
        · have e8 : mv_i (mv_si (mv_si (mv_si h 22 8 (nI M.length)) 3 8 (mv_i (mv_si h 22 8 (nI M.length)) 3 8 - 1)) 22 10 (nI k)) 22 8 = nI M.length := rfl
          have e24 : mv_a (mv_si (mv_si (mv_si h 22 8 (nI M.length)) 3 8 (mv_i (mv_si h 22 8 (nI M.length)) 3 8 - 1)) 22 10 (nI k)) 24 M.length = nI t := q4
          rw [e8, xvi_n (by omega) (by decide), cond_true, cln (by omega), e24]
          obtain ⟨h3, e3, E3, F3, -⟩ := E2.tell q5 (x := 4) (by decide)
          rw [e3, xhv_s]
          exact fin _ _ E3 (fun _ => F3)
      have i1 : nI m.k = (305 : Int32) ↔ m.k = 305 := nIinj (b := 305) (by omega) (by omega)
      have i2 : nI m.k = (306 : Int32) ↔ m.k = 306 := nIinj (b := 306) (by omega) (by omega)
      have i3 : nI m.k = (307 : Int32) ↔ m.k = 307 := nIinj (b := 307) (by omega) (by omega)
      split
      · rename_i z; exact go (Or.inl (i1.mp z))
      split
      · rename_i z; exact go (Or.inr (Or.inl (i2.mp z)))
      split
      · rename_i z; exact go (Or.inr (Or.inr (i3.mp z)))
      · exact here
/-- the signs -/
theorem sig_C : ∀ (n x1 : Nat) (M : List MkA) (h : mv_H) {j d w : Nat} {H : List Nat}, CXq X J P h j d M (w :: H) → M.length ≤ 1000 → H.length < 1023 → nD M ≤ d → x1 + d ≤ 60 → 62 ≤ n + x1 → ∃ h', f_Exprs_endSigns_2 P n (nI x1) h = some h' ∧ match popS M (w :: H) d with
    | some r => CXq X J P h' j r.2.2 r.1 r.2.1
    | none => ∃ M', FMq X J P h' (j + 1) M' (H.length + 1) ∧ nH M' = nH M ∧ M'.length ≤ M.length ∧ Fl h' := by
  intro n
  induction n with
  | zero => intro x1 M h j d w H _ _ _ _ _ _; omega
  | succ n ih =>
    intro x1 M h j d w H C hM hk hd hx hn
    show ∃ h', fF_Exprs_endSigns_2 P (f_Exprs_endSigns_2 P n) (nI x1) h = some h' ∧ _
    unfold fF_Exprs_endSigns_2
    rw [if_neg (show ¬ (60 : Int32) < nI x1 from fun z => by have := (nIlt (a := 60) (by omega) (by omega)).mp z; omega)]
    cases M with
    | nil =>
      rw [if_pos (show mv_i h 22 8 ≤ 0 by rw [C.ml]; decide)]
      exact ⟨h, rfl, C⟩
    | cons m M =>
      have hM' : M.length + 1 ≤ 1000 := hM
      have eml : mv_i h 22 8 = nI (M.length + 1) := C.ml
      have em : mv_i h 22 8 - 1 = nI M.length := by rw [eml]; exact nIsub (a := M.length + 1) (b := 1) (by omega) (by omega)
      obtain ⟨q1, q2, q3, ⟨t, q4, q5⟩, q6⟩ := C.mr.1
      rw [if_neg (show ¬ mv_i h 22 8 ≤ 0 by rw [eml]; exact fun z => by have := (nIle (b := 0) (by omega) (by omega)).mp z; omega), em, xvi_n (by omega) (by decide), cond_true, cln (by omega), q1]
      have ePop : popS (m :: M) (w :: H) d = if m.k = 305 ∨ m.k = 306 then popS M (w :: H) (d - 1) else if m.k = 307 then (if w = 1 then popS M (w :: H) (d - 1) else none) else some (m :: M, w :: H, d) := rfl
      rw [ePop]
      have i1 : nI m.k = (305 : Int32) ↔ m.k = 305 := nIinj (b := 305) (by omega) (by omega)
      have i2 : nI m.k = (306 : Int32) ↔ m.k = 306 := nIinj (b := 306) (by omega) (by omega)
      have i3 : nI m.k = (307 : Int32) ↔ m.k = 307 := nIinj (b := 307) (by omega) (by omega)
      have go : (m.k = 305 ∨ m.k = 306 ∨ m.k = 307) → ∃ h', f_Exprs_endSigns_49 P (f_Exprs_endSigns_2 P n) (nI x1) (nI m.k) h = some h' ∧ match (if m.k = 307 ∧ ¬ w = 1 then none else popS M (w :: H) (d - 1)) with
          | some r => CXq X J P h' j r.2.2 r.1 r.2.1
          | none => ∃ M', FMq X J P h' (j + 1) M' (H.length + 1) ∧ nH M' = nH (m :: M) ∧ M'.length ≤ (m :: M).length ∧ Fl h' := fun hs => by
        have hd2 : nDm m + nD M ≤ d := hd
        rw [nDm_s hs] at hd2
        have hd60 := C.d2
        have e8' : mv_i (mv_si h 22 8 (nI M.length)) 3 8 - 1 = nI (d - 1) := by
          rw [pop22 h _ (by omega), C.dp]; exact nIsub (b := 1) (by omega) (by omega)
        have C1 := (C.pop).dd (d2 := d - 1) (by omega)
        obtain ⟨e2, C2, w1, w2, w3⟩ := C1.rel (by omega)
        unfold f_Exprs_endSigns_49
        rw [em, xk_s, e8', xk_s, e2, xhb_s]
        have nn : nH (m :: M) = nH M := by
          show nHm m + nH M = nH M
          rw [nHm_s hs]; omega
        rw [nn]
        have fin : ∃ h', f_Exprs_endSigns_105 P (f_Exprs_endSigns_2 P n) (nI x1) (nI m.k) (nI w) (mv_si (mv_si (mv_si h 22 8 (nI M.length)) 3 8 (nI (d - 1))) 22 10 (nI H.length)) = some h' ∧ match popS M (w :: H) (d - 1) with
            | some r => CXq X J P h' j r.2.2 r.1 r.2.1
            | none => ∃ M', FMq X J P h' (j + 1) M' (H.length + 1) ∧ nH M' = nH M ∧ M'.length ≤ (m :: M).length ∧ Fl h' := by
          obtain ⟨v, ev⟩ := msk_t (mv_si (mv_si (mv_si h 22 8 (nI M.length)) 3 8 (nI (d - 1))) 22 10 (nI H.length)) (nI w)
          obtain ⟨x, h3, e3, -, C3, -, -, -⟩ := C2.emit (nI m.k) v
          obtain ⟨h4, e4, C4⟩ := C3.hold (by omega) w1 w3
          unfold f_Exprs_endSigns_105
          rw [ev, xhb_s, e3, xhb_s, e4, xhv_s, nI1 (by omega)]
          obtain ⟨h', e5, r⟩ := ih (x1 + 1) M h4 C4 (by omega) hk (by omega) (by omega) (by omega)
          refine ⟨h', e5, ?_⟩
          revert r
          cases popS M (w :: H) (d - 1) with
          | some r => exact fun r => r
          | none =>
            intro ⟨M', r1, r2, r3, r4⟩
            exact ⟨M', r1, r2, by rw [List.length_cons]; omega, r4⟩
        by_cases c1 : m.k = 307
        rotate_left
        · rw [if_neg (fun z => c1 (i3.mp z)), if_neg (fun z => c1 z.1)]
          exact fin
        rw [if_pos (i3.mpr c1)]
        by_cases c2 : w = 1
        · rw [if_pos (show nI w ≤ (1 : Int32) from (nIle (b := 1) (by omega) (by omega)).mpr (by omega)), if_neg (fun z => z.2 c2)]
          exact fin
        · rw [if_neg (show ¬ nI w ≤ (1 : Int32) from fun z => by have := (nIle (b := 1) (by omega) (by omega)).mp z; omega), if_pos ⟨c1, c2⟩]
          have e8 : mv_i (mv_si (mv_si (mv_si h 22 8 (nI M.length)) 3 8 (nI (d - 1))) 22 10 (nI H.length)) 22 8 = nI M.length := rfl
          have e24 : mv_a (mv_si (mv_si (mv_si h 22 8 (nI M.length)) 3 8 (nI (d - 1))) 22 10 (nI H.length)) 24 M.length = nI t := q4
          rw [e8, xvi_n (by omega) (by decide), cond_true, cln (by omega), e24]
          obtain ⟨h3, e3, E3, F3, -⟩ := C2.fm.tell q5 (x := 4) (by decide)
          obtain ⟨h4, e4, E4, F4⟩ := s105_f E3 (by omega) (f_Exprs_endSigns_2 P n) (nI m.k) 0 (x1 := x1) (by omega)
          obtain ⟨h', M', e5, r1, r2, r3, r4⟩ := sig_f n (x1 + 1) M h4 E4 (by omega) (by omega) (by omega) (by omega)
          rw [e3, xhv_s, e4]
          exact ⟨h', e5, M', r1, r2, by rw [List.length_cons]; omega, r4 (F4 F3)⟩
      by_cases c1 : m.k = 305
      · rw [if_pos (i1.mpr c1), if_pos (Or.inl c1)]
        have := go (by omega)
        rw [if_neg (by omega)] at this
        exact this
      rw [if_neg (fun z => c1 (i1.mp z))]
      by_cases c2 : m.k = 306
      · rw [if_pos (i2.mpr c2), if_pos (Or.inr c2)]
        have := go (by omega)
        rw [if_neg (by omega)] at this
        exact this
      rw [if_neg (fun z => c2 (i2.mp z)), if_neg (show ¬ (m.k = 305 ∨ m.k = 306) by omega)]
      by_cases c3 : m.k = 307
      · rw [if_pos (i3.mpr c3), if_pos c3]
        have := go (by omega)
        by_cases cw : w = 1
        · rw [if_neg (by omega)] at this
          rw [if_pos cw]; exact this
        · rw [if_pos ⟨c3, cw⟩] at this
          rw [if_neg cw]; exact this
      · rw [if_neg (fun z => c3 (i3.mp z)), if_neg c3]
        exact ⟨h, rfl, C⟩
end SGN
theorem nHm_b {m : MkA} (h : 0 < lvq m.k) : nHm m = 1 := by
  unfold nHm
  rw [if_pos (Or.inl h)]
theorem nDm_b {m : MkA} (h : 0 < lvq m.k) : nDm m = 0 := by
  unfold nDm
  rw [if_pos h]
theorem popB_f {l : Nat} (hl : 1 ≤ l) : ∀ {M : List MkA} {H : List Nat} {t : List MkA × List Nat}, popB l M H = some t → H.length = nH M + 1 → t.2.length = nH t.1 + 1 ∧ nH t.1 ≤ nH M ∧ nD t.1 = nD M ∧ t.1.length ≤ M.length ∧ (∀ m, m ∈ t.1 → m ∈ M) := by
  intro M
  induction M with
  | nil =>
    intro H t e hH
    have e : some ([], H) = some t := e
    cases e
    exact ⟨hH, Nat.le_refl _, rfl, Nat.le_refl _, fun m q => q⟩
  | cons m M ih =>
    intro H t e hH
    have e : (if l ≤ lvq m.k then (tw m.k (H.tail.headD 0) (H.headD 0)).bind fun z => popB l M (z :: H.tail.tail) else some (m :: M, H)) = some t := e
    by_cases c : l ≤ lvq m.k
    · rw [if_pos c] at e
      have b1 : nH (m :: M) = nHm m + nH M := rfl
      have b2 : nD (m :: M) = nDm m + nD M := rfl
      rw [b1, nHm_b (by omega)] at hH
      rw [b1, b2, nHm_b (by omega), nDm_b (by omega)]
      revert e
      cases tw m.k (H.tail.headD 0) (H.headD 0) with
      | none => intro e; exact absurd (show (none : Option (List MkA × List Nat)) = some t from e) (by simp [MkA.k, MkA.c, MkA.q])
      | some z =>
        intro e
        have e : popB l M (z :: H.tail.tail) = some t := e
        obtain ⟨a1, a2, a3, a4, a5⟩ := ih e (by rw [List.length_cons, List.length_tail, List.length_tail]; omega)
        exact ⟨a1, by omega, by omega, by rw [List.length_cons]; omega, fun n q => List.mem_cons_of_mem _ (a5 n q)⟩
    · rw [if_neg c] at e
      cases e
      exact ⟨hH, Nat.le_refl _, rfl, Nat.le_refl _, fun m q => q⟩
section BIN
variable {X : TX} {J P : Nat} {l : Nat} (hl1 : 1 ≤ l) (hl : l < 10)
/-- the binaries, in any state -/
theorem bin_f (hl1 : 1 ≤ l) (hl : l < 10) : ∀ (n x2 : Nat) (M : List MkA) (h : mv_H) {a : Nat}, FMq X J P h a M (nH M + 1) → x2 + M.length ≤ 1000 → nH M < 1000 → M.length < n → ∃ h' M', f_Exprs_endBinaries_2 P n (nI l) (nI x2) h = some h' ∧ FMq X J P h' a M' (nH M' + 1) ∧ nH M' ≤ nH M ∧ M'.length ≤ M.length ∧ (Fl h → Fl h') := by
  intro n
  induction n with
  | zero => intro x2 M h a _ _ _ q; omega
  | succ n ih =>
    intro x2 M h a E hx hM hn
    show ∃ h' M', fF_Exprs_endBinaries_2 P (f_Exprs_endBinaries_2 P n) (nI l) (nI x2) h = some h' ∧ _
    have here : ∃ h' M', some h = some h' ∧ FMq X J P h' a M' (nH M' + 1) ∧ nH M' ≤ nH M ∧ M'.length ≤ M.length ∧ (Fl h → Fl h') := ⟨h, M, rfl, E, Nat.le_refl _, Nat.le_refl _, fun f => f⟩
    unfold fF_Exprs_endBinaries_2
    rw [if_neg (show ¬ (1024 : Int32) ≤ nI x2 from fun z => by have := (nIle (a := 1024) (by omega) (by omega)).mp z; omega)]
    cases M with
    | nil =>
      rw [if_pos (show mv_i h 22 8 ≤ 0 by rw [E.f.ml]; decide)]
      exact here
    | cons m M =>
      have hx' : x2 + (M.length + 1) ≤ 1000 := hx
      have hn' : M.length + 1 < n + 1 := hn
      have eml : mv_i h 22 8 = nI (M.length + 1) := E.f.ml
      have em : mv_i h 22 8 - 1 = nI M.length := by rw [eml]; exact nIsub (a := M.length + 1) (b := 1) (by omega) (by omega)
      obtain ⟨q1, q2, q3, ⟨t, q4, q5⟩, q6⟩ := E.mr.1
      have hlq := lvq_b m.k
      rw [if_neg (show ¬ mv_i h 22 8 ≤ 0 by rw [eml]; exact fun z => by have := (nIle (b := 0) (by omega) (by omega)).mp z; omega), em, xvi_n (by omega) (by decide), cond_true, cln (by omega), q1, lev_C h q2, xhb_s]
      by_cases c : l ≤ lvq m.k
      rotate_left
      · rw [if_neg (fun z => c ((nIle (by omega) (by omega)).mp z))]
        exact here
      rw [if_pos ((nIle (by omega) (by omega)).mpr c), em, xk_s]
      have e8 : mv_i (mv_si h 22 8 (nI M.length)) 22 8 = nI M.length := rfl
      have e24 : mv_a (mv_si h 22 8 (nI M.length)) 24 M.length = nI t := q4
      rw [e8, xvi_n (by omega) (by decide), cond_true, cln (by omega), e24]
      have b1 : nH (m :: M) = nHm m + nH M := rfl
      have b2 := nHm_b (m := m) (by omega)
      have E1 : FMq X J P (mv_si h 22 8 (nI M.length)) a M (nH M + 2) := by
        have := E.pop
        rw [b1, b2, show 1 + nH M + 1 = nH M + 2 by omega] at this
        exact this
      obtain ⟨h2, e2, E2, F2⟩ := two_f E1 (by omega) (nI m.k) q5
      obtain ⟨h', M', e3, r1, r2, r3, r4⟩ := ih (x2 + 1) M h2 E2 (by omega) (by omega) (by omega)
      rw [e2, xhv_s, nI1 (by omega)]
      exact ⟨h', M', e3, r1, by omega, by rw [List.length_cons]; omega, fun f => r4 (F2 (f.pop _))⟩
/-- the binaries -/
theorem bin_C (hl1 : 1 ≤ l) (hl : l < 10) : ∀ (n x2 : Nat) (M : List MkA) (h : mv_H) {j d : Nat} {H : List Nat}, CXq X J P h j d M H → H.length = nH M + 1 → x2 + M.length ≤ 1000 → nH M < 1000 → M.length < n → ∃ h', f_Exprs_endBinaries_2 P n (nI l) (nI x2) h = some h' ∧ match popB l M H with
    | some t => CXq X J P h' j d t.1 t.2
    | none => ∃ M', FMq X J P h' (j + 1) M' (nH M' + 1) ∧ nH M' ≤ nH M ∧ M'.length ≤ M.length ∧ Fl h' := by
  intro n
  induction n with
  | zero => intro x2 M h j d H _ _ _ _ q; omega
  | succ n ih =>
    intro x2 M h j d H C hH hx hM hn
    show ∃ h', fF_Exprs_endBinaries_2 P (f_Exprs_endBinaries_2 P n) (nI l) (nI x2) h = some h' ∧ _
    unfold fF_Exprs_endBinaries_2
    rw [if_neg (show ¬ (1024 : Int32) ≤ nI x2 from fun z => by have := (nIle (a := 1024) (by omega) (by omega)).mp z; omega)]
    cases M with
    | nil =>
      rw [if_pos (show mv_i h 22 8 ≤ 0 by rw [C.ml]; decide)]
      exact ⟨h, rfl, C⟩
    | cons m M =>
      have hx' : x2 + (M.length + 1) ≤ 1000 := hx
      have hn' : M.length + 1 < n + 1 := hn
      have eml : mv_i h 22 8 = nI (M.length + 1) := C.ml
      have em : mv_i h 22 8 - 1 = nI M.length := by rw [eml]; exact nIsub (a := M.length + 1) (b := 1) (by omega) (by omega)
      obtain ⟨q1, q2, q3, ⟨t, q4, q5⟩, q6⟩ := C.mr.1
      have hlq := lvq_b m.k
      have ePop : popB l (m :: M) H = if l ≤ lvq m.k then (tw m.k (H.tail.headD 0) (H.headD 0)).bind fun z => popB l M (z :: H.tail.tail) else some (m :: M, H) := rfl
      rw [if_neg (show ¬ mv_i h 22 8 ≤ 0 by rw [eml]; exact fun z => by have := (nIle (b := 0) (by omega) (by omega)).mp z; omega), em, xvi_n (by omega) (by decide), cond_true, cln (by omega), q1, lev_C h q2, xhb_s, ePop]
      by_cases c : l ≤ lvq m.k
      rotate_left
      · rw [if_neg (fun z => c ((nIle (by omega) (by omega)).mp z)), if_neg c]
        exact ⟨h, rfl, C⟩
      rw [if_pos ((nIle (by omega) (by omega)).mpr c), em, xk_s, if_pos c]
      have e8 : mv_i (mv_si h 22 8 (nI M.length)) 22 8 = nI M.length := rfl
      have e24 : mv_a (mv_si h 22 8 (nI M.length)) 24 M.length = nI t := q4
      rw [e8, xvi_n (by omega) (by decide), cond_true, cln (by omega), e24]
      have b1 : nH (m :: M) = nHm m + nH M := rfl
      have b2 := nHm_b (m := m) (by omega)
      cases H with
      | nil => exact absurd hH (by rw [List.length_nil]; omega)
      | cons y H =>
        cases H with
        | nil => exact absurd hH (by rw [b1, b2, List.length_cons, List.length_nil]; omega)
        | cons x H =>
          have hH' : H.length = nH M := by
            rw [b1, b2, List.length_cons, List.length_cons] at hH
            omega
          obtain ⟨h2, e2, r⟩ := two_C (C.pop) (by omega) q2 q5
          rw [e2, xhv_s, nI1 (by omega)]
          show ∃ h', _ ∧ match (tw m.k x y).bind fun z => popB l M (z :: H) with
            | some t => CXq X J P h' j d t.1 t.2
            | none => ∃ M', FMq X J P h' (j + 1) M' (nH M' + 1) ∧ nH M' ≤ nH (m :: M) ∧ M'.length ≤ (m :: M).length ∧ Fl h'
          revert r
          cases tw m.k x y with
          | some z =>
            intro r
            obtain ⟨h', e3, s⟩ := ih (x2 + 1) M h2 r (by rw [List.length_cons]; omega) (by omega) (by omega) (by omega)
            refine ⟨h', e3, ?_⟩
            show match popB l M (z :: H) with
              | some t => CXq X J P h' j d t.1 t.2
              | none => ∃ M', FMq X J P h' (j + 1) M' (nH M' + 1) ∧ nH M' ≤ nH (m :: M) ∧ M'.length ≤ (m :: M).length ∧ Fl h'
            revert s
            cases popB l M (z :: H) with
            | some t => exact fun s => s
            | none =>
              intro ⟨M', s1, s2, s3, s4⟩
              exact ⟨M', s1, by omega, by rw [List.length_cons]; omega, s4⟩
          | none =>
            intro r
            have E2 := r.1
            rw [hH'] at E2
            obtain ⟨h', M', e3, s1, s2, s3, s4⟩ := bin_f hl1 hl n (x2 + 1) M h2 E2 (by omega) (by omega) (by omega)
            exact ⟨h', e3, M', s1, by omega, by rw [List.length_cons]; omega, s4 r.2⟩
end BIN
section ANY
variable {X : TX} {J P : Nat} {h : mv_H} {a m k : Nat}
theorem wr_t (E : FXq X J P h a m k) : ∃ h', f_Tokens_wrong h = some h' ∧ FXq X J P h' a m k ∧ (Fl h → Fl h') ∧ mv_a h' = mv_a h := by
  have hpp := E.pp
  have ha := E.a2
  unfold f_Tokens_wrong
  by_cases c : (0 : Int32) ≤ mv_i h 3 9
  · rw [if_pos c]
    exact ⟨h, rfl, E, fun w => w, rfl⟩
  · rw [if_neg c, E.at', xvi_n (by omega) (by decide), cond_true, xk_s]
    refine ⟨_, rfl, E.si (by omega) (by omega) (by omega) (by omega) _, fun F => ?_, rfl⟩
    rcases F with F | F
    · exact absurd (show (0 : Int32) ≤ mv_i h 3 9 from Int32.le_iff_toInt_le.mpr F) c
    · exact Or.inr F
theorem take_t (E : FXq X J P h a m k) (ha : a + 1 < 32000) {t : Int32} (ht : ¬ (0 : Int32) = t) : ∃ v h' a', f_Tokens_take h t = some (nI v, h') ∧ v ≤ a ∧ FXq X J P h' a' m k ∧ a' ≤ a + 1 ∧ (Fl h → Fl h') ∧ mv_a h' = mv_a h := by
  have hpp := E.pp
  by_cases c : 0 ≤ (mv_i h 3 9).toInt
  · exact ⟨0, h, a, take_w E c ht, Nat.zero_le _, E, by omega, fun f => f, rfl⟩
  have lt : mv_i h 3 9 < 0 := Int32.not_le.mp (fun z => c (Int32.le_iff_toInt_le.mp z))
  rw [take_c E.at' (by omega) lt]
  by_cases z : mv_a h 4 a = t
  · rw [if_pos z]
    refine ⟨a, _, a + 1, rfl, Nat.le_refl _, ⟨E.tb.fr rfl rfl rfl, hpp, rfl, ha, E.ml, E.hl, ?_⟩, Nat.le_refl _, fun F => F.si (by omega) (by omega) _, rfl⟩
    obtain ⟨z, e, hz⟩ := E.sz
    exact ⟨z, (mv_u_ne (mv_i h) _ (by omega)).trans e, hz⟩
  · rw [if_neg z]
    refine ⟨0, _, a, rfl, Nat.zero_le _, E.si (by omega) (by omega) (by omega) (by omega) _, by omega, fun F => ?_, rfl⟩
    rcases F with F | F
    · exact absurd F c
    · exact Or.inr F
theorem open_t (E : FXq X J P h a m k) (ha : a + 1 < 32000) {t : Int32} (ht : ¬ (0 : Int32) = t) : ∃ v h' a', f_Tokens_open h t = some (nI v, h') ∧ v ≤ a ∧ FXq X J P h' a' m k ∧ a' ≤ a + 1 ∧ (Fl h → Fl h') ∧ mv_a h' = mv_a h := by
  have hpp := E.pp
  have q : ∀ g, FXq X J P g a m k → ∃ v h' a', f_Tokens_open_13 t g = some (nI v, h') ∧ v ≤ a ∧ FXq X J P h' a' m k ∧ a' ≤ a + 1 ∧ (Fl g → Fl h') ∧ mv_a h' = mv_a g := fun g Eg => by
    have E1 := Eg.si (o := 3) (f := 8) (by omega) (by omega) (by omega) (by omega) (mv_i g 3 8 + 1)
    obtain ⟨v, h', a', e, r1, r2, r3, r4, r5⟩ := take_t E1 ha ht
    unfold f_Tokens_open_13
    rw [xk_s, e, xhb_s]
    exact ⟨v, h', a', rfl, r1, r2, r3, fun F => r4 (F.si (by omega) (by omega) _), r5⟩
  unfold f_Tokens_open
  by_cases c : mv_i h 3 8 = 60
  · obtain ⟨g, e, E1, F1, r1⟩ := wr_t E
    obtain ⟨v, h', a', e2, s1, s2, s3, s4, s5⟩ := q g E1
    rw [if_pos c, e, xhv_s]
    exact ⟨v, h', a', e2, s1, s2, s3, fun F => s4 (F1 F), s5.trans r1⟩
  · rw [if_neg c]
    exact q h E
theorem close_t (E : FXq X J P h a m k) (ha : a + 1 < 32000) {t : Int32} (ht : ¬ (0 : Int32) = t) : ∃ v h' a', f_Tokens_close h t = some (nI v, h') ∧ v ≤ a ∧ FXq X J P h' a' m k ∧ a' ≤ a + 1 ∧ (Fl h → Fl h') ∧ mv_a h' = mv_a h := by
  have hpp := E.pp
  have E1 := E.si (o := 3) (f := 8) (by omega) (by omega) (by omega) (by omega) (mv_i h 3 8 - 1)
  obtain ⟨v, h', a', e, r1, r2, r3, r4, r5⟩ := take_t E1 ha ht
  unfold f_Tokens_close
  rw [xk_s, e, xhb_s]
  exact ⟨v, h', a', rfl, r1, r2, r3, fun F => r4 (F.si (by omega) (by omega) _), r5⟩
theorem FXq.sa (E : FXq X J P h a m k) {o i : Nat} (h4 : ¬ o = 4) (h5 : ¬ o = 5) (v : Int32) : FXq X J P (mv_sa h o i v) a m k :=
  ⟨E.tb.fr (funext fun x => mv_u_ne (mv_a h) _ (by omega)) (funext fun x => mv_u_ne (mv_a h) _ (by omega)) rfl, E.pp, E.at', E.a2, E.ml, E.hl, E.sz⟩
end ANY
section CHO
variable {X : TX} {J P : Nat}
/-- a ? in any state -/
theorem cho_f {h : mv_H} {a m k : Nat} (E : FXq X J P h a m (k + 1)) (ha : a + 1 < 32000) (hm : m < 1024) (hk : k < 1024) : ∃ h', f_Exprs_choose P h = some h' ∧ (Fl h → Fl h') := by
  obtain ⟨v, h1, a1, e1, -, E1, -, F1, -⟩ := open_t E ha (t := 63) (by decide)
  obtain ⟨h2, e2, E2, -, F2⟩ := mark_f E1 hm 63 (nI v)
  obtain ⟨e3, E3, F3⟩ := rel_f E2 hk
  have em : mv_i h2 22 8 - 1 = nI m := by rw [E2.ml]; exact nIsub (a := m + 1) (b := 1) (by omega) (by omega)
  unfold f_Exprs_choose
  rw [e1, xhb_s, e2, xhv_s, e3, xhb_s, em, xvi_n hm (by decide), cond_true, xk_s, cln (by omega)]
  obtain ⟨w, h5, e5, -, E5, F5, -, -, -⟩ := emit_f (E3.sa (o := 26) (i := m) (by omega) (by omega) (mv_a h2 27 k)) 312 0
  have em2 : mv_i (mv_sa (mv_si h2 22 10 (nI k)) 26 m (mv_a h2 27 k)) 22 8 - 1 = nI m := em
  rw [e5, xhb_s, em2, xvi_n hm (by decide), cond_true, xk_s]
  exact ⟨_, rfl, fun f => F5 (F3 (F2 (F1 f)))⟩
/-- a ? -/
theorem cho_C {h : mv_H} {j d w : Nat} {M : List MkA} {H : List Nat} (C : CXq X J P h j d M (w :: H)) (hM : M.length ≤ 1000) (hH : H.length < 1023) (hk : X.kd j = 63) (hJ : X.kd J = 1 ∨ X.kd J = 2) : ∃ h', f_Exprs_choose P h = some h' ∧ ((d < 60 ∧ CXq X J P h' (j + 1) (d + 1) (⟨63, 0, w⟩ :: M) H) ∨ (¬ d < 60 ∧ Fl h')) := by
  have hpp := C.pp
  have hjb := C.jb
  by_cases c : d < 60
  rotate_left
  · have hq := C.pl
    -- the depth is spent
    obtain ⟨h1, e1, E1, w1⟩ := C.ob (k := 63) (by omega) (by omega) (fun z => c z.2)
    obtain ⟨h2, e2, E2, -, F2⟩ := mark_f E1 (by omega) 63 0
    obtain ⟨e3, E3, F3⟩ := rel_f (k := H.length) E2 (by omega)
    have em : mv_i h2 22 8 - 1 = nI M.length := by rw [E2.ml]; exact nIsub (a := M.length + 1) (b := 1) (by omega) (by omega)
    unfold f_Exprs_choose
    rw [show f_Tokens_open h 63 = _ from e1, xhb_s, e2, xhv_s, e3, xhb_s, em, xvi_n (by omega) (by decide), cond_true, xk_s, cln (by omega)]
    obtain ⟨x, h5, e5, -, E5, F5, -, -, -⟩ := emit_f (E3.sa (o := 26) (i := M.length) (by omega) (by omega) (mv_a h2 27 H.length)) 312 0
    have em2 : mv_i (mv_sa (mv_si h2 22 10 (nI H.length)) 26 M.length (mv_a h2 27 H.length)) 22 8 - 1 = nI M.length := em
    rw [e5, xhb_s, em2, xvi_n (by omega) (by decide), cond_true, xk_s]
    exact ⟨_, rfl, Or.inr ⟨c, F5 (F3 (F2 (Or.inl w1)))⟩⟩
  have hj1 := nxJ hJ C.jJ (by omega) (by omega)
  obtain ⟨h1, e1, C1⟩ := C.op hk c hj1
  obtain ⟨h2, e2, i2, m2, a2, b2, l2, r23, r24, r25⟩ := C1.mk0 hM 63 (nI (j + 1))
  have E2 : FXq X J P h2 (j + 1 + 1) (M.length + 1) (H.length + 1) := by
    refine ⟨C1.tb.fr (a2 4 (by omega)) (a2 5 (by omega)) (congrFun b2 6), hpp, (i2 3 7 (by omega)).trans C1.at', C1.jb, m2, (i2 22 10 (by omega)).trans C1.hl, ?_⟩
    obtain ⟨z, e, hz⟩ := C1.sz
    exact ⟨z, (i2 P 17 (by omega)).trans e, hz⟩
  obtain ⟨e3, E3, -⟩ := rel_f (k := H.length) E2 (by omega)
  have e27 : mv_a h2 27 H.length = nI w := by rw [a2 27 (by omega)]; exact C1.hr.1.1
  have em : mv_i h2 22 8 - 1 = nI M.length := by rw [m2]; exact nIsub (a := M.length + 1) (b := 1) (by omega) (by omega)
  have em2 : mv_i (mv_sa (mv_si h2 22 10 (nI H.length)) 26 M.length (nI w)) 22 8 - 1 = nI M.length := em
  obtain ⟨x, h5, e5, hx, E5, -, i5, a5, b5⟩ := emit_f (E3.sa (o := 26) (i := M.length) (by omega) (by omega) (nI w)) 312 0
  have E6 := E5.sa (o := 25) (i := M.length) (by omega) (by omega) x
  refine ⟨mv_sa h5 25 M.length x, ?_, Or.inl ⟨c, ?_⟩⟩
  · unfold f_Exprs_choose
    rw [show f_Tokens_open h 63 = _ from e1, xhb_s, e2, xhv_s, e3, xhb_s, em, xvi_n (by omega) (by decide), cond_true, xk_s, cln (by omega), e27, e5, xhb_s, em2, xvi_n (by omega) (by decide), cond_true, xk_s, cln (by omega)]
  · -- rows
    have ei : ∀ o f, ¬ (o = P ∧ f = 17) → ¬ (o = 22 ∧ f = 8) → ¬ (o = 22 ∧ f = 10) → mv_i (mv_sa h5 25 M.length x) o f = mv_i h1 o f := fun o f p1 p2 p3 => by
      show mv_i h5 o f = _
      rw [i5 o f p1]
      exact (mv_u_ne (mv_i h2) _ (by omega)).trans (i2 o f p2)
    have ea : ∀ o i, ¬ o = P + 9 → mv_a (mv_sa h5 25 M.length x) o i = if o = 25 ∧ i = M.length then x else if o = 26 ∧ i = M.length then nI w else mv_a h2 o i := fun o i p1 => by
      show (if o = 25 ∧ i = M.length then x else mv_a h5 o i) = _
      rw [a5 o p1]
      rfl
    have hs := C1.sm
    have hsum : sumL (w :: H) = w + sumL H := rfl
    have hw1 := C1.hr.1.2
    have hjb1 := C1.tb.jb
    have hjJ := C1.jJ
    refine C1.of (M' := ⟨63, 0, w⟩ :: M) (H' := H) E6 hj1 ((ei 3 8 (by omega) (by omega) (by omega)).trans C1.dp) C1.d2 ((ei 3 9 (by omega) (by omega) (by omega)).trans C1.ok) ((ei 21 0 (by omega) (by omega) (by omega)).trans C1.no) ⟨⟨?_, (by decide : (63 : Nat) < 400), Nat.zero_le _, ⟨j + 1, ?_, by omega⟩, fun z => ?_, fun z => ?_, fun _ => ⟨?_, ?_, ?_⟩⟩, ?_⟩ ?_ (by omega)
    · rw [ea 23 _ (by omega), if_neg (by omega), if_neg (by omega)]; exact r23
    · rw [ea 24 _ (by omega), if_neg (by omega), if_neg (by omega)]; exact r24
    · have z : (63 : Nat) = 123 ∨ (211 ≤ (63 : Nat) ∧ (63 : Nat) ≤ 216) := z
      omega
    · have z : (63 : Nat) = 91 := z
      omega
    · rw [ea 25 _ (by omega), if_pos ⟨rfl, rfl⟩]; exact hx
    · rw [ea 26 _ (by omega), if_neg (by omega), if_pos ⟨rfl, rfl⟩]
    · show w ≤ 500000000
      omega
    · refine C1.mr.fr (funext fun i => ?_) (fun i hi => ?_)
      · rw [ea (P + 1) _ (by omega), if_neg (by omega), if_neg (by omega), a2 (P + 1) (by omega)]
      · have q : ∀ o, ¬ o = P + 9 → mv_a (mv_sa h5 25 M.length x) o i = mv_a h1 o i := fun o ho => by
          rw [ea o _ ho, if_neg (by omega), if_neg (by omega), l2 o i (by omega)]
        exact ⟨q 23 (by omega), q 24 (by omega), q 25 (by omega), q 26 (by omega)⟩
    · refine HR.fr (h := h1) C1.hr.2 (fun i hi => ?_)
      rw [ea 27 _ (by omega), if_neg (by omega), if_neg (by omega), a2 27 (by omega)]
end CHO
theorem nHm_58 {m : MkA} (h : m.k = 58) : nHm m = 1 := by
  unfold nHm
  rw [if_pos (Or.inr h)]
theorem nDm_58 {m : MkA} (h : m.k = 58) : nDm m = 1 := by
  unfold nDm
  rw [h, if_neg (by decide)]
theorem popC_f : ∀ {M : List MkA} {H : List Nat} {d : Nat} {r : List MkA × List Nat × Nat}, popC M H d = some r → H.length = nH M + 1 → r.2.1.length = nH r.1 + 1 ∧ nH r.1 ≤ nH M ∧ (nD M ≤ d → nD r.1 ≤ r.2.2) ∧ r.1.length ≤ M.length ∧ r.2.2 ≤ d ∧ (∀ m, m ∈ r.1 → m ∈ M) := by
  intro M
  induction M with
  | nil =>
    intro H d r e hH
    have e : some ([], H, d) = some r := e
    cases e
    exact ⟨hH, Nat.le_refl _, fun q => q, Nat.le_refl _, Nat.le_refl _, fun m q => q⟩
  | cons m M ih =>
    intro H d r e hH
    have e : (if m.k = 58 then (if m.q = 1 ∧ H.tail.headD 0 = H.headD 0 then popC M (H.tail.headD 0 :: H.tail.tail) (d - 1) else none) else some (m :: M, H, d)) = some r := e
    by_cases c : m.k = 58
    · rw [if_pos c] at e
      have b1 : nH (m :: M) = nHm m + nH M := rfl
      have b2 : nD (m :: M) = nDm m + nD M := rfl
      rw [b1, nHm_58 c] at hH
      rw [b1, b2, nHm_58 c, nDm_58 c]
      by_cases c2 : m.q = 1 ∧ H.tail.headD 0 = H.headD 0
      · rw [if_pos c2] at e
        obtain ⟨a1, a2, a3, a4, a5, a6⟩ := ih e (by rw [List.length_cons, List.length_tail, List.length_tail]; omega)
        exact ⟨a1, by omega, fun q => a3 (by omega), by rw [List.length_cons]; omega, by omega, fun n q => List.mem_cons_of_mem _ (a6 n q)⟩
      · rw [if_neg c2] at e; exact absurd e (by simp [MkA.k, MkA.c, MkA.q])
    · rw [if_neg c] at e
      cases e
      exact ⟨hH, Nat.le_refl _, fun q => q, Nat.le_refl _, Nat.le_refl _, fun m q => q⟩
section ECH
variable {X : TX} {J P : Nat}
theorem aim_e {g : mv_H} {x : Int32} (hx : x.toInt < 32768) : ∃ h', f_Program_aim P g x = some h' ∧ mv_i h' = mv_i g ∧ mv_a h' = mv_a g ∧ (∀ o, ¬ o = P + 10 → mv_b h' o = mv_b g o) := by
  unfold f_Program_aim
  by_cases c : x < (0 : Int32)
  · rw [if_pos c]; exact ⟨g, rfl, rfl, rfl, fun _ _ => rfl⟩
  · have hx0 : 0 ≤ x.toInt := by
      have := Int32.not_lt.mp c
      exact Int32.le_iff_toInt_le.mp this
    have : xvi x 32768 = true := xvi_in.mpr (i32_in (by omega) (by omega))
    rw [if_neg c, this, cond_true, xk_s]
    exact ⟨_, rfl, rfl, rfl, fun o ho => funext fun i => mv_u_ne (mv_b g) _ (by omega)⟩
theorem FMq.eq {g g' : mv_H} {a k : Nat} {M : List MkA} (E : FMq X J P g a M k) (ei : mv_i g' = mv_i g) (ea : mv_a g' = mv_a g) (eb : mv_b g' 6 = mv_b g 6) : FMq X J P g' a M k :=
  ⟨⟨E.f.tb.fr (by rw [ea]) (by rw [ea]) eb, E.f.pp, by rw [ei]; exact E.f.at', E.f.a2, by rw [ei]; exact E.f.ml, by rw [ei]; exact E.f.hl, by rw [ei]; exact E.f.sz⟩, MR.fr (h := g) (by rw [ea]) E.mr (fun i _ => by rw [ea]; exact ⟨rfl, rfl, rfl, rfl⟩)⟩
theorem CXq.eq {g g' : mv_H} {j d : Nat} {M : List MkA} {H : List Nat} (C : CXq X J P g j d M H) (ei : mv_i g' = mv_i g) (ea : mv_a g' = mv_a g) (eb : mv_b g' 6 = mv_b g 6) : CXq X J P g' j d M H :=
  C.of (C.fm.eq ei ea eb).f C.jJ (by rw [ei]; exact C.dp) C.d2 (by rw [ei]; exact C.ok) (by rw [ei]; exact C.no) (C.fm.eq ei ea eb).mr (HR.fr (h := g) C.hr (fun i _ => by rw [ea])) C.sm
theorem Fl.eq {g g' : mv_H} (F : Fl g) (ei : mv_i g' = mv_i g) : Fl g' := by unfold Fl; rw [ei]; exact F
theorem c145_f {h : mv_H} {a k : Nat} {M : List MkA} (E : FMq X J P h a M k) (hk : k < 1024) (K : Int32 → mv_H → Option mv_H) (x3 x5 : Int32) {x1 : Nat} (hx : x1 < 1000) : ∃ h', f_Exprs_endChoices_145 P K (nI x1) x3 x5 h = K (nI (x1 + 1)) h' ∧ FMq X J P h' a M (k + 1) ∧ (Fl h → Fl h') := by
  have q : ∀ y, ∃ h', f_Exprs_endChoices_156 P K (nI x1) y h = K (nI (x1 + 1)) h' ∧ FMq X J P h' a M (k + 1) ∧ (Fl h → Fl h') := fun y => by
    obtain ⟨h3, e3, E3, F3⟩ := E.hold hk y
    unfold f_Exprs_endChoices_156
    rw [e3, xhv_s, nI1 (by omega)]
    exact ⟨h3, rfl, E3, F3⟩
  unfold f_Exprs_endChoices_145
  by_cases c : x5 = 0
  · rw [if_pos c]; exact q x3
  · rw [if_neg c]; exact q 0
theorem c128_f {h : mv_H} {a k : Nat} {M : List MkA} (E : FMq X J P h a M k) (hk : k < 1024) (hM : M.length < 1024) {t : Nat} (h24 : mv_a h 24 M.length = nI t) (ht : t < 32770) (K : Int32 → mv_H → Option mv_H) (x3 : Int32) {x1 : Nat} (hx : x1 < 1000) : ∃ h', f_Exprs_endChoices_128 P K (nI x1) x3 h = K (nI (x1 + 1)) h' ∧ FMq X J P h' a M (k + 1) ∧ Fl h' := by
  obtain ⟨h1, e1, E1, F1, -⟩ := E.tell ht (x := 4) (by decide)
  obtain ⟨h2, e2, E2, F2⟩ := c145_f E1 hk K x3 1 hx
  unfold f_Exprs_endChoices_128
  rw [E.f.ml, xvi_n hM (by decide), cond_true, cln (by omega), h24, e1, xhv_s]
  exact ⟨h2, e2, E2, F2 F1⟩
theorem c110_f {h : mv_H} {a k : Nat} {M : List MkA} (E : FMq X J P h a M k) (hk : k < 1024) (hM : M.length < 1024) {t : Nat} (h24 : mv_a h 24 M.length = nI t) (ht : t < 32770) (K : Int32 → mv_H → Option mv_H) (x2 x3 x4 y0 : Int32) {x1 : Nat} (hx : x1 < 1000) : ∃ h', f_Exprs_endChoices_110 P K (nI x1) x2 x3 x4 y0 h = K (nI (x1 + 1)) h' ∧ FMq X J P h' a M (k + 1) ∧ (Fl h → Fl h') := by
  have q : ∃ h', f_Exprs_endChoices_128 P K (nI x1) x3 h = K (nI (x1 + 1)) h' ∧ FMq X J P h' a M (k + 1) ∧ (Fl h → Fl h') := by
    obtain ⟨h', e, E', F⟩ := c128_f E hk hM h24 ht K x3 hx
    exact ⟨h', e, E', fun _ => F⟩
  unfold f_Exprs_endChoices_110
  by_cases c1 : y0 = 0
  · rw [if_pos c1]
    by_cases c2 : x4 = 1
    · rw [if_pos c2]
      by_cases c3 : x3 = x2
      · rw [if_pos c3]; exact c145_f E hk K x3 y0 hx
      · rw [if_neg c3]; exact q
    · rw [if_neg c2]; exact q
  · rw [if_neg c1]; exact c145_f E hk K x3 y0 hx
/-- the choices, in any state -/
theorem ech_f : ∀ (n x1 : Nat) (M : List MkA) (h : mv_H) {a : Nat}, FMq X J P h a M (nH M + 1) → M.length ≤ 1000 → nH M < 1000 → x1 ≤ 61 → 62 ≤ n + x1 → ∃ h' M', f_Exprs_endChoices_2 P n (nI x1) h = some h' ∧ FMq X J P h' a M' (nH M' + 1) ∧ nH M' ≤ nH M ∧ M'.length ≤ M.length ∧ (Fl h → Fl h') := by
  intro n
  induction n with
  | zero => intro x1 M h a _ _ _ _ _; omega
  | succ n ih =>
    intro x1 M h a E hM hk hx hn
    show ∃ h' M', fF_Exprs_endChoices_2 P (f_Exprs_endChoices_2 P n) (nI x1) h = some h' ∧ _
    have here : ∃ h' M', some h = some h' ∧ FMq X J P h' a M' (nH M' + 1) ∧ nH M' ≤ nH M ∧ M'.length ≤ M.length ∧ (Fl h → Fl h') := ⟨h, M, rfl, E, Nat.le_refl _, Nat.le_refl _, fun f => f⟩
    unfold fF_Exprs_endChoices_2
    by_cases c : 60 < x1
    · rw [if_pos (show (60 : Int32) < nI x1 from (nIlt (a := 60) (by omega) (by omega)).mpr c)]
      exact here
    rw [if_neg (show ¬ (60 : Int32) < nI x1 from fun z => c ((nIlt (a := 60) (by omega) (by omega)).mp z))]
    cases M with
    | nil =>
      rw [if_pos (show mv_i h 22 8 ≤ 0 by rw [E.f.ml]; decide)]
      exact here
    | cons m M =>
      have hM' : M.length + 1 ≤ 1000 := hM
      have eml : mv_i h 22 8 = nI (M.length + 1) := E.f.ml
      have em : mv_i h 22 8 - 1 = nI M.length := by rw [eml]; exact nIsub (a := M.length + 1) (b := 1) (by omega) (by omega)
      obtain ⟨q1, q2, q3, ⟨t, q4, q5⟩, q6, q7, q8⟩ := E.mr.1
      rw [if_neg (show ¬ mv_i h 22 8 ≤ 0 by rw [eml]; exact fun z => by have := (nIle (b := 0) (by omega) (by omega)).mp z; omega), em, xvi_n (by omega) (by decide), cond_true, cln (by omega), q1]
      by_cases c2 : m.k = 58
      rotate_left
      · rw [if_neg (show ¬ nI m.k = (58 : Int32) from fun z => c2 ((nIinj (b := 58) (by omega) (by omega)).mp z))]
        exact here
      rw [if_pos (show nI m.k = (58 : Int32) by rw [c2]; rfl), xk_s, xk_s]
      have b1 : nH (m :: M) = nHm m + nH M := rfl
      have b2 := nHm_58 c2
      obtain ⟨r25, r26, r27⟩ := q8 (Or.inr c2)
      have E1 : FMq X J P (mv_si (mv_si h 22 8 (nI M.length)) 3 8 (mv_i (mv_si h 22 8 (nI M.length)) 3 8 - 1)) a M (nH M + 1 + 1) := by
        have := (E.pop).dd (mv_i (mv_si h 22 8 (nI M.length)) 3 8 - 1)
        rw [b1, b2, show 1 + nH M + 1 = nH M + 1 + 1 by omega] at this
        exact this
      have F1 : Fl h → Fl (mv_si (mv_si h 22 8 (nI M.length)) 3 8 (mv_i (mv_si h 22 8 (nI M.length)) 3 8 - 1)) := fun f => (f.pop _).si (by omega) (by omega) _
      have m1 : mv_i (mv_si (mv_si h 22 8 (nI M.length)) 3 8 (mv_i (mv_si h 22 8 (nI M.length)) 3 8 - 1)) 22 8 = nI M.length := rfl
      have a1 : mv_a (mv_si (mv_si h 22 8 (nI M.length)) 3 8 (mv_i (mv_si h 22 8 (nI M.length)) 3 8 - 1)) = mv_a h := rfl
      revert E1 F1 m1 a1
      generalize mv_si (mv_si h 22 8 (nI M.length)) 3 8 (mv_i (mv_si h 22 8 (nI M.length)) 3 8 - 1) = g1
      intro E1 F1 m1 a1
      have hpp := E1.f.pp
      rw [m1, xvi_n (by omega) (by decide), cond_true, cln (by omega), a1]
      obtain ⟨g2, e2, i2, a2, bb2⟩ := aim_e (P := P) (g := g1) r25
      have E2 := E1.eq i2 a2 (bb2 6 (by omega))
      obtain ⟨e3, E3, F3⟩ := E2.rel (by omega)
      obtain ⟨e4, E4, F4⟩ := E3.rel (by omega)
      have m4 : mv_i (mv_si (mv_si g2 22 10 (nI (nH M + 1))) 22 10 (nI (nH M))) 22 8 = nI M.length := by
        show mv_i g2 22 8 = _
        rw [i2]; exact m1
      have a4 : mv_a (mv_si (mv_si g2 22 10 (nI (nH M + 1))) 22 10 (nI (nH M))) = mv_a h := by
        show mv_a g2 = _
        rw [a2]; exact a1
      rw [e2, xhv_s, e3, xhb_s, e4, xhb_s, m4, xvi_n (by omega) (by decide), cond_true, cln (by omega)]
      have h24 : mv_a (mv_si (mv_si g2 22 10 (nI (nH M + 1))) 22 10 (nI (nH M))) 24 M.length = nI t := by rw [a4]; exact q4
      have fin : ∀ v2 v3 v4 y, ∃ h' M', f_Exprs_endChoices_110 P (f_Exprs_endChoices_2 P n) (nI x1) v2 v3 v4 y (mv_si (mv_si g2 22 10 (nI (nH M + 1))) 22 10 (nI (nH M))) = some h' ∧ FMq X J P h' a M' (nH M' + 1) ∧ nH M' ≤ nH (m :: M) ∧ M'.length ≤ (m :: M).length ∧ (Fl h → Fl h') := fun v2 v3 v4 y => by
        obtain ⟨h5, e5, E5, F5⟩ := c110_f E4 (by omega) (by omega) h24 q5 (f_Exprs_endChoices_2 P n) v2 v3 v4 y (x1 := x1) (by omega)
        obtain ⟨h', M', e6, r1, r2, r3, r4⟩ := ih (x1 + 1) M h5 E5 (by omega) (by omega) (by omega) (by omega)
        rw [e5]
        exact ⟨h', M', e6, r1, by omega, by rw [List.length_cons]; omega, fun f => r4 (F5 (F4 (F3 ((F1 f).eq i2))))⟩
      unfold f_Exprs_endChoices_105
      split
      · exact fin _ _ _ _
      split
      · exact fin _ _ _ _
      split
      · exact fin _ _ _ _
      · exact fin _ _ _ _
/-- the choices -/
theorem ech_C : ∀ (n x1 : Nat) (M : List MkA) (h : mv_H) {j d : Nat} {H : List Nat}, CXq X J P h j d M H → H.length = nH M + 1 → (∀ m, m ∈ M → m.k = 58 → 0 < m.q) → M.length ≤ 1000 → nH M < 1000 → nD M ≤ d → x1 + d ≤ 60 → 62 ≤ n + x1 → ∃ h', f_Exprs_endChoices_2 P n (nI x1) h = some h' ∧ match popC M H d with
    | some r => CXq X J P h' j r.2.2 r.1 r.2.1
    | none => ∃ M', FMq X J P h' (j + 1) M' (nH M' + 1) ∧ nH M' ≤ nH M ∧ M'.length ≤ M.length ∧ Fl h' := by
  intro n
  induction n with
  | zero => intro x1 M h j d H _ _ _ _ _ _ _ _; omega
  | succ n ih =>
    intro x1 M h j d H C hH hq hM hk hd hx hn
    show ∃ h', fF_Exprs_endChoices_2 P (f_Exprs_endChoices_2 P n) (nI x1) h = some h' ∧ _
    unfold fF_Exprs_endChoices_2
    rw [if_neg (show ¬ (60 : Int32) < nI x1 from fun z => by have := (nIlt (a := 60) (by omega) (by omega)).mp z; omega)]
    cases M with
    | nil =>
      rw [if_pos (show mv_i h 22 8 ≤ 0 by rw [C.ml]; decide)]
      exact ⟨h, rfl, C⟩
    | cons m M =>
      have hM' : M.length + 1 ≤ 1000 := hM
      have eml : mv_i h 22 8 = nI (M.length + 1) := C.ml
      have em : mv_i h 22 8 - 1 = nI M.length := by rw [eml]; exact nIsub (a := M.length + 1) (b := 1) (by omega) (by omega)
      obtain ⟨q1, q2, q3, ⟨t, q4, q5⟩, q6, q7, q8⟩ := C.mr.1
      have ePop : popC (m :: M) H d = if m.k = 58 then (if m.q = 1 ∧ H.tail.headD 0 = H.headD 0 then popC M (H.tail.headD 0 :: H.tail.tail) (d - 1) else none) else some (m :: M, H, d) := rfl
      rw [if_neg (show ¬ mv_i h 22 8 ≤ 0 by rw [eml]; exact fun z => by have := (nIle (b := 0) (by omega) (by omega)).mp z; omega), em, xvi_n (by omega) (by decide), cond_true, cln (by omega), q1, ePop]
      by_cases c2 : m.k = 58
      rotate_left
      · rw [if_neg (show ¬ nI m.k = (58 : Int32) from fun z => c2 ((nIinj (b := 58) (by omega) (by omega)).mp z)), if_neg c2]
        exact ⟨h, rfl, C⟩
      have b1 : nH (m :: M) = nHm m + nH M := rfl
      have b2 := nHm_58 c2
      have hd2 : nDm m + nD M ≤ d := hd
      rw [nDm_58 c2] at hd2
      have hd60 := C.d2
      have e8' : mv_i (mv_si h 22 8 (nI M.length)) 3 8 - 1 = nI (d - 1) := by
        rw [pop22 h _ (by omega), C.dp]; exact nIsub (b := 1) (by omega) (by omega)
      rw [if_pos (show nI m.k = (58 : Int32) by rw [c2]; rfl), if_pos c2, xk_s, e8', xk_s]
      have C1 := (C.pop).dd (d2 := d - 1) (by omega)
      have m1 : mv_i (mv_si (mv_si h 22 8 (nI M.length)) 3 8 (nI (d - 1))) 22 8 = nI M.length := rfl
      have a1 : mv_a (mv_si (mv_si h 22 8 (nI M.length)) 3 8 (nI (d - 1))) = mv_a h := rfl
      revert C1 m1 a1
      generalize mv_si (mv_si h 22 8 (nI M.length)) 3 8 (nI (d - 1)) = g1
      intro C1 m1 a1
      obtain ⟨r25, r26, r27⟩ := q8 (Or.inr c2)
      have hpp := C1.pp
      cases H with
      | nil => exact absurd hH (by rw [List.length_nil]; omega)
      | cons y H =>
      cases H with
      | nil => exact absurd hH (by rw [b1, b2, List.length_cons, List.length_nil]; omega)
      | cons x H =>
      have hH' : H.length = nH M := by
        rw [b1, b2, List.length_cons, List.length_cons] at hH
        omega
      rw [m1, xvi_n (by omega) (by decide), cond_true, cln (by omega), a1]
      obtain ⟨g2, e2, i2, a2, bb2⟩ := aim_e (P := P) (g := g1) r25
      have C2 := C1.eq i2 a2 (bb2 6 (by omega))
      obtain ⟨e3, C3, y1, y2, y3⟩ := C2.rel (show H.length + 1 < 1024 by omega)
      obtain ⟨e4, C4, x1', x2', x3'⟩ := C3.rel (by omega)
      have m4 : mv_i (mv_si (mv_si g2 22 10 (nI (x :: H).length)) 22 10 (nI H.length)) 22 8 = nI M.length := by
        show mv_i g2 22 8 = _
        rw [i2]; exact m1
      have a4 : mv_a (mv_si (mv_si g2 22 10 (nI (x :: H).length)) 22 10 (nI H.length)) = mv_a h := by
        show mv_a g2 = _
        rw [a2]; exact a1
      rw [e2, xhv_s, e3, xhb_s, e4, xhb_s, m4, xvi_n (by omega) (by decide), cond_true, cln (by omega), a4, r26]
      have h24 : mv_a (mv_si (mv_si g2 22 10 (nI (x :: H).length)) 22 10 (nI H.length)) 24 M.length = nI t := by rw [a4]; exact q4
      have hq0 := hq m (List.mem_cons_self) c2
      have n1 : ¬ nI m.q = (0 : Int32) := fun z => by have := (nIinj (b := 0) (by omega) (by omega)).mp z; omega
      have n2 : ¬ nI x = (0 : Int32) := fun z => by have := (nIinj (b := 0) (by omega) (by omega)).mp z; omega
      have n3 : ¬ nI y = (0 : Int32) := fun z => by have := (nIinj (b := 0) (by omega) (by omega)).mp z; omega
      rw [if_neg n1, if_neg n2, if_neg n3]
      unfold f_Exprs_endChoices_110
      rw [if_pos rfl]
      show ∃ h', _ ∧ match (if m.q = 1 ∧ x = y then popC M (x :: H) (d - 1) else none) with
        | some r => CXq X J P h' j r.2.2 r.1 r.2.1
        | none => ∃ M', FMq X J P h' (j + 1) M' (nH M' + 1) ∧ nH M' ≤ nH (m :: M) ∧ M'.length ≤ (m :: M).length ∧ Fl h'
      have bad : ¬ (m.q = 1 ∧ x = y) → ∃ h', f_Exprs_endChoices_128 P (f_Exprs_endChoices_2 P n) (nI x1) (nI x) (mv_si (mv_si g2 22 10 (nI (x :: H).length)) 22 10 (nI H.length)) = some h' ∧ match (if m.q = 1 ∧ x = y then popC M (x :: H) (d - 1) else none) with
          | some r => CXq X J P h' j r.2.2 r.1 r.2.1
          | none => ∃ M', FMq X J P h' (j + 1) M' (nH M' + 1) ∧ nH M' ≤ nH (m :: M) ∧ M'.length ≤ (m :: M).length ∧ Fl h' := fun z => by
        obtain ⟨h5, e5, E5, F5⟩ := c128_f C4.fm (by omega) (by omega) h24 q5 (f_Exprs_endChoices_2 P n) (nI x) (x1 := x1) (by omega)
        rw [hH'] at E5
        obtain ⟨h', M', e6, s1, s2, s3, s4⟩ := ech_f n (x1 + 1) M h5 E5 (by omega) (by omega) (by omega) (by omega)
        rw [e5, if_neg z]
        exact ⟨h', e6, M', s1, by omega, by rw [List.length_cons]; omega, s4 F5⟩
      by_cases c3 : m.q = 1
      rotate_left
      · rw [if_neg (show ¬ nI m.q = (1 : Int32) from fun z => c3 ((nIinj (b := 1) (by omega) (by omega)).mp z))]
        exact bad (fun z => c3 z.1)
      rw [if_pos (show nI m.q = (1 : Int32) by rw [c3]; rfl)]
      by_cases c4 : x = y
      rotate_left
      · rw [if_neg (fun z => c4 ((nIinj (by omega) (by omega)).mp z))]
        exact bad (fun z => c4 z.2)
      rw [if_pos (by rw [c4]), if_pos ⟨c3, c4⟩]
      obtain ⟨h5, e5, C5⟩ := C4.hold (by omega) x1' x3'
      unfold f_Exprs_endChoices_145 f_Exprs_endChoices_156
      rw [if_pos rfl, e5, xhv_s, nI1 (by omega)]
      obtain ⟨h', e6, s⟩ := ih (x1 + 1) M h5 C5 (by rw [List.length_cons]; omega) (fun n' q => hq n' (List.mem_cons_of_mem _ q)) (by omega) (by omega) (by omega) (by omega) (by omega)
      refine ⟨h', e6, ?_⟩
      revert s
      cases popC M (x :: H) (d - 1) with
      | some r => exact fun s => s
      | none =>
        intro ⟨M', s1, s2, s3, s4⟩
        exact ⟨M', s1, by omega, by rw [List.length_cons]; omega, s4⟩
end ECH
section OTH
variable {X : TX} {J P : Nat}
/-- : in a choice, in any state -/
theorem oth_f {h : mv_H} {a k : Nat} {m : MkA} {M : List MkA} (E : FMq X J P h a (m :: M) k) (ha : a + 1 < 32000) (hM : M.length < 1000) (hm : m.k = 63) : ∃ h', f_Exprs_otherwise P h = some h' ∧ (Fl h → Fl h') := by
  obtain ⟨q1, q2, q3, q4, q6, q7, q8⟩ := E.mr.1
  obtain ⟨r25, -, -⟩ := q8 (Or.inl hm)
  obtain ⟨v, h1, a1, e1, -, E1, -, F1, ea1⟩ := take_t E.f ha (t := 58) (by decide)
  have em : mv_i h1 22 8 - 1 = nI M.length := by rw [E1.ml]; exact nIsub (a := M.length + 1) (b := 1) (by omega) (by omega)
  obtain ⟨w, h5, e5, -, E5, F5, -, -, -⟩ := emit_f (E1.sa (o := 23) (i := M.length) (by omega) (by omega) 58) 311 0
  have em2 : mv_i (mv_sa h1 23 M.length 58) 22 8 - 1 = nI M.length := em
  obtain ⟨h6, e6, i6, -, -⟩ := aim_e (P := P) (g := mv_sa h5 25 M.length w) (x := mv_a h 25 M.length) r25
  unfold f_Exprs_otherwise
  rw [e1, xhb_s, em, xvi_n (by omega) (by decide), cond_true, cond_true, xk_s, cln (by omega), e5, xhb_s, em2, xvi_n (by omega) (by decide), cond_true, xk_s, cln (by omega), ea1, e6, xhv_s]
  exact ⟨h6, rfl, fun f => (show Fl (mv_sa h5 25 M.length w) from F5 (F1 f)).eq i6⟩
/-- : in a choice -/
theorem oth_C {h : mv_H} {j d : Nat} {m : MkA} {M : List MkA} {H : List Nat} (C : CXq X J P h j d (m :: M) H) (hM : M.length < 1000) (hm : m.k = 63) (hk : X.kd j = 58) (hJ : X.kd J = 1 ∨ X.kd J = 2) : ∃ h', f_Exprs_otherwise P h = some h' ∧ CXq X J P h' (j + 1) d (⟨58, 0, m.q⟩ :: M) H := by
  have hpp := C.pp
  have p23 : ¬ 23 = P + 9 ∧ ¬ 24 = P + 9 ∧ ¬ 25 = P + 9 ∧ ¬ 26 = P + 9 ∧ ¬ 27 = P + 9 := by omega
  have hj1 := nxJ hJ C.jJ (by omega) (by omega)
  have C1 := C.nx hj1
  have e1 : f_Tokens_take h 58 = _ := C.tk hk
  revert C1 e1
  generalize mv_si h 3 7 (nI (j + 2)) = h1
  intro C1 e1
  obtain ⟨q1, q2, q3, ⟨t, q4, q5⟩, q6, q7, q8⟩ := C1.mr.1
  obtain ⟨r25, r26, r27⟩ := q8 (Or.inl hm)
  have em : mv_i h1 22 8 - 1 = nI M.length := by rw [C1.ml]; exact nIsub (a := M.length + 1) (b := 1) (by omega) (by omega)
  obtain ⟨w, h5, e5, hw, E5, F5, i5, a5, b5⟩ := emit_f (C1.f.sa (o := 23) (i := M.length) (by omega) (by omega) 58) 311 0
  have em2 : mv_i (mv_sa h1 23 M.length 58) 22 8 - 1 = nI M.length := em
  obtain ⟨h6, e6, i6, a6, b6⟩ := aim_e (P := P) (g := mv_sa h5 25 M.length w) (x := mv_a h1 25 M.length) r25
  refine ⟨h6, ?_, ?_⟩
  · unfold f_Exprs_otherwise
    rw [e1, xhb_s, em, xvi_n (by omega) (by decide), cond_true, cond_true, xk_s, cln (by omega), e5, xhb_s, em2, xvi_n (by omega) (by decide), cond_true, xk_s, cln (by omega), e6, xhv_s]
  · have E6 := E5.sa (o := 25) (i := M.length) (by omega) (by omega) w
    have ei : ∀ o f, ¬ (o = P ∧ f = 17) → mv_i h6 o f = mv_i h1 o f := fun o f p1 => by
      rw [i6]
      show mv_i h5 o f = _
      rw [i5 o f p1]; rfl
    have ea : ∀ o i, ¬ o = P + 9 → mv_a h6 o i = if o = 25 ∧ i = M.length then w else if o = 23 ∧ i = M.length then 58 else mv_a h1 o i := fun o i p1 => by
      rw [a6]
      show (if o = 25 ∧ i = M.length then w else mv_a h5 o i) = _
      rw [a5 o p1]
      rfl
    have E7 : FXq X J P h6 (j + 1 + 1) (M.length + 1) H.length := ⟨E6.tb.fr (by rw [a6]) (by rw [a6]) (b6 6 (by omega)), hpp, by rw [i6]; exact E6.at', E6.a2, by rw [i6]; exact E6.ml, by rw [i6]; exact E6.hl, by rw [i6]; exact E6.sz⟩
    refine C1.of (M' := ⟨58, 0, m.q⟩ :: M) (H' := H) E7 hj1 ((ei 3 8 (by omega)).trans C1.dp) C1.d2 ((ei 3 9 (by omega)).trans C1.ok) ((ei 21 0 (by omega)).trans C1.no) ⟨⟨?_, (by decide : (58 : Nat) < 400), Nat.zero_le _, ⟨t, ?_, q5⟩, fun z => ?_, fun z => ?_, fun _ => ⟨?_, ?_, r27⟩⟩, ?_⟩ ?_ C1.sm
    · show mv_a h6 23 M.length = nI 58
      rw [ea 23 M.length p23.1, if_neg (by simp [MkA.k, MkA.c, MkA.q]), if_pos ⟨rfl, rfl⟩]; rfl
    · rw [ea 24 M.length p23.2.1, if_neg (by simp [MkA.k, MkA.c, MkA.q]), if_neg (by simp [MkA.k, MkA.c, MkA.q])]; exact q4
    · have z : (58 : Nat) = 123 ∨ (211 ≤ (58 : Nat) ∧ (58 : Nat) ≤ 216) := z
      omega
    · have z : (58 : Nat) = 91 := z
      omega
    · rw [ea 25 M.length p23.2.2.1, if_pos ⟨rfl, rfl⟩]; exact hw
    · rw [ea 26 M.length p23.2.2.2.1, if_neg (by simp [MkA.k, MkA.c, MkA.q]), if_neg (by simp [MkA.k, MkA.c, MkA.q])]; exact r26
    · refine MR.fr (h := h1) (funext fun i => ?_) C1.mr.2 (fun i hi => ?_)
      · rw [ea (P + 1) _ (by omega), if_neg (by omega), if_neg (by omega)]
      · have q : ∀ o, ¬ o = P + 9 → mv_a h6 o i = mv_a h1 o i := fun o ho => by
          rw [ea o _ ho, if_neg (by omega), if_neg (by omega)]
        exact ⟨q 23 (by omega), q 24 (by omega), q 25 (by omega), q 26 (by omega)⟩
    · exact HR.fr (h := h1) C1.hr (fun i hi => by rw [ea 27 _ (by omega), if_neg (by omega), if_neg (by omega)])
/-- ] of a file's cell, in any state -/
theorem cel_f {h : mv_H} {a k : Nat} {m : MkA} {M : List MkA} (E : FMq X J P h a (m :: M) (k + 1)) (hk : k < 1024) (ha : a + 1 < 32000) (hM : M.length < 1000) (hm : m.k = 91) : ∃ h', f_Exprs_cell P h = some h' ∧ (Fl h → Fl h') := by
  have hpp := E.f.pp
  obtain ⟨q1, q2, q3, q4, q6, q7, q8⟩ := E.mr.1
  obtain ⟨u, u1, u2, u3⟩ := q7 hm
  obtain ⟨v, h1, a1, e1, -, E1, -, F1, ea1⟩ := close_t E.f ha (t := 93) (by decide)
  have em : mv_i h1 22 8 - 1 = nI M.length := by rw [E1.ml]; exact nIsub (a := M.length + 1) (b := 1) (by omega) (by omega)
  have E2 : FXq X J P (mv_si h1 22 8 (nI M.length)) a1 M.length (k + 1) := by
    refine ⟨E1.tb.fr rfl rfl rfl, E1.pp, E1.at', E1.a2, rfl, E1.hl, ?_⟩
    obtain ⟨z, e, hz⟩ := E1.sz
    exact ⟨z, (mv_u_ne (mv_i h1) _ (by omega)).trans e, hz⟩
  have m2 : mv_i (mv_si h1 22 8 (nI M.length)) 22 8 = nI M.length := rfl
  have a2 : mv_a (mv_si h1 22 8 (nI M.length)) 25 M.length = nI u := by
    show mv_a h1 25 M.length = _
    rw [ea1]; exact u1
  obtain ⟨w, h3, e3, -, E3, F3, -, -, -⟩ := emit_f E2 304 ((nI u).toInt64)
  obtain ⟨e4, E4, F4⟩ := rel_f E3 hk
  unfold f_Exprs_cell
  rw [e1, xhb_s, em, xk_s, m2, xvi_n (by omega) (by decide), cond_true, cln (by omega), a2, e3, xhb_s, e4, xhb_s, xvi_n (show u < 64 by omega) (by decide), cond_true]
  have fin : ∀ y, ∃ h', f_Exprs_cell_66 P y (mv_si h3 22 10 (nI k)) = some h' ∧ (Fl h → Fl h') := fun y => by
    obtain ⟨e5, -, F5⟩ := hold_f E4 hk y
    unfold f_Exprs_cell_66
    rw [e5, xhv_s]
    exact ⟨_, rfl, fun f => F5 (F4 (F3 ((F1 f).pop _)))⟩
  by_cases c : mv_a h3 27 k = 0
  · rw [if_pos c]; exact fin 0
  · rw [if_neg c]; exact fin _
/-- ] of a file's cell -/
theorem cel_C {h : mv_H} {j d w : Nat} {m : MkA} {M : List MkA} {H : List Nat} (C : CXq X J P h j (d + 1) (m :: M) (w :: H)) (hM : M.length < 1000) (hH : H.length < 1000) (hc : 0 < m.c) (hm : m.k = 91) (hk : X.kd j = 93) (hJ : X.kd J = 1 ∨ X.kd J = 2) : ∃ h', f_Exprs_cell P h = some h' ∧ CXq X J P h' (j + 1) d M (m.c :: H) := by
  have hpp := C.pp
  have hj1 := nxJ hJ C.jJ (by omega) (by omega)
  obtain ⟨h1, e1, C1⟩ := C.cl hk hj1
  obtain ⟨q1, q2, q3, q4, q6, q7, q8⟩ := C1.mr.1
  obtain ⟨u, u1, u2, u3⟩ := q7 hm
  have em : mv_i h1 22 8 - 1 = nI M.length := by rw [C1.ml]; exact nIsub (a := M.length + 1) (b := 1) (by omega) (by omega)
  have m2 : mv_i (mv_si h1 22 8 (nI M.length)) 22 8 = nI M.length := rfl
  have a2 : mv_a (mv_si h1 22 8 (nI M.length)) 25 M.length = nI u := u1
  obtain ⟨x, h3, e3, -, C3, -, a3, -⟩ := (C1.pop).emit 304 ((nI u).toInt64)
  obtain ⟨e4, C4, w1, w2, w3⟩ := C3.rel (by omega)
  have ep : mv_a (mv_si h3 22 10 (nI H.length)) (P + 1) u = nI m.c := by
    show mv_a h3 (P + 1) u = _
    rw [a3 (P + 1) (by omega)]; exact u3
  have hs := C.sm
  have hsum : sumL (w :: H) = w + sumL H := rfl
  obtain ⟨h5, e5, C5⟩ := C4.hold (by omega) hc (by omega)
  unfold f_Exprs_cell f_Exprs_cell_66
  rw [show f_Tokens_close h 93 = _ from e1, xhb_s, em, xk_s, m2, xvi_n (by omega) (by decide), cond_true, cln (by omega), a2, e3, xhb_s, e4, xhb_s, xvi_n (show u < 64 by omega) (by decide), cond_true, if_neg (show ¬ nI w = (0 : Int32) from fun z => by have := (nIinj (b := 0) (by omega) (by omega)).mp z; omega), cln (by omega), ep, e5, xhv_s]
  exact ⟨h5, rfl, C5⟩
end OTH
section WID
variable {X : TX} {J P : Nat}
/-- the width judged -/
theorem w84_f {g : mv_H} {a m k : Nat} (E : FXq X J P g a m k) (hk : k < 1024) {t : Nat} (ht : t < 32770) (x1 x3 : Int32) (x4 : Int64) (y0 : Int32) : ∃ h', f_Exprs_widen_84 P x1 (nI t) x3 x4 y0 g = some h' ∧ (Fl g → Fl h') ∧ (¬ y0 = 0 → Fl h') := by
  have h140 : ∀ (g0 : mv_H) (y : Int32), FXq X J P g0 a m k → ∃ h', f_Exprs_widen_140 P y g0 = some h' ∧ (Fl g0 → Fl h') := fun g0 y E0 => by
    obtain ⟨e, -, F⟩ := hold_f E0 hk y
    unfold f_Exprs_widen_140
    rw [e, xhv_s]
    exact ⟨_, rfl, F⟩
  have h123 : ∀ g0, FXq X J P g0 a m k → ∃ h', f_Exprs_widen_123 P x3 x4 y0 g0 = some h' ∧ (Fl g0 → Fl h') := fun g0 E0 => by
    unfold f_Exprs_widen_123 f_Exprs_widen_133
    by_cases c1 : y0 = 0
    · rw [if_pos c1]
      by_cases c2 : x3 = 0
      · rw [if_pos c2]; exact h140 g0 _ E0
      · rw [if_neg c2]; exact h140 g0 _ E0
    · rw [if_neg c1]; exact h140 g0 _ E0
  have h97 : ∀ g0, FXq X J P g0 a m k → ∃ h', f_Exprs_widen_97 P x1 x3 x4 y0 g0 = some h' ∧ (Fl g0 → Fl h') := fun g0 E0 => by
    unfold f_Exprs_widen_97
    by_cases c : x1 = 211
    · rw [if_pos c]
      obtain ⟨w, g1, e1, -, E1, F1, -, -, -⟩ := emit_f E0 310 (((x3).toInt64) ||| (x4 <<< (((8 : Int32)).toInt64 &&& 63)))
      obtain ⟨h', e, F⟩ := h123 g1 E1
      rw [e1, xhb_s]
      exact ⟨h', e, fun f => F (F1 f)⟩
    · rw [if_neg c]; exact h123 g0 E0
  unfold f_Exprs_widen_84
  by_cases c : y0 = 0
  · rw [if_pos c]
    obtain ⟨h', e, F⟩ := h97 g E
    exact ⟨h', e, F, fun z => absurd c z⟩
  · rw [if_neg c]
    obtain ⟨g1, e1, E1, -, F1, -, -⟩ := tell_f E ht (x := 3) (by decide)
    obtain ⟨h', e, F⟩ := h97 g1 E1
    rw [e1, xhv_s]
    exact ⟨h', e, fun _ => F F1, fun _ => F F1⟩
/-- behind the number -/
def wT (P : Nat) (a0 v8 : Int32) (g7 : mv_H) : Option mv_H := xhb (f_Tokens_close g7 (41 : Int32)) fun v10 g9 => xk (mv_si g9 22 8 ((mv_i g9 22 8) - (1 : Int32))) fun g11 => xhb (f_Exprs_release g11) fun v13 g12 => bif xvi v8 32770 then if (lg_cmp (mv_b g12 6 (v8).toNatClampNeg) (1 : Int64)) < (0 : Int32) then (f_Exprs_widen_79 P a0 v8 v13 (mv_b g12 6 (v8).toNatClampNeg) g12) else (if (lg_cmp (mv_b g12 6 (v8).toNatClampNeg) ((v13).toInt64)) < (0 : Int32) then (f_Exprs_widen_79 P a0 v8 v13 (mv_b g12 6 (v8).toNatClampNeg) g12) else (if (lg_cmp (mv_b g12 6 (v8).toNatClampNeg) (64 : Int64)) ≤ (0 : Int32) then (f_Exprs_widen_84 P a0 v8 v13 (mv_b g12 6 (v8).toNatClampNeg) (0 : Int32) g12) else (f_Exprs_widen_79 P a0 v8 v13 (mv_b g12 6 (v8).toNatClampNeg) g12))) else none
theorem FXq.pop {g : mv_H} {a m k : Nat} (E : FXq X J P g a (m + 1) k) (hm : m < 1024) : mv_i g 22 8 - 1 = nI m ∧ FXq X J P (mv_si g 22 8 (nI m)) a m k := by
  have hpp := E.pp
  refine ⟨by rw [E.ml]; exact nIsub (a := m + 1) (b := 1) (by omega) (by omega), E.tb.fr rfl rfl rfl, hpp, E.at', E.a2, rfl, E.hl, ?_⟩
  obtain ⟨z, e, hz⟩ := E.sz
  exact ⟨z, (mv_u_ne (mv_i g) _ (by omega)).trans e, hz⟩
theorem wT_f {g : mv_H} {a m k t : Nat} (E : FXq X J P g a (m + 1) (k + 1)) (ha : a + 1 < 32000) (hm : m < 1024) (hk : k < 1024) (ht : t < 32770) (x1 : Int32) : ∃ h', wT P x1 (nI t) g = some h' ∧ (Fl g → Fl h') := by
  obtain ⟨v, g1, a1, e1, -, E1, -, F1, -⟩ := close_t E ha (t := 41) (by decide)
  obtain ⟨em, E2⟩ := E1.pop hm
  obtain ⟨e3, E3, F3⟩ := rel_f E2 hk
  unfold wT f_Exprs_widen_79
  rw [e1, xhb_s, em, xk_s, e3, xhb_s, xvi_n ht (by decide), cond_true]
  have fin : ∀ x3 x4 y0, ∃ h', f_Exprs_widen_84 P x1 (nI t) x3 x4 y0 (mv_si (mv_si g1 22 8 (nI m)) 22 10 (nI k)) = some h' ∧ (Fl g → Fl h') := fun x3 x4 y0 => by
    obtain ⟨h', e, F, -⟩ := w84_f E3 hk ht x1 x3 x4 y0
    exact ⟨h', e, fun f => F (F3 ((F1 f).pop _))⟩
  by_cases c1 : lg_cmp (mv_b (mv_si (mv_si g1 22 8 (nI m)) 22 10 (nI k)) 6 (nI t).toNatClampNeg) (1 : Int64) < (0 : Int32)
  · rw [if_pos c1]; exact fin _ _ _
  rw [if_neg c1]
  by_cases c2 : lg_cmp (mv_b (mv_si (mv_si g1 22 8 (nI m)) 22 10 (nI k)) 6 (nI t).toNatClampNeg) ((mv_a (mv_si g1 22 8 (nI m)) 27 k).toInt64) < (0 : Int32)
  · rw [if_pos c2]; exact fin _ _ _
  rw [if_neg c2]
  by_cases c3 : lg_cmp (mv_b (mv_si (mv_si g1 22 8 (nI m)) 22 10 (nI k)) 6 (nI t).toNatClampNeg) (64 : Int64) ≤ (0 : Int32)
  · rw [if_pos c3]; exact fin _ _ _
  · rw [if_neg c3]; exact fin _ _ _
/-- zext, sext: , number ) in any state -/
theorem wid_f {g : mv_H} {a m k : Nat} (E : FXq X J P g a (m + 1) (k + 1)) (ha : a + 3 < 32000) (hm : m < 1024) (hk : k < 1024) (x1 : Int32) : ∃ h', f_Exprs_widen P g x1 = some h' ∧ (Fl g → Fl h') := by
  obtain ⟨v1, g1, a1, e1, -, E1, b1, F1, -⟩ := take_t E (by omega) (t := 44) (by decide)
  obtain ⟨v2, g2, a2, e2, c2, E2, b2, F2, -⟩ := take_t E1 (by omega) (t := 4) (by decide)
  obtain ⟨h', e, F⟩ := wT_f E2 (by omega) hm hk (show v2 < 32770 by omega) x1
  unfold f_Exprs_widen
  rw [e1, xhb_s, e2, xhb_s]
  exact ⟨h', e, fun f => F (F2 (F1 f))⟩
/-- zext, sext: , number ) -/
theorem wid_C {h : mv_H} {j d w : Nat} {m : MkA} {M : List MkA} {H : List Nat} (C : CXq X J P h j (d + 1) (m :: M) (w :: H)) (hM : M.length < 1000) (hH : H.length < 1000) (hk : X.kd j = 44) (hJ : X.kd J = 1 ∨ X.kd J = 2) {x1 : Nat} (hx1 : x1 < 400) : ∃ h', f_Exprs_widen P h (nI x1) = some h' ∧ ((X.kd (j + 1) = 4 ∧ X.kd (j + 2) = 41 ∧ 1 ≤ X.nu (j + 1) ∧ X.nu (j + 1) ≤ 64 ∧ w ≤ X.nu (j + 1) ∧ CXq X J P h' (j + 3) d M (X.nu (j + 1) :: H)) ∨ (¬ (X.kd (j + 1) = 4 ∧ X.kd (j + 2) = 41 ∧ 1 ≤ X.nu (j + 1) ∧ X.nu (j + 1) ≤ 64 ∧ w ≤ X.nu (j + 1)) ∧ Fl h')) := by
  have hpp := C.pp
  have hjb := C.tb.jb
  have hj1 := nxJ hJ C.jJ (by omega) (by omega)
  have C1 := C.nx hj1
  have e1 : f_Tokens_take h 44 = _ := C.tk hk
  have eW : ∀ v1 g1, f_Tokens_take h 44 = some (v1, g1) → f_Exprs_widen P h (nI x1) = xhb (f_Tokens_take g1 (4 : Int32)) fun v8 g7 => wT P (nI x1) v8 g7 := fun v1 g1 e => by
    unfold f_Exprs_widen
    rw [e, xhb_s]
    rfl
  rw [eW _ _ e1]
  by_cases k4 : X.kd (j + 1) = 4
  rotate_left
  · obtain ⟨q, hq, e2⟩ := C1.tb' (k := 4) (by omega) k4
    have E2 : FXq X J P (mv_si (mv_si h 3 7 (nI (j + 2))) 3 9 (nI q)) (j + 1 + 1) (M.length + 1) (H.length + 1) := C1.f.si (by omega) (by omega) (by omega) (by omega) _
    have w2 : 0 ≤ (mv_i (mv_si (mv_si h 3 7 (nI (j + 2))) 3 9 (nI q)) 3 9).toInt := by
      show 0 ≤ (nI q).toInt
      rw [nIi (by omega)]; omega
    obtain ⟨h', e, F⟩ := wT_f (t := 0) E2 (by omega) (by omega) (by omega) (by omega) (nI x1)
    rw [show f_Tokens_take (mv_si h 3 7 (nI (j + 2))) 4 = _ from e2, xhb_s]
    exact ⟨h', e, Or.inr ⟨fun z => k4 z.1, F (Or.inl w2)⟩⟩
  have hj2 := nxJ hJ hj1 (by omega) (by omega)
  have C2 := C1.nx hj2
  rw [show f_Tokens_take (mv_si h 3 7 (nI (j + 2))) 4 = _ from C1.tk k4, xhb_s]
  revert C2
  generalize mv_si (mv_si h 3 7 (nI (j + 2))) 3 7 (nI (j + 1 + 2)) = g2
  intro C2
  unfold wT f_Exprs_widen_79
  rw [xvi_n (show j + 1 + 1 < 32770 by omega) (by decide)]
  simp only [cond_true]
  rw [cln (show j + 1 + 1 < 2147483648 by omega)]
  by_cases c41 : X.kd (j + 2) = 41
  rotate_left
  · obtain ⟨g3, e3, E3, w3⟩ := C2.cb (k := 41) (by omega) c41
    obtain ⟨em, E4⟩ := FXq.pop (m := M.length) E3 (by omega)
    obtain ⟨e5, E5, F5⟩ := rel_f (k := H.length) E4 (by omega)
    have fin : ∀ x3 x4 y0, ∃ h', f_Exprs_widen_84 P (nI x1) (nI (j + 1 + 1)) x3 x4 y0 (mv_si (mv_si g3 22 8 (nI M.length)) 22 10 (nI H.length)) = some h' ∧ ((X.kd (j + 1) = 4 ∧ X.kd (j + 2) = 41 ∧ 1 ≤ X.nu (j + 1) ∧ X.nu (j + 1) ≤ 64 ∧ w ≤ X.nu (j + 1) ∧ CXq X J P h' (j + 3) d M (X.nu (j + 1) :: H)) ∨ (¬ (X.kd (j + 1) = 4 ∧ X.kd (j + 2) = 41 ∧ 1 ≤ X.nu (j + 1) ∧ X.nu (j + 1) ≤ 64 ∧ w ≤ X.nu (j + 1)) ∧ Fl h')) := fun x3 x4 y0 => by
      obtain ⟨h', e, F, -⟩ := w84_f (t := j + 1 + 1) E5 (by omega) (by omega) (nI x1) x3 x4 y0
      exact ⟨h', e, Or.inr ⟨fun z => c41 z.2.1, F (F5 (Fl.pop (Or.inl w3) _))⟩⟩
    rw [show f_Tokens_close g2 41 = _ from e3, xhb_s, em, xk_s, e5, xhb_s]
    by_cases c1 : lg_cmp (mv_b (mv_si (mv_si g3 22 8 (nI M.length)) 22 10 (nI H.length)) 6 (j + 1 + 1)) (1 : Int64) < (0 : Int32)
    · rw [if_pos c1]; exact fin _ _ _
    rw [if_neg c1]
    by_cases c2 : lg_cmp (mv_b (mv_si (mv_si g3 22 8 (nI M.length)) 22 10 (nI H.length)) 6 (j + 1 + 1)) ((mv_a (mv_si g3 22 8 (nI M.length)) 27 H.length).toInt64) < (0 : Int32)
    · rw [if_pos c2]; exact fin _ _ _
    rw [if_neg c2]
    by_cases c3 : lg_cmp (mv_b (mv_si (mv_si g3 22 8 (nI M.length)) 22 10 (nI H.length)) 6 (j + 1 + 1)) (64 : Int64) ≤ (0 : Int32)
    · rw [if_pos c3]; exact fin _ _ _
    · rw [if_neg c3]; exact fin _ _ _
  have hj3 := nxJ hJ (j := j + 2) hj2 (by omega) (by omega)
  obtain ⟨g3, e3, C3⟩ := C2.cl c41 hj3
  have em : mv_i g3 22 8 - 1 = nI M.length := by rw [C3.ml]; exact nIsub (a := M.length + 1) (b := 1) (by omega) (by omega)
  obtain ⟨e5, C5, w1, w2, w3⟩ := (C3.pop).rel (by omega)
  rw [show f_Tokens_close g2 41 = _ from e3, xhb_s, em, xk_s, e5, xhb_s]
  have n1 := C5.tb.n (j + 1) hj1 k4
  revert C5 n1
  generalize mv_si (mv_si g3 22 8 (nI M.length)) 22 10 (nI H.length) = g5
  intro C5 n1
  rw [n1.1]
  have hA := n1.2
  have i1 : lg_cmp (nJ (X.nu (j + 1))) (1 : Int64) < 0 ↔ (X.nu (j + 1) < 1 ∨ 9223372036854775808 ≤ X.nu (j + 1)) := lc_lt hA (w := 1) (by omega)
  have i2 : lg_cmp (nJ (X.nu (j + 1))) ((nI w).toInt64) < 0 ↔ (X.nu (j + 1) < w ∨ 9223372036854775808 ≤ X.nu (j + 1)) := by
    rw [xI_l, xi2l_s (by omega)]
    exact lc_lt hA (by omega)
  have bad : ¬ (1 ≤ X.nu (j + 1) ∧ X.nu (j + 1) ≤ 64 ∧ w ≤ X.nu (j + 1)) → ∃ h', f_Exprs_widen_84 P (nI x1) (nI (j + 1 + 1)) (nI w) (nJ (X.nu (j + 1))) 1 g5 = some h' ∧ ((X.kd (j + 1) = 4 ∧ X.kd (j + 2) = 41 ∧ 1 ≤ X.nu (j + 1) ∧ X.nu (j + 1) ≤ 64 ∧ w ≤ X.nu (j + 1) ∧ CXq X J P h' (j + 3) d M (X.nu (j + 1) :: H)) ∨ (¬ (X.kd (j + 1) = 4 ∧ X.kd (j + 2) = 41 ∧ 1 ≤ X.nu (j + 1) ∧ X.nu (j + 1) ≤ 64 ∧ w ≤ X.nu (j + 1)) ∧ Fl h')) := fun z => by
    obtain ⟨h', e, -, F⟩ := w84_f (t := j + 1 + 1) C5.f (by omega) (by omega) (nI x1) (nI w) (nJ (X.nu (j + 1))) 1
    exact ⟨h', e, Or.inr ⟨fun y => z y.2.2, F (by decide)⟩⟩
  by_cases c1 : X.nu (j + 1) < 1 ∨ 9223372036854775808 ≤ X.nu (j + 1)
  · rw [if_pos (i1.mpr c1)]; exact bad (by omega)
  rw [if_neg (fun z => c1 (i1.mp z))]
  by_cases c2 : X.nu (j + 1) < w
  · rw [if_pos (i2.mpr (Or.inl c2))]; exact bad (by omega)
  rw [if_neg (fun z => by have := i2.mp z; omega)]
  have i3 : lg_cmp (nJ (X.nu (j + 1))) (64 : Int64) ≤ 0 ↔ X.nu (j + 1) ≤ 64 := lc_le (v := X.nu (j + 1)) (w := 64) (by omega) (by omega)
  by_cases c3 : X.nu (j + 1) ≤ 64
  rotate_left
  · rw [if_neg (fun z => c3 (i3.mp z))]; exact bad (by omega)
  rw [if_pos (i3.mpr c3)]
  have fin : ∀ g0, CXq X J P g0 (j + 3) d M H → ∃ h', f_Exprs_widen_123 P (nI w) (nJ (X.nu (j + 1))) 0 g0 = some h' ∧ CXq X J P h' (j + 3) d M (X.nu (j + 1) :: H) := fun g0 C0 => by
    have hs := C.sm
    have hsum : sumL (w :: H) = w + sumL H := rfl
    obtain ⟨h6, e6, C6⟩ := C0.hold (by omega) (w := X.nu (j + 1)) (by omega) (by omega)
    unfold f_Exprs_widen_123 f_Exprs_widen_140
    rw [if_pos rfl, if_neg (show ¬ nI w = (0 : Int32) from fun z => by have := (nIinj (b := 0) (by omega) (by omega)).mp z; omega), nJi (by omega), e6, xhv_s]
    exact ⟨h6, rfl, C6⟩
  unfold f_Exprs_widen_84 f_Exprs_widen_97
  rw [if_pos rfl]
  by_cases c4 : nI x1 = (211 : Int32)
  · obtain ⟨x, g6, e6, -, C6, -, -, -⟩ := C5.emit 310 (((nI w).toInt64) ||| ((nJ (X.nu (j + 1))) <<< (((8 : Int32)).toInt64 &&& 63)))
    obtain ⟨h', e, C7⟩ := fin g6 C6
    rw [if_pos c4, e6, xhb_s]
    exact ⟨h', e, Or.inl ⟨k4, c41, by omega, c3, by omega, C7⟩⟩
  · obtain ⟨h', e, C7⟩ := fin g5 C5
    rw [if_neg c4]
    exact ⟨h', e, Or.inl ⟨k4, c41, by omega, c3, by omega, C7⟩⟩
end WID
section JOI
variable {X : TX} {J P : Nat}
/-- a mark's count set -/
theorem CXq.cnt {g : mv_H} {j d : Nat} {m : MkA} {M : List MkA} {H : List Nat} (C : CXq X J P g j d (m :: M) H) (hk : m.k = 123 ∨ (213 ≤ m.k ∧ m.k ≤ 216)) {c : Nat} (hc : c ≤ 40000) : CXq X J P (mv_sa g 25 M.length (nI c)) j d (⟨m.k, c, 0⟩ :: M) H := by
  have hpp := C.pp
  have n3 : ¬ m.k = 91 ∧ ¬ m.k = 63 ∧ ¬ m.k = 58 := by omega
  have p25 : ¬ P + 1 = 25 := by omega
  have ea : ∀ o i, mv_a (mv_sa g 25 M.length (nI c)) o i = if o = 25 ∧ i = M.length then nI c else mv_a g o i := fun _ _ => rfl
  have E := C.f.sa (o := 25) (i := M.length) (by omega) (by omega) (nI c)
  obtain ⟨q1, q2, q3, q4, q6⟩ := C.mr.1
  refine C.of (M' := ⟨m.k, c, 0⟩ :: M) (H' := H) E C.jJ C.dp C.d2 C.ok C.no ⟨⟨?_, q2, hc, ?_, fun _ => ?_, fun z => absurd z n3.1, fun z => absurd z (fun y => y.elim n3.2.1 n3.2.2)⟩, ?_⟩ ?_ C.sm
  · rw [ea, if_neg (by simp [MkA.k, MkA.c, MkA.q])]; exact q1
  · obtain ⟨t, t1, t2⟩ := q4
    refine ⟨t, ?_, t2⟩
    rw [ea, if_neg (by simp [MkA.k, MkA.c, MkA.q])]; exact t1
  · rw [ea, if_pos ⟨rfl, rfl⟩]
  · refine MR.fr (h := g) (funext fun i => ?_) C.mr.2 (fun i hi => ?_)
    · rw [ea, if_neg (fun z => p25 z.1)]
    · have n : ¬ i = M.length := Nat.ne_of_lt hi
      rw [ea, ea, ea, ea, if_neg (fun z => n z.2), if_neg (fun z => n z.2), if_neg (fun z => n z.2), if_neg (fun z => n z.2)]
      exact ⟨rfl, rfl, rfl, rfl⟩
  · exact HR.fr (h := g) C.hr (fun i _ => by rw [ea, if_neg (by simp [MkA.k, MkA.c, MkA.q])])
/-- a part of a {} is over, its width joined; any state -/
theorem j61_f {g : mv_H} {a m k t : Nat} (E : FXq X J P g a (m + 1) (k + 1)) (ha : a + 1 < 32000) (hm : m < 1000) (hk : k < 1024) (h24 : mv_a g 24 m = nI t) (ht : t < 32770) (x1 : Int32) : ∃ v h', f_Exprs_join_61 P x1 (nI m) g = some (v, h') ∧ (v = 0 ∨ v = 1) ∧ (Fl g → Fl h') := by
  unfold f_Exprs_join_61
  rw [xvi_n (show m < 1024 by omega) (by decide), cond_true, cond_true, xk_s, cln (by omega)]
  have E1 := E.sa (o := 25) (i := m) (by omega) (by omega) (mv_a g 25 m + 1)
  have F1 : Fl g → Fl (mv_sa g 25 m (mv_a g 25 m + 1)) := fun f => f
  have a1 : mv_a (mv_sa g 25 m (mv_a g 25 m + 1)) 24 m = nI t := by
    show (if 24 = 25 ∧ m = m then mv_a g 25 m + 1 else mv_a g 24 m) = _
    rw [if_neg (by simp [MkA.k, MkA.c, MkA.q])]; exact h24
  revert E1 F1 a1
  generalize mv_sa g 25 m (mv_a g 25 m + 1) = g1
  intro E1 F1 a1
  by_cases c : x1 = 44
  · rw [if_pos c]
    obtain ⟨v, g2, a2, e2, -, E2, -, F2, -⟩ := take_t E1 ha (t := 44) (by decide)
    rw [e2, xhb_s]
    exact ⟨0, g2, rfl, Or.inl rfl, fun f => F2 (F1 f)⟩
  rw [if_neg c]
  obtain ⟨v, g2, a2, e2, -, E2, -, F2, r2⟩ := close_t E1 ha (t := 125) (by decide)
  obtain ⟨em, E3⟩ := E2.pop (by omega)
  obtain ⟨e4, E4, F4⟩ := rel_f E3 hk
  rw [e2, xhb_s, em, xk_s, e4, xhb_s]
  have fin : ∀ (g0 : mv_H) (y : Int32), FXq X J P g0 a2 m k → (Fl g → Fl g0) → ∃ v h', f_Exprs_join_136 P y g0 = some (v, h') ∧ (v = 0 ∨ v = 1) ∧ (Fl g → Fl h') := fun g0 y E0 F0 => by
    obtain ⟨e5, -, F5⟩ := hold_f E0 hk y
    unfold f_Exprs_join_136
    rw [e5, xhv_s]
    exact ⟨1, _, rfl, Or.inr rfl, fun f => F5 (F0 f)⟩
  have FF : Fl g → Fl (mv_si (mv_si g2 22 8 (nI m)) 22 10 (nI k)) := fun f => F4 ((F2 (F1 f)).pop _)
  by_cases c2 : mv_a (mv_si g2 22 8 (nI m)) 27 k ≤ 64
  · rw [if_pos c2]; exact fin _ _ E4 FF
  rw [if_neg c2]
  have m4 : mv_i (mv_si (mv_si g2 22 8 (nI m)) 22 10 (nI k)) 22 8 = nI m := rfl
  have a4 : mv_a (mv_si (mv_si g2 22 8 (nI m)) 22 10 (nI k)) 24 m = nI t := by
    show mv_a g2 24 m = _
    rw [r2]; exact a1
  obtain ⟨g5, e5, E5, -, F5, -, -⟩ := tell_f E4 ht (x := 4) (by decide)
  rw [m4, xvi_n (show m < 1024 by omega) (by decide), cond_true, cln (by omega), a4, e5, xhv_s]
  exact fin _ _ E5 (fun _ => F5)
/-- the same, good -/
theorem j61_C {g : mv_H} {j d w : Nat} {m : MkA} {M : List MkA} {H : List Nat} (C : CXq X J P g j (d + 1) (m :: M) (w :: H)) (hM : M.length < 1000) (hH : H.length < 1000) (hm : m.k = 123) (hc : m.c < 40000) (hk : X.kd j = 44 ∨ X.kd j = 125) (hJ : X.kd J = 1 ∨ X.kd J = 2) : ∃ v h', f_Exprs_join_61 P (nI (X.kd j)) (nI M.length) g = some (v, h') ∧ ((X.kd j = 44 ∧ v = 0 ∧ CXq X J P h' (j + 1) (d + 1) (⟨123, m.c + 1, 0⟩ :: M) (w :: H)) ∨ (X.kd j = 125 ∧ w ≤ 64 ∧ v = 1 ∧ CXq X J P h' (j + 1) d M (w :: H)) ∨ (X.kd j = 125 ∧ ¬ w ≤ 64 ∧ v = 1 ∧ Fl h')) := by
  have hj1 := nxJ hJ C.jJ (by omega) (by omega)
  obtain ⟨q1, q2, q3, ⟨t, q4, q5⟩, q6, q7, q8⟩ := C.mr.1
  have e25 := q6 (Or.inl hm)
  clear q6 q7 q8
  unfold f_Exprs_join_61
  rw [xvi_n (show M.length < 1024 by omega) (by decide), cond_true, cond_true, xk_s, cln (by omega), e25, nI1 (by omega)]
  have C1 := C.cnt (Or.inl hm) (c := m.c + 1) (by omega)
  rw [hm] at C1
  revert C1
  generalize mv_sa g 25 M.length (nI (m.c + 1)) = g1
  intro C1
  rcases hk with hk | hk
  · rw [if_pos (show nI (X.kd j) = (44 : Int32) by rw [hk]; rfl), show f_Tokens_take g1 44 = _ from C1.tk hk, xhb_s]
    exact ⟨0, _, rfl, Or.inl ⟨hk, rfl, C1.nx hj1⟩⟩
  · rw [if_neg (show ¬ nI (X.kd j) = (44 : Int32) by rw [hk]; decide)]
    obtain ⟨g2, e2, C2⟩ := C1.cl hk hj1
    have em : mv_i g2 22 8 - 1 = nI M.length := by rw [C2.ml]; exact nIsub (a := M.length + 1) (b := 1) (by omega) (by omega)
    obtain ⟨t2, s4, s5⟩ := C2.mr.1.2.2.2.1
    obtain ⟨e4, C4, w1, w2, w3⟩ := (C2.pop).rel (by omega)
    rw [show f_Tokens_close g1 125 = _ from e2, xhb_s, em, xk_s, e4, xhb_s]
    unfold f_Exprs_join_136
    by_cases c : w ≤ 64
    · obtain ⟨h5, e5, C5⟩ := C4.hold (by omega) w1 w3
      rw [if_pos (show nI w ≤ (64 : Int32) from (nIle (b := 64) (by omega) (by omega)).mpr c), e5, xhv_s]
      exact ⟨1, h5, rfl, Or.inr (Or.inl ⟨hk, c, rfl, C5⟩)⟩
    · have m4 : mv_i (mv_si (mv_si g2 22 8 (nI M.length)) 22 10 (nI H.length)) 22 8 = nI M.length := rfl
      have a4 : mv_a (mv_si (mv_si g2 22 8 (nI M.length)) 22 10 (nI H.length)) 24 M.length = nI t2 := s4
      obtain ⟨g5, e5, E5, -, F5, -, -⟩ := tell_f C4.f s5 (x := 4) (by decide)
      obtain ⟨e6, -, F6⟩ := hold_f E5 (by omega) 0
      rw [if_neg (show ¬ nI w ≤ (64 : Int32) from fun z => c ((nIle (b := 64) (by omega) (by omega)).mp z)), m4, xvi_n (show M.length < 1024 by omega) (by decide), cond_true, cln (by omega), a4, e5, xhv_s, e6, xhv_s]
      exact ⟨1, _, rfl, Or.inr (Or.inr ⟨hk, c, rfl, F6 F5⟩)⟩
end JOI
theorem nHm_123 {m : MkA} (h : m.k = 123) : nHm m = if m.c = 0 then 0 else 1 := by
  unfold nHm
  rw [h, if_neg (by decide)]
  by_cases c : m.c = 0
  · rw [if_neg (fun z => z.2 c), if_pos c]
  · rw [if_pos ⟨Or.inl rfl, c⟩, if_neg c]
section JO2
variable {X : TX} {J P : Nat}
/-- , or } in a {}: any state -/
theorem joi_f {h : mv_H} {a : Nat} {m : MkA} {M : List MkA} (E : FMq X J P h a (m :: M) (nH (m :: M) + 1)) (ha : a + 1 < 32000) (hM : M.length < 1000) (hk : nH (m :: M) < 1000) (hm : m.k = 123) (x1 : Int32) : ∃ v h', f_Exprs_join P h x1 = some (v, h') ∧ (v = 0 ∨ v = 1) ∧ (Fl h → Fl h') := by
  have hpp := E.f.pp
  obtain ⟨q1, q2, q3, ⟨t, q4, q5⟩, q6, q7, q8⟩ := E.mr.1
  have e25 := q6 (Or.inl hm)
  clear q6 q7 q8
  have em : mv_i h 22 8 - 1 = nI M.length := by rw [E.f.ml]; exact nIsub (a := M.length + 1) (b := 1) (by omega) (by omega)
  have b1 : nH (m :: M) = nHm m + nH M := rfl
  have b2 := nHm_123 hm
  unfold f_Exprs_join
  rw [em, xvi_n (by omega) (by decide), cond_true, cln (by omega), e25]
  by_cases c : m.c = 0
  · rw [if_pos (show nI m.c ≤ 0 by rw [c]; decide)]
    exact j61_f E.f ha hM (by omega) q4 q5 x1
  rw [if_neg (show ¬ nI m.c ≤ 0 from fun z => by have := (nIle (b := 0) (by omega) (by omega)).mp z; omega)]
  rw [if_neg c] at b2
  have E0 : FXq X J P h a (M.length + 1) (nH M + 1 + 1) := by
    have := E.f
    rw [b1, b2, show 1 + nH M + 1 = nH M + 1 + 1 by omega] at this
    exact this
  obtain ⟨e1, E1, F1⟩ := rel_f E0 (by omega)
  obtain ⟨e2, E2, F2⟩ := rel_f E1 (by omega)
  rw [e1, xhb_s, e2, xhb_s]
  obtain ⟨w, g3, e3, -, E3, F3, -, a3, -⟩ := emit_f E2 309 ((mv_a h 27 (nH M + 1)).toInt64)
  rw [e3, xhb_s]
  have h24 : mv_a g3 24 M.length = nI t := by rw [a3 24 (by omega)]; exact q4
  have fin : ∀ y, ∃ v h', f_Exprs_join_58 P x1 (nI M.length) y g3 = some (v, h') ∧ (v = 0 ∨ v = 1) ∧ (Fl h → Fl h') := fun y => by
    obtain ⟨e4, E4, F4⟩ := hold_f E3 (by omega) y
    unfold f_Exprs_join_58
    rw [e4, xhv_s]
    obtain ⟨v, h', e, hv, F⟩ := j61_f E4 ha hM (by omega) (t := t) (by rw [a27 g3 _ _ _ (by omega)]; exact h24) q5 x1
    exact ⟨v, h', e, hv, fun f => F (F4 (F3 (F2 (F1 f))))⟩
  unfold f_Exprs_join_50
  by_cases c1 : mv_a (mv_si h 22 10 (nI (nH M + 1))) 27 (nH M) = 0
  · rw [if_pos c1]; exact fin _
  rw [if_neg c1]
  by_cases c2 : mv_a h 27 (nH M + 1) = 0
  · rw [if_pos c2]; exact fin _
  · rw [if_neg c2]; exact fin _
/-- , or } in a {} -/
theorem joi_C {h : mv_H} {j d : Nat} {m : MkA} {M : List MkA} {H : List Nat} {o : OuA} (C : CXq X J P h j (d + 1) (m :: M) H) (hL : H.length = nH (m :: M) + 1) (hM : M.length < 1000) (hH : nH (m :: M) < 1000) (hm : m.k = 123) (hc : m.c < 40000) (hk : X.kd j = 44 ∨ X.kd j = 125) (hJ : X.kd J = 1 ∨ X.kd J = 2) : ∃ v h', f_Exprs_join P h (nI (X.kd j)) = some (v, h') ∧ match (if X.kd j = 44 then some (CfA.mk 2 (j + 1) (d + 1) (⟨123, m.c + 1, 0⟩ :: M) (if m.c = 0 then H else (H.tail.headD 0 + H.headD 0) :: H.tail.tail) o) else if (if m.c = 0 then H.headD 0 else H.tail.headD 0 + H.headD 0) ≤ 64 then some ⟨3, j + 1, d, M, if m.c = 0 then H else (H.tail.headD 0 + H.headD 0) :: H.tail.tail, o⟩ else none) with
    | some c => CXq X J P h' c.j c.d c.M c.H ∧ v = (if c.md = 3 then 1 else 0)
    | none => Fl h' ∧ (v = 0 ∨ v = 1) := by
  have hpp := C.pp
  obtain ⟨q1, q2, q3, ⟨t, q4, q5⟩, q6, q7, q8⟩ := C.mr.1
  have e25 := q6 (Or.inl hm)
  clear q6 q7 q8
  have em : mv_i h 22 8 - 1 = nI M.length := by rw [C.ml]; exact nIsub (a := M.length + 1) (b := 1) (by omega) (by omega)
  have b1 : nH (m :: M) = nHm m + nH M := rfl
  have b2 := nHm_123 hm
  -- the second half
  have fin : ∀ (g : mv_H) (w : Nat) (H' : List Nat), CXq X J P g j (d + 1) (m :: M) (w :: H') → H'.length < 1000 → ∃ v h', f_Exprs_join_61 P (nI (X.kd j)) (nI M.length) g = some (v, h') ∧ match (if X.kd j = 44 then some (CfA.mk 2 (j + 1) (d + 1) (⟨123, m.c + 1, 0⟩ :: M) (w :: H') o) else if w ≤ 64 then some ⟨3, j + 1, d, M, w :: H', o⟩ else none) with
      | some c => CXq X J P h' c.j c.d c.M c.H ∧ v = (if c.md = 3 then 1 else 0)
      | none => Fl h' ∧ (v = 0 ∨ v = 1) := fun g w H' Cg hH' => by
    obtain ⟨v, h', e, r⟩ := j61_C Cg hM hH' hm hc hk hJ
    refine ⟨v, h', e, ?_⟩
    rcases r with ⟨r1, r2, r3⟩ | ⟨r1, r2, r3, r4⟩ | ⟨r1, r2, r3, r4⟩
    · rw [if_pos r1]; exact ⟨r3, r2⟩
    · rw [if_neg (by omega), if_pos r2]; exact ⟨r4, r3⟩
    · rw [if_neg (by omega), if_neg r2]; exact ⟨r4, Or.inr r3⟩
  unfold f_Exprs_join
  rw [em, xvi_n (by omega) (by decide), cond_true, cln (by omega), e25]
  by_cases c : m.c = 0
  · rw [if_pos (show nI m.c ≤ 0 by rw [c]; decide)]
    cases H with
    | nil => exact absurd hL (by rw [List.length_nil]; omega)
    | cons w H =>
      rw [if_pos c, if_pos c]
      exact fin h w H C (by rw [List.length_cons] at hL; omega)
  rw [if_neg (show ¬ nI m.c ≤ 0 from fun z => by have := (nIle (b := 0) (by omega) (by omega)).mp z; omega), if_neg c, if_neg c]
  rw [if_neg c] at b2
  cases H with
  | nil => exact absurd hL (by rw [List.length_nil]; omega)
  | cons y H =>
  cases H with
  | nil => exact absurd hL (by rw [b1, b2, List.length_cons, List.length_nil]; omega)
  | cons x H =>
  rw [List.length_cons, List.length_cons] at hL
  obtain ⟨e1, C1, y1, y2, y3⟩ := C.rel (show H.length + 1 < 1024 by omega)
  obtain ⟨e2, C2, x1, x2, x3⟩ := C1.rel (by omega)
  obtain ⟨w, g3, e3, -, C3, -, -, -⟩ := C2.emit 309 ((nI y).toInt64)
  have hsum : sumL (x :: H) = x + sumL H := rfl
  obtain ⟨g4, e4, C4⟩ := C3.hold (by omega) (w := x + y) (by omega) (by omega)
  have exy : nI x + nI y = nI (x + y) := Int32.toInt_inj.mp (by rw [i32_add (by rw [nIi (by omega), nIi (by omega)]; omega) (by rw [nIi (by omega), nIi (by omega)]; omega), nIi (by omega), nIi (by omega), nIi (by omega)]; omega)
  unfold f_Exprs_join_58
  rw [e1, xhb_s, e2, xhb_s, e3, xhb_s, if_neg (show ¬ nI x = (0 : Int32) from fun z => by have := (nIinj (b := 0) (by omega) (by omega)).mp z; omega), if_neg (show ¬ nI y = (0 : Int32) from fun z => by have := (nIinj (b := 0) (by omega) (by omega)).mp z; omega), exy, e4, xhv_s]
  exact fin g4 (x + y) H C4 (by omega)
end JO2
