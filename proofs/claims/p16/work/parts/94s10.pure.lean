/-! rows s94 .. s104 -/
theorem nHm_2 {m : MkA} (h : 213 ≤ m.k ∧ m.k ≤ 216) (c : ¬ m.c = 0) : nHm m = 1 := by
  unfold nHm
  split
  · rfl
  · rw [if_pos ⟨Or.inr h, c⟩]
section GO
variable {X : TX} {J P : Nat}
/-- behind a part of an EXPR, in any state -/
theorem goo_f {h : mv_H} {a : Nat} {m : MkA} {M : List MkA} (E : FMq X J P h a (m :: M) (nH (m :: M) + 1)) (ha : a + 3 < 32000) (hM : M.length < 1000) (hk : nH (m :: M) < 1000) (x1 : Int32) : ∃ v h', f_Exprs_goOn P h x1 = some (v, h') ∧ (v = 0 ∨ v = 1) ∧ (Fl h → Fl h') := by
  have hpp := E.f.pp
  obtain ⟨q1, q2, q3, ⟨t, q4, q5⟩, q6, q7, q8⟩ := E.mr.1
  have b1 : nH (m :: M) = nHm m + nH M := rfl
  have E0 : FXq X J P h a (M.length + 1) (nH (m :: M) + 1) := E.f
  have em : mv_i h 22 8 - 1 = nI M.length := (E0.pop (by omega)).1
  have wr : ∃ v h', f_Exprs_goOn_265 P h = some (v, h') ∧ (v = 0 ∨ v = 1) ∧ (Fl h → Fl h') := by
    obtain ⟨g, e, -, F, -⟩ := wr_t E.f
    unfold f_Exprs_goOn_265 f_Exprs_goOn_272
    rw [e, xhv_s]
    exact ⟨_, _, rfl, Or.inr rfl, F⟩
  have h204 : ∀ x3 : Int32, (x3 = 0 → (213 ≤ m.k ∧ m.k ≤ 216) → ¬ m.c = 0) → ∃ v h', f_Exprs_goOn_204 P x1 (nI m.k) x3 h = some (v, h') ∧ (v = 0 ∨ v = 1) ∧ (Fl h → Fl h') := fun x3 hx => by
    unfold f_Exprs_goOn_204
    by_cases c1 : m.k < 213
    · rw [if_pos (show nI m.k < 213 from (nIlt (b := 213) (by omega) (by omega)).mpr c1)]; exact wr
    rw [if_neg (show ¬ nI m.k < 213 from fun z => c1 ((nIlt (b := 213) (by omega) (by omega)).mp z))]
    by_cases c2 : 216 < m.k
    · rw [if_pos (show 216 < nI m.k from (nIlt (a := 216) (by omega) (by omega)).mpr c2)]; exact wr
    rw [if_neg (show ¬ 216 < nI m.k from fun z => c2 ((nIlt (a := 216) (by omega) (by omega)).mp z))]
    by_cases c3 : x1 = 41
    · rw [if_pos c3]
      by_cases c4 : x3 = 0
      · rw [if_pos c4]
        have hc := hx c4 (by omega)
        have b2 := nHm_2 (m := m) (by omega) hc
        obtain ⟨v, g, a', e, -, E1, -, F1, r1⟩ := close_t E0 (by omega) (t := 41) (by decide)
        rw [e, xhb_s]
        obtain ⟨e2, E2⟩ := E1.pop (by omega)
        rw [xk_s, e2]
        have e3 : mv_i (mv_si g 22 8 (nI M.length)) 22 8 = nI M.length := rfl
        have e4 : mv_a (mv_si g 22 8 (nI M.length)) 24 M.length = nI t := by show mv_a g 24 M.length = _; rw [r1]; exact q4
        rw [e3, xvi_n (by omega) (by decide), cond_true, cln (by omega), e4]
        have E3 : FMq X J P (mv_si g 22 8 (nI M.length)) a' M (nH M + 2) := ⟨by rw [b1, b2, show 1 + nH M + 1 = nH M + 2 by omega] at E2; exact E2, MR.fr (h := h) (h' := mv_si g 22 8 (nI M.length)) (by show mv_a g (P + 1) = _; rw [r1]) E.mr.2 (fun i _ => by show mv_a g 23 i = _ ∧ mv_a g 24 i = _ ∧ mv_a g 25 i = _ ∧ mv_a g 26 i = _; rw [r1]; exact ⟨rfl, rfl, rfl, rfl⟩)⟩
        obtain ⟨h', e5, -, F5⟩ := two_f E3 (by omega) (nI m.k) q5
        rw [e5, xhv_s]
        exact ⟨_, _, rfl, Or.inr rfl, fun f => F5 ((F1 f).pop _)⟩
      · rw [if_neg c4]; exact wr
    · rw [if_neg c3]; exact wr
  have h156 : ∀ x3 : Int32, (x3 = 0 → (213 ≤ m.k ∧ m.k ≤ 216) → ¬ m.c = 0) → ∃ v h', f_Exprs_goOn_156 P x1 (nI m.k) x3 h = some (v, h') ∧ (v = 0 ∨ v = 1) ∧ (Fl h → Fl h') := fun x3 hx => by
    unfold f_Exprs_goOn_156
    by_cases c1 : m.k < 213
    · rw [if_pos (show nI m.k < 213 from (nIlt (b := 213) (by omega) (by omega)).mpr c1)]; exact h204 x3 hx
    rw [if_neg (show ¬ nI m.k < 213 from fun z => c1 ((nIlt (b := 213) (by omega) (by omega)).mp z))]
    by_cases c2 : 216 < m.k
    · rw [if_pos (show 216 < nI m.k from (nIlt (a := 216) (by omega) (by omega)).mpr c2)]; exact h204 x3 hx
    rw [if_neg (show ¬ 216 < nI m.k from fun z => c2 ((nIlt (a := 216) (by omega) (by omega)).mp z))]
    by_cases c3 : x1 = 44
    · rw [if_pos c3]
      by_cases c4 : x3 = 0
      · rw [if_pos c4]; exact h204 x3 hx
      · rw [if_neg c4]
        obtain ⟨v, g, a', e, -, E1, -, F1, r1⟩ := take_t E0 (by omega) (t := 44) (by decide)
        rw [e, xhb_s]
        obtain ⟨e2, E2⟩ := E1.pop (by omega)
        rw [e2, xvi_n (by omega) (by decide), cond_true, xk_s]
        exact ⟨_, _, rfl, Or.inl rfl, fun f => F1 f⟩
    · rw [if_neg c3]; exact h204 x3 hx
  have h142 : ∀ x3 : Int32, (x3 = 0 → (213 ≤ m.k ∧ m.k ≤ 216) → ¬ m.c = 0) → ∃ v h', f_Exprs_goOn_142 P x1 (nI m.k) x3 h = some (v, h') ∧ (v = 0 ∨ v = 1) ∧ (Fl h → Fl h') := fun x3 hx => by
    unfold f_Exprs_goOn_142
    by_cases c3 : x1 = 44
    · rw [if_pos c3]
      obtain ⟨g, e, F⟩ := wid_f E0 ha (by omega) (by omega) (nI m.k)
      rw [e, xhv_s]
      exact ⟨_, _, rfl, Or.inr rfl, F⟩
    · rw [if_neg c3]; exact h156 x3 hx
  have h128 : ∀ x3 : Int32, (x3 = 0 → (213 ≤ m.k ∧ m.k ≤ 216) → ¬ m.c = 0) → ∃ v h', f_Exprs_goOn_128 P x1 (nI m.k) x3 h = some (v, h') ∧ (v = 0 ∨ v = 1) ∧ (Fl h → Fl h') := fun x3 hx => by
    unfold f_Exprs_goOn_128
    by_cases c1 : nI m.k = 211
    · rw [if_pos c1]; exact h142 x3 hx
    rw [if_neg c1]
    by_cases c2 : nI m.k = 212
    · rw [if_pos c2]; exact h142 x3 hx
    rw [if_neg c2]; exact h156 x3 hx
  have h93 : ∀ x3 : Int32, (x3 = 0 → (213 ≤ m.k ∧ m.k ≤ 216) → ¬ m.c = 0) → ∃ v h', f_Exprs_goOn_93 P x1 (nI m.k) x3 h = some (v, h') ∧ (v = 0 ∨ v = 1) ∧ (Fl h → Fl h') := fun x3 hx => by
    unfold f_Exprs_goOn_93
    by_cases c1 : nI m.k = 40
    · rw [if_pos c1]
      by_cases c3 : x1 = 41
      · rw [if_pos c3]
        obtain ⟨v, g, a', e, -, E1, -, F1, r1⟩ := close_t E0 (by omega) (t := 41) (by decide)
        rw [e, xhb_s, xk_s]
        exact ⟨_, _, rfl, Or.inr rfl, fun f => (F1 f).si (by omega) (by omega) _⟩
      · rw [if_neg c3]; exact h128 x3 hx
    · rw [if_neg c1]; exact h128 x3 hx
  have h74 : ∀ x3 : Int32, (x3 = 0 → (213 ≤ m.k ∧ m.k ≤ 216) → ¬ m.c = 0) → ∃ v h', f_Exprs_goOn_74 P x1 (nI m.k) x3 h = some (v, h') ∧ (v = 0 ∨ v = 1) ∧ (Fl h → Fl h') := fun x3 hx => by
    unfold f_Exprs_goOn_74
    by_cases c1 : m.k = 91
    · rw [if_pos (show nI m.k = 91 by rw [c1]; rfl)]
      by_cases c3 : x1 = 93
      · rw [if_pos c3]
        obtain ⟨g, e, F⟩ := cel_f E (by omega) (by omega) hM c1
        rw [e, xhv_s]
        exact ⟨_, _, rfl, Or.inr rfl, F⟩
      · rw [if_neg c3]; exact h93 x3 hx
    · rw [if_neg (show ¬ nI m.k = 91 from fun z => c1 ((nIinj (b := 91) (by omega) (by omega)).mp z))]; exact h93 x3 hx
  have h50 : ∀ x3 : Int32, (x3 = 0 → (213 ≤ m.k ∧ m.k ≤ 216) → ¬ m.c = 0) → ∃ v h', f_Exprs_goOn_50 P x1 (nI m.k) x3 h = some (v, h') ∧ (v = 0 ∨ v = 1) ∧ (Fl h → Fl h') := fun x3 hx => by
    unfold f_Exprs_goOn_50
    by_cases c1 : m.k = 123
    · have jo : ∃ v h', f_Exprs_goOn_68 P x1 h = some (v, h') ∧ (v = 0 ∨ v = 1) ∧ (Fl h → Fl h') := by
        obtain ⟨v, g, e, hv, F⟩ := joi_f E (by omega) hM hk c1 x1
        unfold f_Exprs_goOn_68
        rw [e, xhb_s]
        exact ⟨_, _, rfl, hv, F⟩
      rw [if_pos (show nI m.k = 123 by rw [c1]; rfl)]
      by_cases c3 : x1 = 44
      · rw [if_pos c3]; exact jo
      rw [if_neg c3]
      by_cases c4 : x1 = 125
      · rw [if_pos c4]; exact jo
      · rw [if_neg c4]; exact h74 x3 hx
    · rw [if_neg (show ¬ nI m.k = 123 from fun z => c1 ((nIinj (b := 123) (by omega) (by omega)).mp z))]; exact h74 x3 hx
  have h31 : ∀ x3 : Int32, (x3 = 0 → (213 ≤ m.k ∧ m.k ≤ 216) → ¬ m.c = 0) → ∃ v h', f_Exprs_goOn_31 P x1 (nI m.k) x3 h = some (v, h') ∧ (v = 0 ∨ v = 1) ∧ (Fl h → Fl h') := fun x3 hx => by
    unfold f_Exprs_goOn_31
    by_cases c1 : m.k = 63
    · rw [if_pos (show nI m.k = 63 by rw [c1]; rfl)]
      by_cases c3 : x1 = 58
      · rw [if_pos c3]
        obtain ⟨g, e, F⟩ := oth_f E (by omega) hM c1
        rw [e, xhv_s]
        exact ⟨_, _, rfl, Or.inl rfl, F⟩
      · rw [if_neg c3]; exact h50 x3 hx
    · rw [if_neg (show ¬ nI m.k = 63 from fun z => c1 ((nIinj (b := 63) (by omega) (by omega)).mp z))]; exact h50 x3 hx
  unfold f_Exprs_goOn
  rw [em, xvi_n (by omega) (by decide), cond_true, cond_true, cln (by omega), q1]
  by_cases c : mv_a h 25 M.length = 0
  · rw [if_pos c]
    exact h31 1 (fun z => absurd z (by decide))
  · rw [if_neg c]
    refine h31 0 (fun _ w y => c ?_)
    rw [q6 (Or.inr ⟨by omega, by omega⟩), y]; rfl
end GO
/-- the class's answer and A's step -/
def GQ (X : TX) (J P : Nat) (r : Option CfA) (f : Option (Int32 × mv_H)) : Prop := ∃ v h', f = some (v, h') ∧ match r with
  | some c => CXq X J P h' c.j c.d c.M c.H ∧ v = (if c.md = 3 then 1 else 0)
  | none => Fl h' ∧ (v = 0 ∨ v = 1)
section GO2
variable {X : TX} {J P : Nat}
theorem lvq_k {k : Nat} (h : k = 123 ∨ k = 91 ∨ k = 40 ∨ k = 63 ∨ k = 58 ∨ (211 ≤ k ∧ k ≤ 216)) : lvq k = 0 := by
  have h2 : k = 123 ∨ k = 91 ∨ k = 40 ∨ k = 63 ∨ k = 58 ∨ k = 211 ∨ k = 212 ∨ k = 213 ∨ k = 214 ∨ k = 215 ∨ k = 216 := by omega
  rcases h2 with h | h | h | h | h | h | h | h | h | h | h <;> rw [h] <;> rfl
theorem nDm_k {m : MkA} (h : m.k = 123 ∨ m.k = 91 ∨ m.k = 40 ∨ m.k = 63 ∨ m.k = 58 ∨ (211 ≤ m.k ∧ m.k ≤ 216)) : nDm m = 1 := by
  unfold nDm
  rw [lvq_k h, if_neg (by omega)]
/-- behind a part of an EXPR -/
theorem goo_C {h : mv_H} {j d : Nat} {m : MkA} {M : List MkA} {H : List Nat} {o : OuA} (C : CXq X J P h j d (m :: M) H) (hL : H.length = nH (m :: M) + 1) (hM : M.length < 1000) (hH : nH (m :: M) < 1000) (hd : nD (m :: M) ≤ d) (h91 : m.k = 91 → 0 < m.c) (hc : m.k = 123 → m.c < 40000) (hJ : X.kd J = 1 ∨ X.kd J = 2) : GQ X J P (aGo X m j d M H o) (f_Exprs_goOn P h (nI (X.kd j))) := by
  have hpp := C.pp
  have hkd := (C.tb.k j C.jJ).2
  obtain ⟨q1, q2, q3, ⟨t, q4, q5⟩, q6, q7, q8⟩ := C.mr.1
  have b1 : nH (m :: M) = nHm m + nH M := rfl
  have b0 : nD (m :: M) = nDm m + nD M := rfl
  have em : mv_i h 22 8 - 1 = nI M.length := by rw [C.ml]; exact nIsub (a := M.length + 1) (b := 1) (by omega) (by omega)
  have tk : ∀ n, n < 400 → (nI (X.kd j) = nI n ↔ X.kd j = n) := fun n hn => nIinj (by omega) (by omega)
  have tm : ∀ n, n < 400 → (nI m.k = nI n ↔ m.k = n) := fun n hn => nIinj (by omega) (by omega)
  cases H with
  | nil => exact absurd hL (by rw [List.length_nil]; omega)
  | cons w H =>
  rw [List.length_cons] at hL
  have wr : GQ X J P none (f_Exprs_goOn_265 P h) := by
    obtain ⟨g, e, -, F, -⟩ := C.f.wr C.pl
    unfold f_Exprs_goOn_265 f_Exprs_goOn_272
    rw [e, xhv_s]
    exact ⟨_, _, rfl, Or.inl F, Or.inr rfl⟩
  have h204 : ∀ x3 : Int32, ((213 ≤ m.k ∧ m.k ≤ 216) → (x3 = 0 ↔ ¬ m.c = 0)) → GQ X J P (if (213 ≤ m.k ∧ m.k ≤ 216) ∧ X.kd j = 41 ∧ ¬ m.c = 0 then (tw m.k ((w :: H).tail.headD 0) ((w :: H).headD 0)).bind fun z => some ⟨3, j + 1, d - 1, M, z :: (w :: H).tail.tail, o⟩ else none) (f_Exprs_goOn_204 P (nI (X.kd j)) (nI m.k) x3 h) := fun x3 hx => by
    unfold f_Exprs_goOn_204
    by_cases c1 : m.k < 213
    · rw [if_pos (show nI m.k < 213 from (nIlt (b := 213) (by omega) (by omega)).mpr c1), if_neg (by omega)]; exact wr
    rw [if_neg (show ¬ nI m.k < 213 from fun z => c1 ((nIlt (b := 213) (by omega) (by omega)).mp z))]
    by_cases c2 : 216 < m.k
    · rw [if_pos (show 216 < nI m.k from (nIlt (a := 216) (by omega) (by omega)).mpr c2), if_neg (by omega)]; exact wr
    rw [if_neg (show ¬ 216 < nI m.k from fun z => c2 ((nIlt (a := 216) (by omega) (by omega)).mp z))]
    by_cases c3 : X.kd j = 41
    · rw [if_pos (show nI (X.kd j) = 41 by rw [c3]; rfl)]
      by_cases c4 : m.c = 0
      · rw [if_neg (fun z => (hx (by omega)).mp z c4), if_neg (fun z => z.2.2 c4)]; exact wr
      · rw [if_pos ((hx (by omega)).mpr c4), if_pos ⟨by omega, c3, c4⟩]
        have b2 := nHm_2 (m := m) (by omega) c4
        have b3 := nDm_k (m := m) (by omega)
        have hj1 := nxJ hJ C.jJ (by omega) (by omega)
        obtain ⟨e, rfl⟩ : ∃ e, d = e + 1 := ⟨d - 1, by omega⟩
        obtain ⟨g, e1, C1⟩ := C.cl c3 hj1
        have C2 := C1.pop
        cases H with
        | nil => exact absurd hL (by rw [List.length_nil]; omega)
        | cons x H =>
        rw [List.length_cons] at hL
        have e2 : mv_i g 22 8 - 1 = nI M.length := by rw [C1.ml]; exact nIsub (a := M.length + 1) (b := 1) (by omega) (by omega)
        obtain ⟨-, -, -, ⟨t1, r4, r5⟩, -, -, -⟩ := C1.mr.1
        have e3 : mv_i (mv_si g 22 8 (nI M.length)) 22 8 = nI M.length := rfl
        have e4 : mv_a (mv_si g 22 8 (nI M.length)) 24 M.length = nI t1 := r4
        rw [show f_Tokens_close h 41 = _ from e1, xhb_s, e2, xk_s, e3, xvi_n (by omega) (by decide), cond_true, cln (by omega), e4]
        obtain ⟨h', e5, r⟩ := two_C C2 (by omega) q2 r5
        rw [e5, xhv_s]
        refine ⟨_, _, rfl, ?_⟩
        have eh : (tw m.k ((w :: x :: H).tail.headD 0) ((w :: x :: H).headD 0)) = tw m.k x w := rfl
        rw [eh]
        revert r
        cases tw m.k x w with
        | none => exact fun r => ⟨r.2, Or.inr rfl⟩
        | some z => exact fun r => ⟨r, rfl⟩
    · rw [if_neg (show ¬ nI (X.kd j) = 41 from fun z => c3 ((tk 41 (by omega)).mp z)), if_neg (fun z => c3 z.2.1)]; exact wr
  have h156 : ∀ x3 : Int32, ((213 ≤ m.k ∧ m.k ≤ 216) → (x3 = 0 ↔ ¬ m.c = 0)) → GQ X J P (if (213 ≤ m.k ∧ m.k ≤ 216) ∧ X.kd j = 44 ∧ m.c = 0 then some ⟨2, j + 1, d, ⟨m.k, 1, 0⟩ :: M, w :: H, o⟩ else if (213 ≤ m.k ∧ m.k ≤ 216) ∧ X.kd j = 41 ∧ ¬ m.c = 0 then (tw m.k ((w :: H).tail.headD 0) ((w :: H).headD 0)).bind fun z => some ⟨3, j + 1, d - 1, M, z :: (w :: H).tail.tail, o⟩ else none) (f_Exprs_goOn_156 P (nI (X.kd j)) (nI m.k) x3 h) := fun x3 hx => by
    unfold f_Exprs_goOn_156
    by_cases c1 : m.k < 213
    · rw [if_pos (show nI m.k < 213 from (nIlt (b := 213) (by omega) (by omega)).mpr c1), if_neg (by omega)]; exact h204 x3 hx
    rw [if_neg (show ¬ nI m.k < 213 from fun z => c1 ((nIlt (b := 213) (by omega) (by omega)).mp z))]
    by_cases c2 : 216 < m.k
    · rw [if_pos (show 216 < nI m.k from (nIlt (a := 216) (by omega) (by omega)).mpr c2), if_neg (by omega)]; exact h204 x3 hx
    rw [if_neg (show ¬ 216 < nI m.k from fun z => c2 ((nIlt (a := 216) (by omega) (by omega)).mp z))]
    by_cases c3 : X.kd j = 44
    · rw [if_pos (show nI (X.kd j) = 44 by rw [c3]; rfl)]
      by_cases c4 : m.c = 0
      · rw [if_neg (fun z => (hx (by omega)).mp z c4), if_pos ⟨by omega, c3, c4⟩]
        have hj1 := nxJ hJ C.jJ (by omega) (by omega)
        have C1 := C.nx hj1
        have e2 : mv_i (mv_si h 3 7 (nI (j + 2))) 22 8 - 1 = nI M.length := em
        rw [show f_Tokens_take h 44 = _ from C.tk c3, xhb_s, e2, xvi_n (by omega) (by decide), cond_true, cln (by omega), xk_s]
        exact ⟨_, _, rfl, C1.cnt (c := 1) (by omega) (by omega), rfl⟩
      · rw [if_pos ((hx (by omega)).mpr c4), if_neg (fun z => c4 z.2.2)]; exact h204 x3 hx
    · rw [if_neg (show ¬ nI (X.kd j) = 44 from fun z => c3 ((tk 44 (by omega)).mp z)), if_neg (fun z => c3 z.2.1)]; exact h204 x3 hx
  have h128 : ∀ x3 : Int32, ((213 ≤ m.k ∧ m.k ≤ 216) → (x3 = 0 ↔ ¬ m.c = 0)) → GQ X J P (if (m.k = 211 ∨ m.k = 212) ∧ X.kd j = 44 then
    (if X.kd (j + 1) = 4 ∧ X.kd (j + 2) = 41 ∧ 1 ≤ X.nu (j + 1) ∧ X.nu (j + 1) ≤ 64 ∧ (w :: H).headD 0 ≤ X.nu (j + 1) then some ⟨3, j + 3, d - 1, M, X.nu (j + 1) :: (w :: H).tail, o⟩ else none) else if (213 ≤ m.k ∧ m.k ≤ 216) ∧ X.kd j = 44 ∧ m.c = 0 then some ⟨2, j + 1, d, ⟨m.k, 1, 0⟩ :: M, w :: H, o⟩ else if (213 ≤ m.k ∧ m.k ≤ 216) ∧ X.kd j = 41 ∧ ¬ m.c = 0 then (tw m.k ((w :: H).tail.headD 0) ((w :: H).headD 0)).bind fun z => some ⟨3, j + 1, d - 1, M, z :: (w :: H).tail.tail, o⟩ else none) (f_Exprs_goOn_128 P (nI (X.kd j)) (nI m.k) x3 h) := fun x3 hx => by
    have e0 : f_Exprs_goOn_128 P (nI (X.kd j)) (nI m.k) x3 h = if m.k = 211 ∨ m.k = 212 then f_Exprs_goOn_142 P (nI (X.kd j)) (nI m.k) x3 h else f_Exprs_goOn_156 P (nI (X.kd j)) (nI m.k) x3 h := by
      unfold f_Exprs_goOn_128
      by_cases c1 : m.k = 211
      · rw [if_pos (show nI m.k = 211 by rw [c1]; rfl), if_pos (Or.inl c1)]
      rw [if_neg (show ¬ nI m.k = 211 from fun z => c1 ((tm 211 (by omega)).mp z))]
      by_cases c2 : m.k = 212
      · rw [if_pos (show nI m.k = 212 by rw [c2]; rfl), if_pos (Or.inr c2)]
      rw [if_neg (show ¬ nI m.k = 212 from fun z => c2 ((tm 212 (by omega)).mp z)), if_neg (by omega)]
    rw [e0]
    by_cases c1 : m.k = 211 ∨ m.k = 212
    · rw [if_pos c1]
      unfold f_Exprs_goOn_142
      by_cases c3 : X.kd j = 44
      · have b3 := nDm_k (m := m) (by omega)
        obtain ⟨e, rfl⟩ : ∃ e, d = e + 1 := ⟨d - 1, by omega⟩
        obtain ⟨g, e1, r⟩ := wid_C C hM (by omega) c3 hJ q2
        rw [if_pos (show nI (X.kd j) = 44 by rw [c3]; rfl), if_pos ⟨c1, c3⟩, e1, xhv_s]
        refine ⟨_, _, rfl, ?_⟩
        rcases r with ⟨r1, r2, r3, r4, r5, r6⟩ | ⟨r1, r2⟩
        · rw [if_pos ⟨r1, r2, r3, r4, r5⟩]; exact ⟨r6, rfl⟩
        · rw [if_neg (show ¬ (X.kd (j + 1) = 4 ∧ X.kd (j + 2) = 41 ∧ 1 ≤ X.nu (j + 1) ∧ X.nu (j + 1) ≤ 64 ∧ (w :: H).headD 0 ≤ X.nu (j + 1)) from r1)]; exact ⟨r2, Or.inr rfl⟩
      · rw [if_neg (show ¬ nI (X.kd j) = 44 from fun z => c3 ((tk 44 (by omega)).mp z)), if_neg (fun z => c3 z.2)]; exact h156 x3 hx
    · rw [if_neg c1, if_neg (fun z => c1 z.1)]; exact h156 x3 hx
  have h93 : ∀ x3 : Int32, ((213 ≤ m.k ∧ m.k ≤ 216) → (x3 = 0 ↔ ¬ m.c = 0)) → GQ X J P (if m.k = 40 ∧ X.kd j = 41 then some ⟨3, j + 1, d - 1, M, w :: H, o⟩ else if (m.k = 211 ∨ m.k = 212) ∧ X.kd j = 44 then
    (if X.kd (j + 1) = 4 ∧ X.kd (j + 2) = 41 ∧ 1 ≤ X.nu (j + 1) ∧ X.nu (j + 1) ≤ 64 ∧ (w :: H).headD 0 ≤ X.nu (j + 1) then some ⟨3, j + 3, d - 1, M, X.nu (j + 1) :: (w :: H).tail, o⟩ else none) else if (213 ≤ m.k ∧ m.k ≤ 216) ∧ X.kd j = 44 ∧ m.c = 0 then some ⟨2, j + 1, d, ⟨m.k, 1, 0⟩ :: M, w :: H, o⟩ else if (213 ≤ m.k ∧ m.k ≤ 216) ∧ X.kd j = 41 ∧ ¬ m.c = 0 then (tw m.k ((w :: H).tail.headD 0) ((w :: H).headD 0)).bind fun z => some ⟨3, j + 1, d - 1, M, z :: (w :: H).tail.tail, o⟩ else none) (f_Exprs_goOn_93 P (nI (X.kd j)) (nI m.k) x3 h) := fun x3 hx => by
    unfold f_Exprs_goOn_93
    by_cases c1 : m.k = 40
    · rw [if_pos (show nI m.k = 40 by rw [c1]; rfl)]
      by_cases c3 : X.kd j = 41
      · have b3 := nDm_k (m := m) (by omega)
        obtain ⟨e, rfl⟩ : ∃ e, d = e + 1 := ⟨d - 1, by omega⟩
        have hj1 := nxJ hJ C.jJ (by omega) (by omega)
        obtain ⟨g, e1, C1⟩ := C.cl c3 hj1
        have e2 : mv_i g 22 8 - 1 = nI M.length := by rw [C1.ml]; exact nIsub (a := M.length + 1) (b := 1) (by omega) (by omega)
        rw [if_pos (show nI (X.kd j) = 41 by rw [c3]; rfl), if_pos ⟨c1, c3⟩, show f_Tokens_close h 41 = _ from e1, xhb_s, e2, xk_s]
        exact ⟨_, _, rfl, C1.pop, rfl⟩
      · rw [if_neg (show ¬ nI (X.kd j) = 41 from fun z => c3 ((tk 41 (by omega)).mp z)), if_neg (fun z => c3 z.2)]; exact h128 x3 hx
    · rw [if_neg (show ¬ nI m.k = 40 from fun z => c1 ((tm 40 (by omega)).mp z)), if_neg (fun z => c1 z.1)]; exact h128 x3 hx
  have h74 : ∀ x3 : Int32, ((213 ≤ m.k ∧ m.k ≤ 216) → (x3 = 0 ↔ ¬ m.c = 0)) → GQ X J P (if m.k = 91 ∧ X.kd j = 93 then some ⟨3, j + 1, d - 1, M, m.c :: (w :: H).tail, o⟩ else if m.k = 40 ∧ X.kd j = 41 then some ⟨3, j + 1, d - 1, M, w :: H, o⟩ else if (m.k = 211 ∨ m.k = 212) ∧ X.kd j = 44 then
    (if X.kd (j + 1) = 4 ∧ X.kd (j + 2) = 41 ∧ 1 ≤ X.nu (j + 1) ∧ X.nu (j + 1) ≤ 64 ∧ (w :: H).headD 0 ≤ X.nu (j + 1) then some ⟨3, j + 3, d - 1, M, X.nu (j + 1) :: (w :: H).tail, o⟩ else none) else if (213 ≤ m.k ∧ m.k ≤ 216) ∧ X.kd j = 44 ∧ m.c = 0 then some ⟨2, j + 1, d, ⟨m.k, 1, 0⟩ :: M, w :: H, o⟩ else if (213 ≤ m.k ∧ m.k ≤ 216) ∧ X.kd j = 41 ∧ ¬ m.c = 0 then (tw m.k ((w :: H).tail.headD 0) ((w :: H).headD 0)).bind fun z => some ⟨3, j + 1, d - 1, M, z :: (w :: H).tail.tail, o⟩ else none) (f_Exprs_goOn_74 P (nI (X.kd j)) (nI m.k) x3 h) := fun x3 hx => by
    unfold f_Exprs_goOn_74
    by_cases c1 : m.k = 91
    · rw [if_pos (show nI m.k = 91 by rw [c1]; rfl)]
      by_cases c3 : X.kd j = 93
      · have b3 := nDm_k (m := m) (by omega)
        obtain ⟨e, rfl⟩ : ∃ e, d = e + 1 := ⟨d - 1, by omega⟩
        obtain ⟨g, e1, C1⟩ := cel_C C hM (by omega) (h91 c1) c1 c3 hJ
        rw [if_pos (show nI (X.kd j) = 93 by rw [c3]; rfl), if_pos ⟨c1, c3⟩, e1, xhv_s]
        exact ⟨_, _, rfl, C1, rfl⟩
      · rw [if_neg (show ¬ nI (X.kd j) = 93 from fun z => c3 ((tk 93 (by omega)).mp z)), if_neg (fun z => c3 z.2)]; exact h93 x3 hx
    · rw [if_neg (show ¬ nI m.k = 91 from fun z => c1 ((tm 91 (by omega)).mp z)), if_neg (fun z => c1 z.1)]; exact h93 x3 hx
  have h50 : ∀ x3 : Int32, ¬ (m.k = 63 ∧ X.kd j = 58) → ((213 ≤ m.k ∧ m.k ≤ 216) → (x3 = 0 ↔ ¬ m.c = 0)) → GQ X J P (aGo X m j d M (w :: H) o) (f_Exprs_goOn_50 P (nI (X.kd j)) (nI m.k) x3 h) := fun x3 h63 hx => by
    unfold aGo
    rw [if_neg h63]
    have e0 : f_Exprs_goOn_50 P (nI (X.kd j)) (nI m.k) x3 h = if m.k = 123 ∧ (X.kd j = 44 ∨ X.kd j = 125) then f_Exprs_goOn_68 P (nI (X.kd j)) h else f_Exprs_goOn_74 P (nI (X.kd j)) (nI m.k) x3 h := by
      unfold f_Exprs_goOn_50
      by_cases c1 : m.k = 123
      · rw [if_pos (show nI m.k = 123 by rw [c1]; rfl)]
        by_cases c2 : X.kd j = 44
        · rw [if_pos (show nI (X.kd j) = 44 by rw [c2]; rfl), if_pos ⟨c1, Or.inl c2⟩]
        rw [if_neg (show ¬ nI (X.kd j) = 44 from fun z => c2 ((tk 44 (by omega)).mp z))]
        by_cases c3 : X.kd j = 125
        · rw [if_pos (show nI (X.kd j) = 125 by rw [c3]; rfl), if_pos ⟨c1, Or.inr c3⟩]
        rw [if_neg (show ¬ nI (X.kd j) = 125 from fun z => c3 ((tk 125 (by omega)).mp z)), if_neg (by omega)]
      · rw [if_neg (show ¬ nI m.k = 123 from fun z => c1 ((tm 123 (by omega)).mp z)), if_neg (fun z => c1 z.1)]
    rw [e0]
    by_cases c : m.k = 123 ∧ (X.kd j = 44 ∨ X.kd j = 125)
    · rw [if_pos c, if_pos c]
      have b3 := nDm_k (m := m) (by omega)
      obtain ⟨e, rfl⟩ : ∃ e, d = e + 1 := ⟨d - 1, by omega⟩
      obtain ⟨v, g, e1, r⟩ := joi_C (o := o) C (by rw [List.length_cons]; omega) hM hH c.1 (hc c.1) c.2 hJ
      unfold f_Exprs_goOn_68
      rw [e1, xhb_s]
      exact ⟨v, g, rfl, r⟩
    · rw [if_neg c, if_neg c]; exact h74 x3 hx
  have h31 : ∀ x3 : Int32, ((213 ≤ m.k ∧ m.k ≤ 216) → (x3 = 0 ↔ ¬ m.c = 0)) → GQ X J P (aGo X m j d M (w :: H) o) (f_Exprs_goOn_31 P (nI (X.kd j)) (nI m.k) x3 h) := fun x3 hx => by
    unfold f_Exprs_goOn_31
    by_cases c1 : m.k = 63
    · rw [if_pos (show nI m.k = 63 by rw [c1]; rfl)]
      by_cases c3 : X.kd j = 58
      · unfold aGo
        obtain ⟨g, e1, C1⟩ := oth_C C hM c1 c3 hJ
        rw [if_pos (show nI (X.kd j) = 58 by rw [c3]; rfl), if_pos ⟨c1, c3⟩, e1, xhv_s]
        exact ⟨_, _, rfl, C1, rfl⟩
      · rw [if_neg (show ¬ nI (X.kd j) = 58 from fun z => c3 ((tk 58 (by omega)).mp z))]; exact h50 x3 (fun z => c3 z.2) hx
    · rw [if_neg (show ¬ nI m.k = 63 from fun z => c1 ((tm 63 (by omega)).mp z))]; exact h50 x3 (fun z => c1 z.1) hx
  unfold f_Exprs_goOn
  rw [em, xvi_n (by omega) (by decide), cond_true, cond_true, cln (by omega), q1]
  by_cases c : mv_a h 25 M.length = 0
  · rw [if_pos c]
    refine h31 1 (fun w => ⟨fun z => absurd z (by decide), fun z => absurd ?_ z⟩)
    rw [q6 (Or.inr ⟨by omega, by omega⟩)] at c
    exact (nIinj (b := 0) (by omega) (by omega)).mp c
  · rw [if_neg c]
    refine h31 0 (fun w => ⟨fun _ y => c ?_, fun _ => rfl⟩)
    rw [q6 (Or.inr ⟨by omega, by omega⟩), y]; rfl
end GO2
/-! after: its tails -/
def aftV (P : Nat) (v2 : Int32) (g7 : mv_H) : Option (Int32 × mv_H) := if (mv_i g7 22 8) = (0 : Int32) then (some ((2 : Int32), g7)) else (xhb (f_Exprs_goOn P g7 v2) fun v9 g8 => some (v9, g8))
def aftU (P : Nat) (v2 : Int32) (g6 : mv_H) : Option (Int32 × mv_H) := if v2 = (63 : Int32) then (xhv (f_Exprs_choose P g6) fun g10 => some ((0 : Int32), g10)) else (xhv (f_Exprs_endChoices P g6) fun g7 => aftV P v2 g7)
def aftT (P : Nat) (v2 : Int32) (g3 : mv_H) : Option (Int32 × mv_H) := xhb (f_Exprs_levelOf g3 v2) fun v5 g4 => if v5 ≤ (0 : Int32) then (xhv (f_Exprs_endBinaries P g4 (1 : Int32)) fun g6 => aftU P v2 g6) else (xhv (f_Exprs_endBinaries P g4 v5) fun g11 => xhb (f_Tokens_take g11 v2) fun v13 g12 => xhv (f_Exprs_mark g12 v2 v13) fun g14 => some ((0 : Int32), g14))
theorem aft_e (P : Nat) (h : mv_H) : f_Exprs_after P h = xhb (f_Tokens_kind h) fun v2 g1 => if v2 = (91 : Int32) then (xhv (f_Exprs_part P g1) fun g15 => some ((1 : Int32), g15)) else (xhv (f_Exprs_endSigns P g1) fun g3 => aftT P v2 g3) := rfl
section AFT
variable {X : TX} {J P : Nat}
theorem aftV_f {g : mv_H} {a : Nat} {M : List MkA} (E : FMq X J P g a M (nH M + 1)) (ha : a + 3 < 32000) (hM : M.length ≤ 1000) (hk : nH M < 1000) (F : Fl g) (v2 : Int32) : ∃ v h', aftV P v2 g = some (v, h') ∧ Fl h' := by
  unfold aftV
  cases M with
  | nil =>
    rw [if_pos (show mv_i g 22 8 = 0 by rw [E.f.ml]; rfl)]
    exact ⟨_, _, rfl, F⟩
  | cons m M =>
    have hM' : M.length + 1 ≤ 1000 := hM
    have e0 : mv_i g 22 8 = nI (M.length + 1) := E.f.ml
    rw [if_neg (show ¬ mv_i g 22 8 = 0 from fun z => by rw [e0] at z; have := (nIinj (b := 0) (by omega) (by omega)).mp z; omega)]
    obtain ⟨v, h', e, -, r⟩ := goo_f E ha (by omega) hk v2
    rw [e, xhb_s]
    exact ⟨_, _, rfl, r F⟩
theorem aftU_f {g : mv_H} {a : Nat} {M : List MkA} (E : FMq X J P g a M (nH M + 1)) (ha : a + 3 < 32000) (hM : M.length ≤ 1000) (hk : nH M < 1000) (F : Fl g) (v2 : Int32) : ∃ v h', aftU P v2 g = some (v, h') ∧ Fl h' := by
  unfold aftU
  by_cases c : v2 = 63
  · rw [if_pos c]
    obtain ⟨h', e, r⟩ := cho_f E.f (by omega) (by omega) (by omega)
    rw [e, xhv_s]
    exact ⟨_, _, rfl, r F⟩
  · rw [if_neg c]
    obtain ⟨h', M', e, E', r1, r2, r3⟩ := ech_f 200000 0 M g E hM hk (by omega) (by omega)
    have e : f_Exprs_endChoices P g = some h' := e
    rw [e, xhv_s]
    exact aftV_f E' ha (by omega) (by omega) (r3 F) v2
theorem aftT_f {g : mv_H} {a : Nat} {M : List MkA} (E : FMq X J P g a M (nH M + 1)) (ha : a + 3 < 32000) (hM : M.length ≤ 1000) (hk : nH M < 1000) (F : Fl g) {k : Nat} (hk4 : k < 400) : ∃ v h', aftT P (nI k) g = some (v, h') ∧ Fl h' := by
  unfold aftT
  have hl9 := lvq_b k
  rw [lev_C g hk4, xhb_s]
  by_cases c : lvq k = 0
  · rw [if_pos (show nI (lvq k) ≤ 0 by rw [c]; decide)]
    obtain ⟨h', M', e, E', r1, r2, r3⟩ := bin_f (l := 1) (by omega) (by omega) 200000 0 M g E (by omega) hk (by omega)
    have e : f_Exprs_endBinaries P g 1 = some h' := e
    rw [e, xhv_s]
    exact aftU_f E' ha (by omega) (by omega) (r3 F) _
  · rw [if_neg (show ¬ nI (lvq k) ≤ 0 from fun z => by have := (nIle (b := 0) (by omega) (by omega)).mp z; omega)]
    obtain ⟨h', M', e, E', r1, r2, r3⟩ := bin_f (l := lvq k) (by omega) (by omega) 200000 0 M g E (by omega) hk (by omega)
    have e : f_Exprs_endBinaries P g (nI (lvq k)) = some h' := e
    have hk0 : ¬ k = 0 := fun z => by rw [z] at c; exact c rfl
    obtain ⟨v, g1, a1, e1, -, E1, -, F1, -⟩ := take_t E'.f (by omega) (t := nI k) (fun z => hk0 ((nIinj (a := 0) (by omega) (by omega)).mp z).symm)
    obtain ⟨g2, e2, -, -, F2⟩ := mark_f E1 (by omega) (nI k) (nI v)
    rw [e, xhv_s, e1, xhb_s, e2, xhv_s]
    exact ⟨_, _, rfl, F2 (F1 (r3 F))⟩
/-- the marks are well -/
def AMk (j : Nat) (m : MkA) : Prop := (m.k = 91 → 0 < m.c) ∧ (m.k = 123 → m.c ≤ j) ∧ (m.k = 63 ∨ m.k = 58 → 0 < m.q)
/-- after's answer and A's step -/
def AQ (X : TX) (J P : Nat) (j : Nat) (o : OuA) (Z : Nat → Nat → Prop) (r : Option CfA) (f : Option (Int32 × mv_H)) : Prop := ∃ v h', f = some (v, h') ∧ ((Fl h' ∧ r = none) ∨ (v = 2 ∧ ∃ d' w, CXq X J P h' j d' [] [w] ∧ r = aFi X j d' [w] o ∧ Z d' w) ∨ (∃ c, r = some c ∧ CXq X J P h' c.j c.d c.M c.H ∧ v = (if c.md = 3 then 1 else 0) ∧ c.o = o ∧ (c.md = 2 ∨ c.md = 3)))
theorem aGo_o {m : MkA} {j d : Nat} {M : List MkA} {H : List Nat} {o : OuA} {c : CfA} (e : aGo X m j d M H o = some c) : c.o = o ∧ (c.md = 2 ∨ c.md = 3) := by
  unfold aGo at e
  repeat' split at e
  all_goals first
    | (cases e; exact ⟨rfl, Or.inl rfl⟩)
    | (cases e; exact ⟨rfl, Or.inr rfl⟩)
    | (cases e; done)
    | (cases ez : tw m.k (H.tail.headD 0) (H.headD 0) with
       | none => rw [ez] at e; cases e
       | some z => rw [ez] at e; cases e; exact ⟨rfl, Or.inr rfl⟩)
theorem aPk_o {j d : Nat} {M : List MkA} {H : List Nat} {o : OuA} {c : CfA} (e : aPk X j d M H o = some c) : c.o = o ∧ (c.md = 2 ∨ c.md = 3) := by
  unfold aPk at e
  repeat' split at e
  all_goals first
    | (cases e; exact ⟨rfl, Or.inr rfl⟩)
    | (cases e; done)
theorem GQ.aq {j : Nat} {o : OuA} {Z : Nat → Nat → Prop} {r : Option CfA} {f : Option (Int32 × mv_H)} (h : GQ X J P r f) (ho : ∀ c, r = some c → c.o = o ∧ (c.md = 2 ∨ c.md = 3)) : AQ X J P j o Z r f := by
  obtain ⟨v, h', e, q⟩ := h
  refine ⟨v, h', e, ?_⟩
  cases r with
  | none => exact Or.inl ⟨q.1, rfl⟩
  | some c => exact Or.inr (Or.inr ⟨c, rfl, q.1, q.2, ho c rfl⟩)
theorem AQ.mo {j : Nat} {o : OuA} {Z Z' : Nat → Nat → Prop} {r : Option CfA} {f : Option (Int32 × mv_H)} (h : AQ X J P j o Z r f) (hz : ∀ d w, Z d w → Z' d w) : AQ X J P j o Z' r f := by
  obtain ⟨v, h', e, q⟩ := h
  refine ⟨v, h', e, ?_⟩
  rcases q with q | ⟨q1, d, w, q2, q3, q4⟩ | q
  · exact Or.inl q
  · exact Or.inr (Or.inl ⟨q1, d, w, q2, q3, hz d w q4⟩)
  · exact Or.inr (Or.inr q)
theorem aftV_C {g : mv_H} {j d : Nat} {M : List MkA} {H : List Nat} {o : OuA} (C : CXq X J P g j d M H) (hL : H.length = nH M + 1) (hM : M.length ≤ 1000) (hH : nH M < 1000) (hd : nD M ≤ d) (hA : ∀ m, m ∈ M → AMk j m) (hJ : X.kd J = 1 ∨ X.kd J = 2) : AQ X J P j o (fun d' w => M = [] ∧ d' = d ∧ H = [w]) (match (generalizing := false) M with | [] => aFi X j d H o | m :: M' => aGo X m j d M' H o) (aftV P (nI (X.kd j)) g) := by
  have hjb := C.jb
  unfold aftV
  cases M with
  | nil =>
    rw [if_pos (show mv_i g 22 8 = 0 by rw [C.ml]; rfl)]
    cases H with
    | nil => exact absurd hL (by rw [List.length_nil]; omega)
    | cons w H =>
      cases H with
      | nil => exact ⟨_, _, rfl, Or.inr (Or.inl ⟨rfl, d, w, C, rfl, rfl, rfl, rfl⟩)⟩
      | cons x H => exact absurd hL (by rw [List.length_cons, List.length_cons]; show ¬ _ = 0 + 1; omega)
  | cons m M =>
    have hM' : M.length + 1 ≤ 1000 := hM
    have e0 : mv_i g 22 8 = nI (M.length + 1) := C.ml
    rw [if_neg (show ¬ mv_i g 22 8 = 0 from fun z => by rw [e0] at z; have := (nIinj (b := 0) (by omega) (by omega)).mp z; omega)]
    obtain ⟨a1, a2, a3⟩ := hA m (List.mem_cons_self)
    obtain ⟨v, h', e, r⟩ := goo_C (o := o) C hL (by omega) hH hd a1 (fun z => by have := a2 z; omega) hJ
    rw [e, xhb_s]
    exact GQ.aq ⟨v, h', rfl, r⟩ (fun c e => aGo_o e)
theorem aftU_C {g : mv_H} {j d : Nat} {M : List MkA} {H : List Nat} {o : OuA} (C : CXq X J P g j d M H) (hL : H.length = nH M + 1) (hM : M.length ≤ 1000) (hH : nH M < 1000) (hd : nD M ≤ d) (hA : ∀ m, m ∈ M → AMk j m) (hJ : X.kd J = 1 ∨ X.kd J = 2) : AQ X J P j o (fun d' w => popC M H d = some ([], [w], d')) (aCh X j d M H o) (aftU P (nI (X.kd j)) g) := by
  have hjb := C.jb
  have hjJ := C.tb.jb
  have hj3 := C.jJ
  have hkd := (C.tb.k j C.jJ).2
  have hd2 := C.d2
  unfold aftU aCh
  by_cases c : X.kd j = 63
  · rw [if_pos (show nI (X.kd j) = 63 by rw [c]; rfl), if_pos c]
    cases H with
    | nil => exact absurd hL (by rw [List.length_nil]; omega)
    | cons w H =>
    rw [List.length_cons] at hL
    obtain ⟨h', e, r⟩ := cho_C C hM (by omega) c hJ
    rw [e, xhv_s]
    refine ⟨_, _, rfl, ?_⟩
    rcases r with ⟨r1, r2⟩ | ⟨r1, r2⟩
    · rw [if_pos r1]; exact Or.inr (Or.inr ⟨_, rfl, r2, rfl, rfl, Or.inl rfl⟩)
    · rw [if_neg r1]; exact Or.inl ⟨r2, rfl⟩
  · rw [if_neg (show ¬ nI (X.kd j) = 63 from fun z => c ((nIinj (b := 63) (by omega) (by omega)).mp z)), if_neg c]
    obtain ⟨h', e, r⟩ := ech_C 200000 0 M g C hL (fun m q z => (hA m q).2.2 (Or.inr z)) hM hH hd (by omega) (by omega)
    have e : f_Exprs_endChoices P g = some h' := e
    rw [e, xhv_s]
    have pc := @popC_f M H d
    revert r pc
    cases popC M H d with
    | none =>
      intro ⟨M', E', r1, r2, r3⟩ _
      obtain ⟨v, h2, e2, F⟩ := aftV_f E' (by omega) (by omega) (by omega) r3 (nI (X.kd j))
      exact ⟨v, h2, e2, Or.inl ⟨F, rfl⟩⟩
    | some r =>
      intro C' pc
      obtain ⟨p1, p2, p3, p4, p5, p6⟩ := pc rfl hL
      refine (aftV_C C' p1 (by omega) (by omega) (p3 hd) (fun m q => hA m (p6 m q)) hJ).mo (fun d' w z => ?_)
      obtain ⟨z1, z2, z3⟩ := z
      exact congrArg some (Prod.ext z1 (Prod.ext z3 z2.symm))
theorem aftT_C {g : mv_H} {j d : Nat} {M : List MkA} {H : List Nat} {o : OuA} (C : CXq X J P g j d M H) (hL : H.length = nH M + 1) (hM : M.length ≤ 1000) (hH : nH M < 1000) (hd : nD M ≤ d) (hA : ∀ m, m ∈ M → AMk j m) (hJ : X.kd J = 1 ∨ X.kd J = 2) : AQ X J P j o (fun d' w => ∃ t, popB 1 M H = some t ∧ popC t.1 t.2 d = some ([], [w], d')) (if 0 < lvq (X.kd j) then (popB (lvq (X.kd j)) M H).bind fun t => some ⟨2, j + 1, d, ⟨X.kd j, 0, 0⟩ :: t.1, t.2, o⟩ else (popB 1 M H).bind fun t => aCh X j d t.1 t.2 o) (aftT P (nI (X.kd j)) g) := by
  have hjb := C.jb
  have hjJ := C.tb.jb
  have hj3 := C.jJ
  have hkd := (C.tb.k j C.jJ).2
  have hl9 := lvq_b (X.kd j)
  unfold aftT
  rw [lev_C g (by omega), xhb_s]
  by_cases c : lvq (X.kd j) = 0
  · rw [if_pos (show nI (lvq (X.kd j)) ≤ 0 by rw [c]; decide), if_neg (by omega)]
    obtain ⟨h', e, r⟩ := bin_C (l := 1) (by omega) (by omega) 200000 0 M g C hL (by omega) hH (by omega)
    have e : f_Exprs_endBinaries P g 1 = some h' := e
    rw [e, xhv_s]
    have pc := @popB_f 1 (by omega) M H
    revert r pc
    cases popB 1 M H with
    | none =>
      intro ⟨M', E', r1, r2, r3⟩ _
      obtain ⟨v, h2, e2, F⟩ := aftU_f E' (by omega) (by omega) (by omega) r3 (nI (X.kd j))
      exact ⟨v, h2, e2, Or.inl ⟨F, rfl⟩⟩
    | some t =>
      intro C' pc
      obtain ⟨p1, p2, p3, p4, p5⟩ := pc rfl hL
      exact (aftU_C C' p1 (by omega) (by omega) (by omega) (fun m q => hA m (p5 m q)) hJ).mo (fun d' w z => ⟨t, rfl, z⟩)
  · rw [if_neg (show ¬ nI (lvq (X.kd j)) ≤ 0 from fun z => by have := (nIle (b := 0) (by omega) (by omega)).mp z; omega), if_pos (by omega)]
    obtain ⟨h', e, r⟩ := bin_C (l := lvq (X.kd j)) (by omega) (by omega) 200000 0 M g C hL (by omega) hH (by omega)
    have e : f_Exprs_endBinaries P g (nI (lvq (X.kd j))) = some h' := e
    have hk0 : ∀ z, lvq z = 0 → ¬ X.kd j = z := fun z hz y => c (by rw [y]; exact hz)
    rw [e, xhv_s]
    have pc := @popB_f (lvq (X.kd j)) (by omega) M H
    revert r pc
    cases popB (lvq (X.kd j)) M H with
    | none =>
      intro ⟨M', E', r1, r2, r3⟩ _
      obtain ⟨v, g1, a1, e1, -, E1, -, F1, -⟩ := take_t E'.f (by omega) (t := nI (X.kd j)) (fun z => hk0 0 rfl ((nIinj (a := 0) (by omega) (by omega)).mp z).symm)
      obtain ⟨g2, e2, -, -, F2⟩ := mark_f E1 (by omega) (nI (X.kd j)) (nI v)
      rw [e1, xhb_s, e2, xhv_s]
      exact ⟨_, _, rfl, Or.inl ⟨F2 (F1 r3), rfl⟩⟩
    | some t =>
      intro C' pc
      obtain ⟨p1, p2, p3, p4, p5⟩ := pc rfl hL
      have C' : CXq X J P h' j d t.1 t.2 := C'
      have hj1 := nxJ hJ C.jJ (hk0 1 rfl) (hk0 2 rfl)
      obtain ⟨e2, C2⟩ := (C'.nx hj1).mark (by omega) (k := X.kd j) (t := j + 1) (by omega) ⟨hk0 91 rfl, hk0 63 rfl, hk0 58 rfl⟩ (by omega)
      rw [C'.tk rfl, xhb_s, e2, xhv_s]
      exact ⟨_, _, rfl, Or.inr (Or.inr ⟨_, rfl, C2, rfl, rfl, Or.inl rfl⟩)⟩
/-- behind an operand -/
theorem aft_C {h : mv_H} {j d : Nat} {M : List MkA} {H : List Nat} {o : OuA} (C : CXq X J P h j d M H) (hL : H.length = nH M + 1) (hM : M.length ≤ 1000) (hH : nH M < 1000) (hd : nD M ≤ d) (hA : ∀ m, m ∈ M → AMk j m) (hJ : X.kd J = 1 ∨ X.kd J = 2) : AQ X J P j o (fun d' w => ∃ r t, popS M H d = some r ∧ popB 1 r.1 r.2.1 = some t ∧ popC t.1 t.2 r.2.2 = some ([], [w], d')) (aAf X j d M H o) (f_Exprs_after P h) := by
  have hjb := C.jb
  have hjJ := C.tb.jb
  have hj3 := C.jJ
  have hkd := (C.tb.k j C.jJ).2
  have hd2 := C.d2
  cases H with
  | nil => exact absurd hL (by rw [List.length_nil]; omega)
  | cons w H =>
  have hL' : H.length + 1 = nH M + 1 := hL
  rw [aft_e, C.kd, xhb_s]
  unfold aAf
  by_cases c : X.kd j = 91
  · rw [if_pos (show nI (X.kd j) = 91 by rw [c]; rfl), if_pos c]
    obtain ⟨h', e, r⟩ := prt_C (o := o) C (by omega) hJ c
    rw [e, xhv_s]
    refine ⟨_, _, rfl, ?_⟩
    have po := @aPk_o X j d M (w :: H) o
    revert r po
    cases aPk X j d M (w :: H) o with
    | none => exact fun r _ => Or.inl ⟨r, rfl⟩
    | some c => exact fun r po => Or.inr (Or.inr ⟨c, rfl, r.1, by rw [if_pos r.2], po rfl⟩)
  · rw [if_neg (show ¬ nI (X.kd j) = 91 from fun z => c ((nIinj (b := 91) (by omega) (by omega)).mp z)), if_neg c]
    obtain ⟨h', e, r⟩ := sig_C 200000 0 M h C hM (by omega) hd (by omega) (by omega)
    have e : f_Exprs_endSigns P h = some h' := e
    rw [e, xhv_s]
    have pc := @popS_f M (w :: H) d
    revert r pc
    cases popS M (w :: H) d with
    | none =>
      intro ⟨M', E', r1, r2, r3⟩ _
      obtain ⟨v, h2, e2, F⟩ := aftT_f (by rw [r1, ← hL']; exact E') (by omega) (by omega) (by omega) r3 (k := X.kd j) (by omega)
      exact ⟨v, h2, e2, Or.inl ⟨F, rfl⟩⟩
    | some r =>
      intro C' pc
      obtain ⟨p1, p2, p3, p4, p5, p6⟩ := pc rfl
      exact (aftT_C C' (by rw [p1, p2]; exact hL) (by omega) (by omega) (p3 hd) (fun m q => hA m (p6 m q)) hJ).mo (fun d' w z => by
        obtain ⟨t, z1, z2⟩ := z
        exact ⟨r, t, rfl, z1, z2⟩)
end AFT
/-! the Weaver's small steps -/
/-- read on, perhaps told: the rest stands -/
def Sm (h g : mv_H) : Prop := (∀ o k, ¬ (o = 3 ∧ 7 ≤ k ∧ k ≤ 9) → ¬ o = 21 → mv_i g o k = mv_i h o k) ∧ (g.2 = h.2)
theorem Sm.i {h g : mv_H} (h99 : Sm h g) : ∀ o k, ¬ (o = 3 ∧ 7 ≤ k ∧ k ≤ 9) → ¬ o = 21 → mv_i g o k = mv_i h o k := h99.1
theorem Sm.r {h g : mv_H} (h99 : Sm h g) : g.2 = h.2 := h99.2
theorem Sm.rf {h : mv_H} : Sm h h := ⟨fun _ _ _ _ => rfl, rfl⟩
theorem Sm.tr {h g f : mv_H} (a : Sm h g) (b : Sm g f) : Sm h f := ⟨fun o k h1 h2 => (b.i o k h1 h2).trans (a.i o k h1 h2), b.r.trans a.r⟩
theorem Sm.si {h g : mv_H} (a : Sm h g) {k : Nat} (h1 : 7 ≤ k ∧ k ≤ 9) (v : Int32) : Sm h (mv_si g 3 k v) := ⟨fun o f h2 h3 => (mv_u_ne (mv_i g) _ (by omega)).trans (a.i o f h2 h3), a.r⟩
theorem Sm.a {h g : mv_H} (a : Sm h g) : mv_a g = mv_a h := congrArg (fun z => z.2.2.1) a.r
theorem Sm.b {h g : mv_H} (a : Sm h g) : mv_b g = mv_b h := congrArg (fun z => z.2.2.2) a.r
/-- wrong, and read no further -/
def Wr (g : mv_H) : Prop := 0 ≤ (mv_i g 3 9).toInt
theorem Wr.fl {g : mv_H} (w : Wr g) : Fl g := Or.inl w
theorem kdW {g : mv_H} (w : Wr g) : f_Tokens_kind g = some (0, g) := kind_w w
theorem wrW {g : mv_H} (w : Wr g) : f_Tokens_wrong g = some g := by
  have c : (0 : Int32) ≤ mv_i g 3 9 := Int32.le_iff_toInt_le.mpr w
  unfold f_Tokens_wrong
  rw [if_pos c]
theorem tkW {g : mv_H} (w : Wr g) {t : Int32} (ht : ¬ (0 : Int32) = t) : f_Tokens_take g t = some (0, g) := by
  unfold f_Tokens_take
  rw [kdW w, xhb_s, if_neg ht, wrW w, xhv_s]
theorem rtW {g : mv_H} (w : Wr g) : f_Tokens_right g = some (0, g) := by
  have c : (0 : Int32) ≤ mv_i g 3 9 := Int32.le_iff_toInt_le.mpr w
  unfold f_Tokens_right
  rw [if_pos c, xz0, cond_true]
theorem Wr.d8 {g : mv_H} (w : Wr g) (v : Int32) : Wr (mv_si g 3 8 v) := w
theorem opW {g : mv_H} (w : Wr g) {t : Int32} (ht : ¬ (0 : Int32) = t) : ∃ g', f_Tokens_open g t = some (0, g') ∧ Wr g' ∧ Sm g g' := by
  have w2 : Wr (mv_si g 3 8 (mv_i g 3 8 + 1)) := w.d8 _
  have e1 : f_Tokens_open_13 t g = some (0, mv_si g 3 8 (mv_i g 3 8 + 1)) := by
    unfold f_Tokens_open_13
    rw [xk_s, tkW w2 ht, xhb_s]
  refine ⟨mv_si g 3 8 (mv_i g 3 8 + 1), ?_, w2, Sm.rf.si (by omega) _⟩
  unfold f_Tokens_open
  by_cases z : mv_i g 3 8 = 60
  · rw [if_pos z, wrW w, xhv_s, e1]
  · rw [if_neg z, e1]
theorem clW {g : mv_H} (w : Wr g) {t : Int32} (ht : ¬ (0 : Int32) = t) : ∃ g', f_Tokens_close g t = some (0, g') ∧ Wr g' ∧ Sm g g' := by
  have w2 : Wr (mv_si g 3 8 (mv_i g 3 8 - 1)) := w.d8 _
  refine ⟨mv_si g 3 8 (mv_i g 3 8 - 1), ?_, w2, Sm.rf.si (by omega) _⟩
  unfold f_Tokens_close
  rw [xk_s, tkW w2 ht, xhb_s]
/-- tell, in any state -/
theorem wtl (g : mv_H) {t : Nat} (ht : t < 32770) {x : Int32} (hx : ¬ x = 0) : ∃ g', f_Weaver_tell g (nI t) x = some g' ∧ ¬ mv_i g' 21 0 = 0 ∧ Sm g g' ∧ (∀ o, ¬ o = 21 → mv_i g' o = mv_i g o) := by
  have fin : ∀ y, ∃ g', f_Faults_tell_31 y x g = some g' ∧ ¬ mv_i g' 21 0 = 0 ∧ Sm g g' ∧ (∀ o, ¬ o = 21 → mv_i g' o = mv_i g o) := fun y => by
    have q : ∀ o, ¬ o = 21 → ∀ f, mv_i (mv_si (mv_si g 21 0 x) 21 1 y) o f = mv_i g o f := fun o ho f => (mv_u_ne (mv_i (mv_si g 21 0 x)) _ (by omega)).trans (mv_u_ne (mv_i g) _ (by omega))
    exact ⟨mv_si (mv_si g 21 0 x) 21 1 y, rfl, hx, ⟨fun o f _ h2 => q o h2 f, rfl⟩, fun o ho => funext (q o ho)⟩
  unfold f_Weaver_tell f_Faults_tell
  rw [xvi_n ht (by decide), cond_true]
  generalize mv_a g 5 (nI t).toNatClampNeg = y
  obtain ⟨g1, e1, r1, r2, r3⟩ := fin y
  by_cases c1 : mv_i g 21 0 = 0
  · rw [if_pos c1, e1, xhv_s]; exact ⟨g1, rfl, r1, r2, r3⟩
  rw [if_neg c1]
  by_cases c2 : y < mv_i g 21 1
  · rw [if_pos c2, e1, xhv_s]; exact ⟨g1, rfl, r1, r2, r3⟩
  rw [if_neg c2]
  by_cases c3 : y = mv_i g 21 1
  · rw [if_pos c3]
    by_cases c4 : mv_i g 21 0 ≤ x
    · rw [if_pos c4, xhv_s]; exact ⟨g, rfl, c1, Sm.rf, fun _ _ => rfl⟩
    · rw [if_neg c4, e1, xhv_s]; exact ⟨g1, rfl, r1, r2, r3⟩
  · rw [if_neg c3, xhv_s]; exact ⟨g, rfl, c1, Sm.rf, fun _ _ => rfl⟩
/-- h read on to token j at depth d, not wrong -/
def PT (X : TX) (J : Nat) (h g : mv_H) (j d : Nat) : Prop := (TB X J g) ∧ (Sm h g) ∧ (mv_i g 3 7 = nI (j + 1)) ∧ (j ≤ J) ∧ (mv_i g 3 8 = nI d) ∧ (d ≤ 60) ∧ (mv_i g 3 9 < 0) ∧ (mv_i g 3 9 = mv_i h 3 9) ∧ (¬ mv_i h 21 0 = 0 → ¬ mv_i g 21 0 = 0)
theorem PT.tb {X : TX} {J : Nat} {h g : mv_H} {j d : Nat} (h99 : PT X J h g j d) : TB X J g := h99.1
theorem PT.sm {X : TX} {J : Nat} {h g : mv_H} {j d : Nat} (h99 : PT X J h g j d) : Sm h g := h99.2.1
theorem PT.at' {X : TX} {J : Nat} {h g : mv_H} {j d : Nat} (h99 : PT X J h g j d) : mv_i g 3 7 = nI (j + 1) := h99.2.2.1
theorem PT.jJ {X : TX} {J : Nat} {h g : mv_H} {j d : Nat} (h99 : PT X J h g j d) : j ≤ J := h99.2.2.2.1
theorem PT.dp {X : TX} {J : Nat} {h g : mv_H} {j d : Nat} (h99 : PT X J h g j d) : mv_i g 3 8 = nI d := h99.2.2.2.2.1
theorem PT.d2 {X : TX} {J : Nat} {h g : mv_H} {j d : Nat} (h99 : PT X J h g j d) : d ≤ 60 := h99.2.2.2.2.2.1
theorem PT.lt {X : TX} {J : Nat} {h g : mv_H} {j d : Nat} (h99 : PT X J h g j d) : mv_i g 3 9 < 0 := h99.2.2.2.2.2.2.1
theorem PT.e9 {X : TX} {J : Nat} {h g : mv_H} {j d : Nat} (h99 : PT X J h g j d) : mv_i g 3 9 = mv_i h 3 9 := h99.2.2.2.2.2.2.2.1
theorem PT.fl {X : TX} {J : Nat} {h g : mv_H} {j d : Nat} (h99 : PT X J h g j d) : ¬ mv_i h 21 0 = 0 → ¬ mv_i g 21 0 = 0 := h99.2.2.2.2.2.2.2.2
section PTS
variable {X : TX} {J : Nat} {h g : mv_H} {j d : Nat} (T : PT X J h g j d)
theorem PT.jb (T : PT X J h g j d) : j + 1 < 32000 := by have := T.tb.jb; have := T.jJ; omega
theorem PT.kd (T : PT X J h g j d) : f_Tokens_kind g = some (nI (X.kd j), g) := by
  rw [kind_c T.at' (by have := T.jb; omega) T.lt, (T.tb.k j T.jJ).1]
theorem PT.rt (T : PT X J h g j d) : f_Tokens_right g = some (1, g) := by
  unfold f_Tokens_right
  have c : ¬ (0 : Int32) ≤ mv_i g 3 9 := fun z => absurd T.lt (Int32.not_lt.mpr z)
  rw [if_neg c, xz1', cond_true]
theorem PT.wr (T : PT X J h g j d) : ∃ g', f_Tokens_wrong g = some g' ∧ Wr g' ∧ Sm h g' := by
  obtain ⟨q, e, hq⟩ := T.tb.p j T.jJ
  refine ⟨mv_si g 3 9 (nI q), ?_, ?_, T.sm.si (by omega) _⟩
  · rw [wrong_c T.at' (by have := T.jb; omega) T.lt, e]
  · show 0 ≤ (nI q).toInt
    rw [nIi (by omega)]; omega
theorem PT.nx (T : PT X J h g j d) (hj : j + 1 ≤ J) : PT X J h (mv_si g 3 7 (nI (j + 2))) (j + 1) d :=
  ⟨T.tb.fr rfl rfl rfl, T.sm.si (by omega) _, rfl, hj, T.dp, T.d2, T.lt, T.e9, T.fl⟩
theorem PT.dd (T : PT X J h g j d) {e : Nat} (he : e ≤ 60) : PT X J h (mv_si g 3 8 (nI e)) j e :=
  ⟨T.tb.fr rfl rfl rfl, T.sm.si (by omega) _, T.at', T.jJ, rfl, he, T.lt, T.e9, T.fl⟩
/-- take -/
theorem PT.tk (T : PT X J h g j d) (hJ : X.kd J = 1 ∨ X.kd J = 2) {k : Nat} (hk : k < 400) (hk2 : ¬ k = 1 ∧ ¬ k = 2) : (X.kd j = k ∧ ∃ g', f_Tokens_take g (nI k) = some (nI (j + 1), g') ∧ PT X J h g' (j + 1) d ∧ mv_i g' 21 = mv_i g 21) ∨ (¬ X.kd j = k ∧ ∃ g', f_Tokens_take g (nI k) = some (0, g') ∧ Wr g' ∧ Sm h g') := by
  have hkd := (T.tb.k j T.jJ).2
  have e := take_c T.at' (by have := T.jb; omega) T.lt (nI k)
  rw [(T.tb.k j T.jJ).1] at e
  by_cases c : X.kd j = k
  · refine Or.inl ⟨c, mv_si g 3 7 (nI (j + 2)), ?_, T.nx (nxJ hJ T.jJ (by omega) (by omega)), rfl⟩
    rw [e, if_pos (by rw [c])]
  · obtain ⟨q, e5, hq⟩ := T.tb.p j T.jJ
    refine Or.inr ⟨c, mv_si g 3 9 (nI q), ?_, ?_, T.sm.si (by omega) _⟩
    · rw [e, if_neg (fun z => c ((nIinj (by omega) (by omega)).mp z)), e5]
    · show 0 ≤ (nI q).toInt
      rw [nIi (by omega)]; omega
/-- open -/
theorem PT.op (T : PT X J h g j d) (hJ : X.kd J = 1 ∨ X.kd J = 2) {k : Nat} (hk : k < 400) (hk2 : ¬ k = 0 ∧ ¬ k = 1 ∧ ¬ k = 2) : ((X.kd j = k ∧ d < 60) ∧ ∃ g', f_Tokens_open g (nI k) = some (nI (j + 1), g') ∧ PT X J h g' (j + 1) (d + 1) ∧ mv_i g' 21 = mv_i g 21) ∨ (¬ (X.kd j = k ∧ d < 60) ∧ ∃ g', f_Tokens_open g (nI k) = some (0, g') ∧ Wr g' ∧ Sm h g') := by
  have hd := T.d2
  have hn0 : ¬ (0 : Int32) = nI k := fun z => hk2.1 ((nIinj (a := 0) (by omega) (by omega)).mp z).symm
  by_cases c : d = 60
  · refine Or.inr ⟨fun z => by omega, ?_⟩
    obtain ⟨g1, e1, w1, s1⟩ := T.wr
    have w2 : Wr (mv_si g1 3 8 (mv_i g1 3 8 + 1)) := w1.d8 _
    refine ⟨mv_si g1 3 8 (mv_i g1 3 8 + 1), ?_, w2, s1.si (by omega) _⟩
    unfold f_Tokens_open f_Tokens_open_13
    rw [if_pos (show mv_i g 3 8 = 60 by rw [T.dp, c]; rfl), e1, xhv_s, xk_s, tkW w2 hn0, xhb_s]
  · have ed : mv_i g 3 8 + 1 = nI (d + 1) := by rw [T.dp]; exact nI1 (by omega)
    have T1 := T.dd (e := d + 1) (by omega)
    have eo : f_Tokens_open g (nI k) = xhb (f_Tokens_take (mv_si g 3 8 (nI (d + 1))) (nI k)) fun v3 g2 => some (v3, g2) := by
      unfold f_Tokens_open f_Tokens_open_13
      rw [if_neg (show ¬ mv_i g 3 8 = 60 from fun z => by rw [T.dp] at z; have := (nIinj (b := 60) (by omega) (by omega)).mp z; omega), ed, xk_s]
    rcases T1.tk hJ hk hk2.2 with ⟨q1, g', e, T2, r⟩ | ⟨q1, g', e, w, s⟩
    · exact Or.inl ⟨⟨q1, by omega⟩, g', by rw [eo, e, xhb_s], T2, r⟩
    · exact Or.inr ⟨fun z => q1 z.1, g', by rw [eo, e, xhb_s], w, s⟩
/-- close -/
theorem PT.cl (T : PT X J h g j d) (hJ : X.kd J = 1 ∨ X.kd J = 2) {k : Nat} (hk : k < 400) (hk2 : ¬ k = 1 ∧ ¬ k = 2) (hd0 : 0 < d) : (X.kd j = k ∧ ∃ g', f_Tokens_close g (nI k) = some (nI (j + 1), g') ∧ PT X J h g' (j + 1) (d - 1) ∧ mv_i g' 21 = mv_i g 21) ∨ (¬ X.kd j = k ∧ ∃ g', f_Tokens_close g (nI k) = some (0, g') ∧ Wr g' ∧ Sm h g') := by
  have hd := T.d2
  have ed : mv_i g 3 8 - 1 = nI (d - 1) := by rw [T.dp]; exact nIsub (a := d) (b := 1) (by omega) (by omega)
  have T1 := T.dd (e := d - 1) (by omega)
  have eo : f_Tokens_close g (nI k) = xhb (f_Tokens_take (mv_si g 3 8 (nI (d - 1))) (nI k)) fun v3 g2 => some (v3, g2) := by
    unfold f_Tokens_close
    rw [ed, xk_s]
  rcases T1.tk hJ hk hk2 with ⟨q1, g', e, T2, r⟩ | ⟨q1, g', e, w, s⟩
  · exact Or.inl ⟨q1, g', by rw [eo, e, xhb_s], T2, r⟩
  · exact Or.inr ⟨q1, g', by rw [eo, e, xhb_s], w, s⟩
/-- tell -/
theorem PT.tl (T : PT X J h g j d) {t : Nat} (ht : t < 32770) {x : Int32} (hx : ¬ x = 0) : ∃ g', f_Weaver_tell g (nI t) x = some g' ∧ PT X J h g' j d ∧ ¬ mv_i g' 21 0 = 0 := by
  obtain ⟨g', e, n, s, q⟩ := wtl g ht hx
  refine ⟨g', e, ⟨T.tb.fr (by rw [s.a]) (by rw [s.a]) (by rw [s.b]), T.sm.tr s, ?_, T.jJ, ?_, T.d2, ?_, ?_, fun _ => n⟩, n⟩
  · rw [q 3 (by omega)]; exact T.at'
  · rw [q 3 (by omega)]; exact T.dp
  · rw [q 3 (by omega)]; exact T.lt
  · rw [q 3 (by omega)]; exact T.e9
end PTS
/-- a number judged, in any state -/
theorem nuA (g : mv_H) {t : Nat} (ht : t < 32770) (x : Int32) : ∃ v g', f_Weaver_numberUpTo g (nI t) x = some (v, g') ∧ Sm g g' ∧ (∀ o, ¬ o = 21 → mv_i g' o = mv_i g o) ∧ (¬ mv_i g 21 0 = 0 → ¬ mv_i g' 21 0 = 0) := by
  obtain ⟨g', e, n, s, q⟩ := wtl g ht (x := 3) (by decide)
  have e2 : f_Weaver_numberUpTo_23 (nI t) g = some (0, g') := by
    unfold f_Weaver_numberUpTo_23
    rw [e, xhv_s]
  unfold f_Weaver_numberUpTo
  rw [xvi_n ht (by decide), cond_true]
  by_cases c1 : lg_cmp (mv_b g 6 (nI t).toNatClampNeg) (1 : Int64) < (0 : Int32)
  · rw [if_pos c1]; exact ⟨_, _, e2, s, q, fun _ => n⟩
  rw [if_neg c1]
  by_cases c2 : lg_cmp (mv_b g 6 (nI t).toNatClampNeg) x.toInt64 ≤ (0 : Int32)
  · rw [if_pos c2]; exact ⟨_, _, rfl, Sm.rf, fun _ _ => rfl, fun z => z⟩
  · rw [if_neg c2]; exact ⟨_, _, e2, s, q, fun _ => n⟩
/-- a NUMBER from 1 to m -/
theorem PT.nu {X : TX} {J : Nat} {h g : mv_H} {j d : Nat} (T : PT X J h g j d) {i : Nat} (hi : i ≤ J) (hk : X.kd i = 4) {m : Nat} (hm : m < 2147483648) : (1 ≤ X.nu i ∧ X.nu i ≤ m ∧ f_Weaver_numberUpTo g (nI (i + 1)) (nI m) = some (nI (X.nu i), g)) ∨ (¬ (1 ≤ X.nu i ∧ X.nu i ≤ m) ∧ ∃ g', f_Weaver_numberUpTo g (nI (i + 1)) (nI m) = some (0, g') ∧ PT X J h g' j d ∧ ¬ mv_i g' 21 0 = 0) := by
  have hJ := T.tb.jb
  obtain ⟨eA, hA⟩ := T.tb.n i hi hk
  obtain ⟨g', e, T', n⟩ := T.tl (t := i + 1) (by omega) (x := 3) (by decide)
  have e2 : f_Weaver_numberUpTo_23 (nI (i + 1)) g = some (0, g') := by
    unfold f_Weaver_numberUpTo_23
    rw [e, xhv_s]
  have em : (nI m).toInt64 = nJ m := by rw [xI_l, xi2l_s (by omega)]
  have i1 : lg_cmp (nJ (X.nu i)) (1 : Int64) < 0 ↔ (X.nu i < 1 ∨ 9223372036854775808 ≤ X.nu i) := lc_lt hA (w := 1) (by omega)
  unfold f_Weaver_numberUpTo
  rw [xvi_n (by omega) (by decide), cond_true, cln (by omega), eA, em]
  by_cases c1 : X.nu i < 1 ∨ 9223372036854775808 ≤ X.nu i
  · rw [if_pos (i1.mpr c1)]
    exact Or.inr ⟨fun z => by omega, g', e2, T', n⟩
  rw [if_neg (fun z => c1 (i1.mp z))]
  have i2 : lg_cmp (nJ (X.nu i)) (nJ m) ≤ 0 ↔ X.nu i ≤ m := lc_le (by omega) (by omega)
  by_cases c2 : X.nu i ≤ m
  · rw [if_pos (i2.mpr c2), nJi (by omega)]
    exact Or.inl ⟨by omega, c2, rfl⟩
  · rw [if_neg (fun z => c2 (i2.mp z))]
    exact Or.inr ⟨fun z => c2 z.2, g', e2, T', n⟩
/-- the letter that a name is, 0 if it is none -/
def ltr : List Nat → Nat
  | [c] => if isl c = true then c else 0
  | _ => 0
theorem isl_b {c : Nat} (h : isl c = true) : 65 ≤ c ∧ c ≤ 122 := by
  unfold isl at h
  rw [Bool.or_eq_true, Bool.and_eq_true, Bool.and_eq_true] at h
  rcases h with ⟨h1, h2⟩ | ⟨h1, h2⟩
  · have := Nat.le_of_ble_eq_true h1; have := Nat.le_of_ble_eq_true h2; omega
  · have := Nat.le_of_ble_eq_true h1; have := Nat.le_of_ble_eq_true h2; omega
theorem ltr_b (x : List Nat) : ltr x < 128 := by
  unfold ltr
  split
  · split
    · rename_i c h; have := isl_b h; omega
    · omega
  · omega
/-- names and codes of the tokens, as the class has them -/
def SyQ (X : TX) (J : Nat) (sy : List Nat → Nat) (h : mv_H) : Prop := (∀ i, i ≤ J → X.kd i = 3 → mv_b h 6 (i + 1) = nJ (sy (X.nm i)) ∧ sy (X.nm i) < 16440 ∧ ∀ g : mv_H, mv_a g 8 = mv_a h 8 → mv_a g 9 = mv_a h 9 → f_Symbols_letter g (nI (sy (X.nm i))) = some (nI (ltr (X.nm i)), g)) ∧ (∀ i i', i ≤ J → i' ≤ J → X.kd i = 3 → X.kd i' = 3 → sy (X.nm i) = sy (X.nm i') → X.nm i = X.nm i') ∧ (mv_b h 6 0 = 0) ∧ (∃ lt, lt < 128 ∧ ∀ g : mv_H, mv_a g 8 = mv_a h 8 → mv_a g 9 = mv_a h 9 → f_Symbols_letter g 0 = some (nI lt, g)) ∧ (∀ i, i ≤ J → X.kd i = 5 → ∃ q, mv_a h 5 (i + 1) = nI q ∧ q + 1 + (X.nm i).length ≤ 32768 ∧ mv_b h 6 (i + 1) = nJ (X.nm i).length ∧ ∀ k, k < (X.nm i).length → mv_a h 1 (q + 1 + k) = nI ((X.nm i).getD k 0) ∧ ((X.nm i).getD k 0 = 46 ∨ (X.nm i).getD k 0 = 48 ∨ (X.nm i).getD k 0 = 49 ∨ isl ((X.nm i).getD k 0) = true))
theorem SyQ.t {X : TX} {J : Nat} {sy : List Nat → Nat} {h : mv_H} (h99 : SyQ X J sy h) : ∀ i, i ≤ J → X.kd i = 3 → mv_b h 6 (i + 1) = nJ (sy (X.nm i)) ∧ sy (X.nm i) < 16440 ∧ ∀ g : mv_H, mv_a g 8 = mv_a h 8 → mv_a g 9 = mv_a h 9 → f_Symbols_letter g (nI (sy (X.nm i))) = some (nI (ltr (X.nm i)), g) := h99.1
theorem SyQ.inj {X : TX} {J : Nat} {sy : List Nat → Nat} {h : mv_H} (h99 : SyQ X J sy h) : ∀ i i', i ≤ J → i' ≤ J → X.kd i = 3 → X.kd i' = 3 → sy (X.nm i) = sy (X.nm i') → X.nm i = X.nm i' := h99.2.1
theorem SyQ.z6 {X : TX} {J : Nat} {sy : List Nat → Nat} {h : mv_H} (h99 : SyQ X J sy h) : mv_b h 6 0 = 0 := h99.2.2.1
theorem SyQ.l0 {X : TX} {J : Nat} {sy : List Nat → Nat} {h : mv_H} (h99 : SyQ X J sy h) : ∃ lt, lt < 128 ∧ ∀ g : mv_H, mv_a g 8 = mv_a h 8 → mv_a g 9 = mv_a h 9 → f_Symbols_letter g 0 = some (nI lt, g) := h99.2.2.2.1
theorem SyQ.cd {X : TX} {J : Nat} {sy : List Nat → Nat} {h : mv_H} (h99 : SyQ X J sy h) : ∀ i, i ≤ J → X.kd i = 5 → ∃ q, mv_a h 5 (i + 1) = nI q ∧ q + 1 + (X.nm i).length ≤ 32768 ∧ mv_b h 6 (i + 1) = nJ (X.nm i).length ∧ ∀ k, k < (X.nm i).length → mv_a h 1 (q + 1 + k) = nI ((X.nm i).getD k 0) ∧ ((X.nm i).getD k 0 = 46 ∨ (X.nm i).getD k 0 = 48 ∨ (X.nm i).getD k 0 = 49 ∨ isl ((X.nm i).getD k 0) = true) := h99.2.2.2.2
theorem SyQ.fr {X : TX} {J : Nat} {sy : List Nat → Nat} {h g : mv_H} (S : SyQ X J sy h) (e1 : mv_a g 1 = mv_a h 1) (e5 : mv_a g 5 = mv_a h 5) (e8 : mv_a g 8 = mv_a h 8) (e9 : mv_a g 9 = mv_a h 9) (e6 : mv_b g 6 = mv_b h 6) : SyQ X J sy g := by
  refine ⟨fun i h1 h2 => ?_, S.inj, by rw [e6]; exact S.z6, ?_, fun i h1 h2 => by rw [e5, e6, e1]; exact S.cd i h1 h2⟩
  · obtain ⟨a1, a2, a3⟩ := S.t i h1 h2
    exact ⟨by rw [e6]; exact a1, a2, fun g' q1 q2 => a3 g' (by rw [q1, e8]) (by rw [q2, e9])⟩
  · obtain ⟨lt, h1, h2⟩ := S.l0
    exact ⟨lt, h1, fun g' q1 q2 => h2 g' (by rw [q1, e8]) (by rw [q2, e9])⟩
theorem SyQ.sm {X : TX} {J : Nat} {sy : List Nat → Nat} {h g : mv_H} (S : SyQ X J sy h) (s : Sm h g) : SyQ X J sy g := S.fr (by rw [s.a]) (by rw [s.a]) (by rw [s.a]) (by rw [s.a]) (by rw [s.b])
section SYM2
variable {X : TX} {J : Nat} {sy : List Nat → Nat} {g : mv_H} (S : SyQ X J sy g) {i : Nat} (hi : i ≤ J) (hJb : J ≤ 10240) (hk : X.kd i = 3)
theorem SyQ.so (S : SyQ X J sy g) (hi : i ≤ J) (hJb : J ≤ 10240) (hk : X.kd i = 3) : f_Weaver_symbolOf g (nI (i + 1)) = some (nI (sy (X.nm i)), g) := by
  obtain ⟨a1, a2, a3⟩ := S.t i hi hk
  unfold f_Weaver_symbolOf
  rw [xvi_n (by omega) (by decide), cond_true, cln (by omega), a1, nJi (by omega)]
/-- what the class takes a name for -/
def kOf (g : mv_H) (sy : List Nat → Nat) (x : List Nat) : Int32 := if mv_a g 17 (ltr x) ≤ 0 then mv_a g 14 (sy x) else 4
theorem SyQ.ko (S : SyQ X J sy g) (hi : i ≤ J) (hJb : J ≤ 10240) (hk : X.kd i = 3) : f_Names_kindOf g (nI (sy (X.nm i))) = some (kOf g sy (X.nm i), g) := by
  obtain ⟨a1, a2, a3⟩ := S.t i hi hk
  have hl := ltr_b (X.nm i)
  unfold f_Names_kindOf kOf
  rw [a3 g rfl rfl, xhb_s, xvi_n hl (by decide), cond_true, cln (by omega), xvi_n (by omega) (by decide), cond_true, cln (by omega)]
  split
  · rfl
  · rfl
end SYM2
section ISN
variable {X : TX} {J P : Nat} {sy : List Nat → Nat} {h g : mv_H} {j d : Nat} (T : PT X J h g j d) (S : SyQ X J sy g) {i : Nat} (hi : i ≤ J) (hk : X.kd i = 3)
theorem isn_A (T : PT X J h g j d) (S : SyQ X J sy g) (hi : i ≤ J) (hk : X.kd i = 3) {n t c : Nat} (e1 : mv_i g P 1 = nI t) (ht : t ≤ 64) (e7 : mv_i g P 7 = nI c) (hc : c ≤ 65536) (hn : n ≤ 65536) : (kOf g sy (X.nm i) = 0 ∧ t < 64 ∧ c + n ≤ 65536 ∧ f_Weaver_isNew P g (nI (i + 1)) (nI n) = some (1, g)) ∨ (¬ (kOf g sy (X.nm i) = 0 ∧ t < 64 ∧ c + n ≤ 65536) ∧ ∃ g', f_Weaver_isNew P g (nI (i + 1)) (nI n) = some (0, g') ∧ PT X J h g' j d ∧ ¬ mv_i g' 21 0 = 0) := by
  have hJ := T.tb.jb
  have en : nI c + nI n = nI (c + n) := Int32.toInt_inj.mp (by rw [i32_add (by rw [nIi (by omega), nIi (by omega)]; omega) (by rw [nIi (by omega), nIi (by omega)]; omega), nIi (by omega), nIi (by omega), nIi (by omega)]; omega)
  obtain ⟨g2, e2, T2, n2⟩ := T.tl (t := i + 1) (by omega) (x := 2) (by decide)
  obtain ⟨g6, e6, T6, n6⟩ := T.tl (t := i + 1) (by omega) (x := 6) (by decide)
  have e49 : f_Weaver_isNew_49 P (nI (i + 1)) g = some (0, g6) := by
    unfold f_Weaver_isNew_49
    rw [e6, xhv_s, xz0, cond_true]
  unfold f_Weaver_isNew
  rw [S.so hi hJ hk, xhb_s, S.ko hi hJ hk, xhb_s]
  by_cases c1 : kOf g sy (X.nm i) = 0
  · rw [if_pos c1, e1, e7, en]
    by_cases c2 : t = 64
    · rw [if_pos (show nI t = 64 by rw [c2]; rfl)]
      exact Or.inr ⟨fun z => by omega, g6, e49, T6, n6⟩
    rw [if_neg (show ¬ nI t = 64 from fun z => c2 ((nIinj (b := 64) (by omega) (by omega)).mp z))]
    by_cases c3 : c + n ≤ 65536
    · rw [if_pos (show nI (c + n) ≤ 65536 from (nIle (b := 65536) (by omega) (by omega)).mpr c3), xz1', cond_true]
      exact Or.inl ⟨c1, by omega, c3, rfl⟩
    · rw [if_neg (show ¬ nI (c + n) ≤ 65536 from fun z => c3 ((nIle (b := 65536) (by omega) (by omega)).mp z))]
      exact Or.inr ⟨fun z => c3 z.2.2, g6, e49, T6, n6⟩
  · rw [if_neg c1, e2, xhv_s, xz0, cond_true]
    exact Or.inr ⟨fun z => c1 z.1, g2, rfl, T2, n2⟩
end ISN
/-- a THING more: symbol s, kind v, place t, width w, n cells -/
def ThQ (P : Nat) (g h' : mv_H) (s t : Nat) (v w : Int32) (n z : Int32) : Prop := (∀ o k, ¬ (o = P ∧ (k = 1 ∨ k = 6 ∨ k = 7)) → mv_i h' o k = mv_i g o k) ∧ (mv_i h' P 1 = nI (t + 1)) ∧ (mv_i h' P 7 = mv_i g P 7 + n) ∧ (∀ k, mv_a h' 14 k = if k = s then v else mv_a g 14 k) ∧ (∀ k, mv_a h' 15 k = if k = s then nI t else mv_a g 15 k) ∧ (∀ k, mv_a h' (P + 1) k = if k = t then w else mv_a g (P + 1) k) ∧ (∀ k, mv_a h' (P + 2) k = if k = t then n else mv_a g (P + 2) k) ∧ (∀ o, ¬ (o = 14 ∨ o = 15 ∨ (P + 1 ≤ o ∧ o ≤ P + 4)) → mv_a h' o = mv_a g o) ∧ (mv_b h' = mv_b g) ∧ (∀ k, mv_a h' (P + 3) k = if k = t then mv_i g P 6 else mv_a g (P + 3) k) ∧ (∀ k, mv_a h' (P + 4) k = if k = t then vp_nar .boolean z else mv_a g (P + 4) k) ∧ (mv_i h' P 6 = mv_i g P 6 + (if n = 0 then 1 else n))
theorem ThQ.i {P : Nat} {g h' : mv_H} {s t : Nat} {v w : Int32} {n z : Int32} (h99 : ThQ P g h' s t v w n z) : ∀ o k, ¬ (o = P ∧ (k = 1 ∨ k = 6 ∨ k = 7)) → mv_i h' o k = mv_i g o k := h99.1
theorem ThQ.i1 {P : Nat} {g h' : mv_H} {s t : Nat} {v w : Int32} {n z : Int32} (h99 : ThQ P g h' s t v w n z) : mv_i h' P 1 = nI (t + 1) := h99.2.1
theorem ThQ.i7 {P : Nat} {g h' : mv_H} {s t : Nat} {v w : Int32} {n z : Int32} (h99 : ThQ P g h' s t v w n z) : mv_i h' P 7 = mv_i g P 7 + n := h99.2.2.1
theorem ThQ.a14 {P : Nat} {g h' : mv_H} {s t : Nat} {v w : Int32} {n z : Int32} (h99 : ThQ P g h' s t v w n z) : ∀ k, mv_a h' 14 k = if k = s then v else mv_a g 14 k := h99.2.2.2.1
theorem ThQ.a15 {P : Nat} {g h' : mv_H} {s t : Nat} {v w : Int32} {n z : Int32} (h99 : ThQ P g h' s t v w n z) : ∀ k, mv_a h' 15 k = if k = s then nI t else mv_a g 15 k := h99.2.2.2.2.1
theorem ThQ.aw {P : Nat} {g h' : mv_H} {s t : Nat} {v w : Int32} {n z : Int32} (h99 : ThQ P g h' s t v w n z) : ∀ k, mv_a h' (P + 1) k = if k = t then w else mv_a g (P + 1) k := h99.2.2.2.2.2.1
theorem ThQ.ac {P : Nat} {g h' : mv_H} {s t : Nat} {v w : Int32} {n z : Int32} (h99 : ThQ P g h' s t v w n z) : ∀ k, mv_a h' (P + 2) k = if k = t then n else mv_a g (P + 2) k := h99.2.2.2.2.2.2.1
theorem ThQ.ao {P : Nat} {g h' : mv_H} {s t : Nat} {v w : Int32} {n z : Int32} (h99 : ThQ P g h' s t v w n z) : ∀ o, ¬ (o = 14 ∨ o = 15 ∨ (P + 1 ≤ o ∧ o ≤ P + 4)) → mv_a h' o = mv_a g o := h99.2.2.2.2.2.2.2.1
theorem ThQ.b {P : Nat} {g h' : mv_H} {s t : Nat} {v w : Int32} {n z : Int32} (h99 : ThQ P g h' s t v w n z) : mv_b h' = mv_b g := h99.2.2.2.2.2.2.2.2.1
theorem ThQ.a3 {P : Nat} {g h' : mv_H} {s t : Nat} {v w : Int32} {n z : Int32} (h99 : ThQ P g h' s t v w n z) : ∀ k, mv_a h' (P + 3) k = if k = t then mv_i g P 6 else mv_a g (P + 3) k := h99.2.2.2.2.2.2.2.2.2.1
theorem ThQ.a4 {P : Nat} {g h' : mv_H} {s t : Nat} {v w : Int32} {n z : Int32} (h99 : ThQ P g h' s t v w n z) : ∀ k, mv_a h' (P + 4) k = if k = t then vp_nar .boolean z else mv_a g (P + 4) k := h99.2.2.2.2.2.2.2.2.2.2.1
theorem ThQ.i6 {P : Nat} {g h' : mv_H} {s t : Nat} {v w : Int32} {n z : Int32} (h99 : ThQ P g h' s t v w n z) : mv_i h' P 6 = mv_i g P 6 + (if n = 0 then 1 else n) := h99.2.2.2.2.2.2.2.2.2.2.2
theorem rw_ii (g : mv_H) (o k o' k' : Nat) (v : Int32) : mv_i (mv_si g o k v) o' k' = if o' = o ∧ k' = k then v else mv_i g o' k' := rfl
theorem rw_aa (g : mv_H) (o k o' k' : Nat) (v : Int32) : mv_a (mv_sa g o k v) o' k' = if o' = o ∧ k' = k then v else mv_a g o' k' := rfl
theorem rw_bb (g : mv_H) (o k o' k' : Nat) (v : Int64) : mv_b (mv_sb g o k v) o' k' = if o' = o ∧ k' = k then v else mv_b g o' k' := rfl
theorem rw_ia (g : mv_H) (o k : Nat) (v : Int32) : mv_i (mv_sa g o k v) = mv_i g := rfl
theorem rw_ib (g : mv_H) (o k : Nat) (v : Int64) : mv_i (mv_sb g o k v) = mv_i g := rfl
theorem rw_ai (g : mv_H) (o k : Nat) (v : Int32) : mv_a (mv_si g o k v) = mv_a g := rfl
theorem rw_ab (g : mv_H) (o k : Nat) (v : Int64) : mv_a (mv_sb g o k v) = mv_a g := rfl
theorem rw_bi (g : mv_H) (o k : Nat) (v : Int32) : mv_b (mv_si g o k v) = mv_b g := rfl
theorem rw_ba (g : mv_H) (o k : Nat) (v : Int32) : mv_b (mv_sa g o k v) = mv_b g := rfl
/-- a place of a heap that was written -/
theorem know_e (g : mv_H) {s : Nat} (hs : s < 16448) (v x : Int32) : f_Names_know g (nI s) v x = some (mv_sa (mv_sa g 14 s v) 15 s x) := by
  unfold f_Names_know
  rw [xvi_n hs (by decide), cond_true, cln (by omega), xk_s, cond_true, xk_s]
theorem addT_e {P : Nat} (hpp : P = 32 ∨ P = 48) (g : mv_H) {s t : Nat} (hs : s < 16448) (ht : t < 64) (e1 : mv_i g P 1 = nI t) (v w n z : Int32) : ∃ h', f_Program_addThing P (mv_sa (mv_sa g 14 s v) 15 s (nI t)) w n z = some h' ∧ ThQ P g h' s t v w n z := by
  have fin : ∀ y : Int32, y = (if n = 0 then 1 else n) → ∃ h', f_Program_addThing_57 P n y (mv_i g P 6) (mv_sa (mv_sa (mv_sa (mv_sa (mv_sa (mv_sa g 14 s v) 15 s (nI t)) (P + 1) t w) (P + 2) t n) (P + 3) t (mv_i g P 6)) (P + 4) t (vp_nar .boolean z)) = some h' ∧ ThQ P g h' s t v w n z := fun y hy => by
    unfold f_Program_addThing_57
    rw [xk_s, xk_s, xk_s]
    refine ⟨_, rfl, ?_⟩
    refine ⟨fun o k q => ?_, ?_, ?_, fun k => ?_, fun k => ?_, fun k => ?_, fun k => ?_, fun o q => ?_, rfl, fun k => ?_, fun k => ?_, ?_⟩
    · ((simp only [rw_ii, rw_aa, rw_bb, rw_ia, rw_ib, rw_ai, rw_ab, rw_bi, rw_ba, true_and, and_true, if_true]; repeat' split) <;> first | rfl | (exfalso; omega))
    · have e2 : nI t + 1 = nI (t + 1) := nI1 (by omega)
      rw [← e2, ← e1]
      ((simp only [rw_ii, rw_aa, rw_bb, rw_ia, rw_ib, rw_ai, rw_ab, rw_bi, rw_ba, true_and, and_true, if_true]; repeat' split) <;> first | rfl | (exfalso; omega))
    · ((simp only [rw_ii, rw_aa, rw_bb, rw_ia, rw_ib, rw_ai, rw_ab, rw_bi, rw_ba, true_and, and_true, if_true]; repeat' split) <;> first | rfl | (exfalso; omega))
    · ((simp only [rw_ii, rw_aa, rw_bb, rw_ia, rw_ib, rw_ai, rw_ab, rw_bi, rw_ba, true_and, and_true, if_true]; repeat' split) <;> first | rfl | (exfalso; omega))
    · ((simp only [rw_ii, rw_aa, rw_bb, rw_ia, rw_ib, rw_ai, rw_ab, rw_bi, rw_ba, true_and, and_true, if_true]; repeat' split) <;> first | rfl | (exfalso; omega))
    · ((simp only [rw_ii, rw_aa, rw_bb, rw_ia, rw_ib, rw_ai, rw_ab, rw_bi, rw_ba, true_and, and_true, if_true]; repeat' split) <;> first | rfl | (exfalso; omega))
    · ((simp only [rw_ii, rw_aa, rw_bb, rw_ia, rw_ib, rw_ai, rw_ab, rw_bi, rw_ba, true_and, and_true, if_true]; repeat' split) <;> first | rfl | (exfalso; omega))
    · funext k; ((simp only [rw_ii, rw_aa, rw_bb, rw_ia, rw_ib, rw_ai, rw_ab, rw_bi, rw_ba, true_and, and_true, if_true]; repeat' split) <;> first | rfl | (exfalso; omega))
    · ((simp only [rw_ii, rw_aa, rw_bb, rw_ia, rw_ib, rw_ai, rw_ab, rw_bi, rw_ba, true_and, and_true, if_true]; repeat' split) <;> first | rfl | (exfalso; omega))
    · ((simp only [rw_ii, rw_aa, rw_bb, rw_ia, rw_ib, rw_ai, rw_ab, rw_bi, rw_ba, true_and, and_true, if_true]; repeat' split) <;> first | rfl | (exfalso; omega))
    · rw [← hy]; ((simp only [rw_ii, rw_aa, rw_bb, rw_ia, rw_ib, rw_ai, rw_ab, rw_bi, rw_ba, true_and, and_true, if_true]; repeat' split) <;> first | rfl | (exfalso; omega))
  unfold f_Program_addThing
  simp only [xk_s, rw_ia]
  rw [e1, xvi_n (by omega) (by decide), cln (by omega)]
  simp only [cond_true]
  split
  · rename_i hy; exact fin _ (by rw [if_pos hy])
  · rename_i hy; exact fin _ (by rw [if_neg hy])
/-- know and addThing behind isNew -/
theorem knT_A {X : TX} {J P : Nat} {sy : List Nat → Nat} {h g : mv_H} {j d : Nat} (T : PT X J h g j d) (S : SyQ X J sy g) {i : Nat} (hi : i ≤ J) (hk : X.kd i = 3) (hpp : P = 32 ∨ P = 48) {n t c : Nat} (e1 : mv_i g P 1 = nI t) (ht : t ≤ 64) (e7 : mv_i g P 7 = nI c) (hc : c ≤ 65536) (hn : n ≤ 65536) (v w z : Int32) : ∃ h', (xhb (f_Weaver_isNew P g (nI (i + 1)) (nI n)) fun v16 g15 => if v16 = (0 : Int32) then (some g15) else (xhb (f_Weaver_symbolOf g15 (nI (i + 1))) fun v18 g17 => xhv (f_Names_know g17 v18 v (mv_i g17 P 1)) fun g19 => xhv (f_Program_addThing P g19 w (nI n) z) fun g20 => some g20)) = some h' ∧
    ((kOf g sy (X.nm i) = 0 ∧ t < 64 ∧ c + n ≤ 65536 ∧ ThQ P g h' (sy (X.nm i)) t v w (nI n) z) ∨ (¬ (kOf g sy (X.nm i) = 0 ∧ t < 64 ∧ c + n ≤ 65536) ∧ Fl h')) := by
  have hJ := T.tb.jb
  obtain ⟨-, b2, -⟩ := S.t i hi hk
  rcases isn_A T S hi hk e1 ht e7 hc hn with ⟨q1, q2, q3, e⟩ | ⟨q, g', e, T', n'⟩
  · obtain ⟨h', e', Q⟩ := addT_e hpp g (s := sy (X.nm i)) (t := t) (by omega) q2 e1 v w (nI n) z
    refine ⟨h', ?_, Or.inl ⟨q1, q2, q3, Q⟩⟩
    rw [e, xhb_s, if_neg (by decide), S.so hi hJ hk, xhb_s, know_e g (by omega), xhv_s, e1, e', xhv_s]
  · refine ⟨g', ?_, Or.inr ⟨q, Or.inr n'⟩⟩
    rw [e, xhb_s, if_pos rfl]
/-- the Weaver, not wrong, whatever was told -/
def WA (X : TX) (J P : Nat) (sy : List Nat → Nat) (h : mv_H) (j d : Nat) : Prop := (PT X J h h j d) ∧ (SyQ X J sy h) ∧ (P = 32 ∨ P = 48) ∧ (X.kd J = 1 ∨ X.kd J = 2) ∧ (∃ z, mv_i h P 17 = nI z ∧ z ≤ 32768) ∧ (∀ i, i ≤ J → X.kd i = 3 → (mv_a h 14 (sy (X.nm i)) = 1 ∨ mv_a h 14 (sy (X.nm i)) = 2) → ∃ u, mv_a h 15 (sy (X.nm i)) = nI u ∧ u < 64)
theorem WA.pt {X : TX} {J P : Nat} {sy : List Nat → Nat} {h : mv_H} {j d : Nat} (h99 : WA X J P sy h j d) : PT X J h h j d := h99.1
theorem WA.S {X : TX} {J P : Nat} {sy : List Nat → Nat} {h : mv_H} {j d : Nat} (h99 : WA X J P sy h j d) : SyQ X J sy h := h99.2.1
theorem WA.pp {X : TX} {J P : Nat} {sy : List Nat → Nat} {h : mv_H} {j d : Nat} (h99 : WA X J P sy h j d) : P = 32 ∨ P = 48 := h99.2.2.1
theorem WA.hJ {X : TX} {J P : Nat} {sy : List Nat → Nat} {h : mv_H} {j d : Nat} (h99 : WA X J P sy h j d) : X.kd J = 1 ∨ X.kd J = 2 := h99.2.2.2.1
theorem WA.sz {X : TX} {J P : Nat} {sy : List Nat → Nat} {h : mv_H} {j d : Nat} (h99 : WA X J P sy h j d) : ∃ z, mv_i h P 17 = nI z ∧ z ≤ 32768 := h99.2.2.2.2.1
theorem WA.nm {X : TX} {J P : Nat} {sy : List Nat → Nat} {h : mv_H} {j d : Nat} (h99 : WA X J P sy h j d) : ∀ i, i ≤ J → X.kd i = 3 → (mv_a h 14 (sy (X.nm i)) = 1 ∨ mv_a h 14 (sy (X.nm i)) = 2) → ∃ u, mv_a h 15 (sy (X.nm i)) = nI u ∧ u < 64 := h99.2.2.2.2.2
theorem kOf_sm {h g : mv_H} (s : Sm h g) (sy : List Nat → Nat) (x : List Nat) : kOf g sy x = kOf h sy x := by
  unfold kOf
  rw [s.a]
theorem ThQ.n {P : Nat} {g h' : mv_H} {s t : Nat} {v w n z : Int32} (Q : ThQ P g h' s t v w n z) (hpp : P = 32 ∨ P = 48) : mv_i h' 21 = mv_i g 21 := funext fun k => Q.i 21 k (by omega)
theorem Fl.n {g h' : mv_H} (F : ¬ mv_i g 21 0 = 0) (e : mv_i h' 21 = mv_i g 21) : Fl h' := Or.inr (by rw [e]; exact F)
theorem nuW {g : mv_H} (w : Wr g) {t : Nat} (ht : t < 32770) (x : Int32) : ∃ v g', f_Weaver_numberUpTo g (nI t) x = some (v, g') ∧ Wr g' ∧ Sm g g' := by
  obtain ⟨v, g', e, s, q, -⟩ := nuA g ht x
  exact ⟨v, g', e, by unfold Wr; rw [q 3 (by omega)]; exact w, s⟩
def regE (P : Nat) (v4 v8 : Int32) (g7 : mv_H) : Option mv_H := xhb (f_Weaver_numberUpTo g7 v8 (64 : Int32)) fun v10 g9 => xhb (f_Tokens_take g9 (59 : Int32)) fun v12 g11 => xhb (f_Tokens_right g11) fun v14 g13 => if v14 = (0 : Int32) then (some g13) else (xhb (f_Weaver_isNew P g13 v4 (0 : Int32)) fun v16 g15 => if v16 = (0 : Int32) then (some g15) else (xhb (f_Weaver_symbolOf g15 v4) fun v18 g17 => xhv (f_Names_know g17 v18 (1 : Int32) (mv_i g17 P 1)) fun g19 => xhv (f_Program_addThing P g19 v10 (0 : Int32) (0 : Int32)) fun g20 => some g20))
theorem regE_W {P : Nat} {g : mv_H} (w : Wr g) (v4 : Int32) {t : Nat} (ht : t < 32770) : ∃ h', regE P v4 (nI t) g = some h' ∧ Wr h' := by
  obtain ⟨v, g', e, w', s'⟩ := nuW w ht 64
  unfold regE
  rw [e, xhb_s, tkW w' (by decide), xhb_s, rtW w', xhb_s, if_pos rfl]
  exact ⟨g', rfl, w'⟩
section REG
variable {X : TX} {J P : Nat} {sy : List Nat → Nat} {h : mv_H} {j d : Nat} (W : WA X J P sy h j d)
/-- reg NAME : NUMBER ; -/
theorem reg_A (W : WA X J P sy h j d) (hk : X.kd j = 201) {t c : Nat} (e1 : mv_i h P 1 = nI t) (ht : t ≤ 64) (e7 : mv_i h P 7 = nI c) (hc : c ≤ 65536) : ∃ h', f_Weaver_register P h = some h' ∧
    (((X.kd (j + 1) = 3 ∧ X.kd (j + 2) = 58 ∧ X.kd (j + 3) = 4 ∧ X.kd (j + 4) = 59 ∧ 1 ≤ X.nu (j + 3) ∧ X.nu (j + 3) ≤ 64) ∧ (kOf h sy (X.nm (j + 1)) = 0 ∧ t < 64 ∧ c + 0 ≤ 65536) ∧ ∃ g, PT X J h g (j + 5) d ∧ mv_i g 21 = mv_i h 21 ∧ ThQ P g h' (sy (X.nm (j + 1))) t 1 (nI (X.nu (j + 3))) (nI 0) 0) ∨
     (¬ ((X.kd (j + 1) = 3 ∧ X.kd (j + 2) = 58 ∧ X.kd (j + 3) = 4 ∧ X.kd (j + 4) = 59 ∧ 1 ≤ X.nu (j + 3) ∧ X.nu (j + 3) ≤ 64) ∧ (kOf h sy (X.nm (j + 1)) = 0 ∧ t < 64 ∧ c + 0 ≤ 65536)) ∧ Fl h')) := by
  have hpp := W.pp
  have hJ := W.hJ
  have hJb := W.pt.tb.jb
  have hjJ := W.pt.jJ
  have e0 : f_Weaver_register P h = xhb (f_Tokens_take h (201 : Int32)) fun v2 g1 => xhb (f_Tokens_take g1 (3 : Int32)) fun v4 g3 => xhb (f_Tokens_take g3 (58 : Int32)) fun v6 g5 => xhb (f_Tokens_take g5 (4 : Int32)) fun v8 g7 => regE P v4 v8 g7 := rfl
  rw [e0]
  rcases W.pt.tk hJ (k := 201) (by omega) (by omega) with ⟨q0, g1, e, T1, n1⟩ | ⟨q0, -⟩
  rotate_left
  · exact absurd hk q0
  rw [show f_Tokens_take h 201 = _ from e, xhb_s]
  rcases T1.tk hJ (k := 3) (by omega) (by omega) with ⟨q1, g3, e, T3, n3⟩ | ⟨q1, g3, e, w3, -⟩
  rotate_left
  · obtain ⟨h', e', w'⟩ := regE_W (P := P) w3 0 (t := 0) (by omega)
    rw [show f_Tokens_take g1 3 = _ from e, xhb_s, tkW w3 (by decide), xhb_s, tkW w3 (by decide), xhb_s]
    exact ⟨h', e', Or.inr ⟨fun z => q1 z.1.1, w'.fl⟩⟩
  rw [show f_Tokens_take g1 3 = _ from e, xhb_s]
  rcases T3.tk hJ (k := 58) (by omega) (by omega) with ⟨q2, g5, e, T5, n5⟩ | ⟨q2, g5, e, w5, -⟩
  rotate_left
  · obtain ⟨h', e', w'⟩ := regE_W (P := P) w5 (nI (j + 1 + 1)) (t := 0) (by omega)
    rw [show f_Tokens_take g3 58 = _ from e, xhb_s, tkW w5 (by decide), xhb_s]
    exact ⟨h', e', Or.inr ⟨fun z => q2 z.1.2.1, w'.fl⟩⟩
  rw [show f_Tokens_take g3 58 = _ from e, xhb_s]
  rcases T5.tk hJ (k := 4) (by omega) (by omega) with ⟨q3, g7, e, T7, n7⟩ | ⟨q3, g7, e, w7, -⟩
  rotate_left
  · obtain ⟨h', e', w'⟩ := regE_W (P := P) w7 (nI (j + 1 + 1)) (t := 0) (by omega)
    rw [show f_Tokens_take g5 4 = _ from e, xhb_s]
    exact ⟨h', e', Or.inr ⟨fun z => q3 z.1.2.2.1, w'.fl⟩⟩
  rw [show f_Tokens_take g5 4 = _ from e, xhb_s]
  have hj3 := T5.jJ
  unfold regE
  rcases T7.nu (i := j + 3) hj3 q3 (m := 64) (by omega) with ⟨u1, u2, e⟩ | ⟨u, g9, e, T9, n9⟩
  · rw [show f_Weaver_numberUpTo g7 (nI (j + 1 + 1 + 1 + 1)) 64 = _ from e, xhb_s]
    rcases T7.tk hJ (k := 59) (by omega) (by omega) with ⟨q4, gb, e, Tb, nb⟩ | ⟨q4, gb, e, wb, -⟩
    · rw [show f_Tokens_take g7 59 = _ from e, xhb_s, Tb.rt, xhb_s, if_neg (by decide)]
      obtain ⟨h', e', r⟩ := knT_A (i := j + 1) (n := 0) (P := P) (t := t) (c := c) Tb (W.S.sm Tb.sm) (by have := T3.jJ; omega) q1 hpp (by rw [Tb.sm.i P 1 (by omega) (by omega)]; exact e1) ht (by rw [Tb.sm.i P 7 (by omega) (by omega)]; exact e7) hc (by omega) 1 (nI (X.nu (j + 3))) 0
      rw [kOf_sm Tb.sm] at r
      refine ⟨h', e', ?_⟩
      rcases r with ⟨r1, r2, r3, r4⟩ | ⟨r1, r2⟩
      · exact Or.inl ⟨⟨q1, q2, q3, q4, u1, u2⟩, ⟨r1, r2, r3⟩, gb, Tb, by rw [nb, n7, n5, n3, n1], r4⟩
      · exact Or.inr ⟨fun z => r1 z.2, r2⟩
    · rw [show f_Tokens_take g7 59 = _ from e, xhb_s, rtW wb, xhb_s, if_pos rfl]
      exact ⟨gb, rfl, Or.inr ⟨fun z => q4 z.1.2.2.2.1, wb.fl⟩⟩
  · rw [show f_Weaver_numberUpTo g7 (nI (j + 1 + 1 + 1 + 1)) 64 = _ from e, xhb_s]
    rcases T9.tk hJ (k := 59) (by omega) (by omega) with ⟨q4, gb, e, Tb, nb⟩ | ⟨q4, gb, e, wb, -⟩
    · rw [show f_Tokens_take g9 59 = _ from e, xhb_s, Tb.rt, xhb_s, if_neg (by decide)]
      obtain ⟨h', e', r⟩ := knT_A (i := j + 1) (n := 0) (P := P) (t := t) (c := c) Tb (W.S.sm Tb.sm) (by have := T3.jJ; omega) q1 hpp (by rw [Tb.sm.i P 1 (by omega) (by omega)]; exact e1) ht (by rw [Tb.sm.i P 7 (by omega) (by omega)]; exact e7) hc (by omega) 1 0 0
      refine ⟨h', e', Or.inr ⟨fun z => u z.1.2.2.2.2, ?_⟩⟩
      rcases r with ⟨r1, r2, r3, r4⟩ | ⟨r1, r2⟩
      · exact Fl.n n9 (by rw [r4.n hpp, nb])
      · exact r2
    · rw [show f_Tokens_take g9 59 = _ from e, xhb_s, rtW wb, xhb_s, if_pos rfl]
      exact ⟨gb, rfl, Or.inr ⟨fun z => q4 z.1.2.2.2.1, wb.fl⟩⟩
end REG
def filG (P : Nat) (v16 v22 v28 : Int32) (g29 : mv_H) : Option mv_H := xhb (f_Tokens_kind g29) fun v32 g31 => if v32 = (203 : Int32) then (f_Weaver_file_98 P v16 v22 v28 (1 : Int32) g31) else (f_Weaver_file_98 P v16 v22 v28 (0 : Int32) g31)
def filF (P : Nat) (v16 v22 v26 : Int32) (g25 : mv_H) : Option mv_H := xhb (f_Weaver_numberUpTo g25 v26 (65536 : Int32)) fun v28 g27 => xhb (f_Tokens_take g27 (93 : Int32)) fun v30 g29 => filG P v16 v22 v28 g29
def filE (P : Nat) (v16 v20 : Int32) (g19 : mv_H) : Option mv_H := xhb (f_Weaver_numberUpTo g19 v20 (64 : Int32)) fun v22 g21 => xhb (f_Tokens_take g21 (91 : Int32)) fun v24 g23 => xhb (f_Tokens_take g23 (4 : Int32)) fun v26 g25 => filF P v16 v22 v26 g25
theorem fil138_W {P : Nat} {g : mv_H} (w : Wr g) (x1 x2 x3 x4 : Int32) : f_Weaver_file_138 P x1 x2 x3 x4 g = some g := by
  unfold f_Weaver_file_138
  rw [rtW w, xhb_s, if_pos rfl]
theorem fil116_W {P : Nat} {g : mv_H} (w : Wr g) (x1 x2 x3 x4 : Int32) : f_Weaver_file_116 P x1 x2 x3 x4 g = some g := by
  unfold f_Weaver_file_116 f_Weaver_file_134
  rw [tkW w (by decide), xhb_s, fil138_W w, fil138_W w]
  split
  · rfl
  · split <;> rfl
theorem filG_W {P : Nat} {g : mv_H} (w : Wr g) (v16 v22 v28 : Int32) : filG P v16 v22 v28 g = some g := by
  unfold filG f_Weaver_file_98
  rw [kdW w, xhb_s, if_neg (by decide), if_pos rfl, fil116_W w]
theorem filF_W {P : Nat} {g : mv_H} (w : Wr g) (v16 v22 : Int32) {t : Nat} (ht : t < 32770) : ∃ h', filF P v16 v22 (nI t) g = some h' ∧ Wr h' := by
  obtain ⟨v, g', e, w', s'⟩ := nuW w ht 65536
  unfold filF
  rw [e, xhb_s, tkW w' (by decide), xhb_s, filG_W w']
  exact ⟨g', rfl, w'⟩
theorem filE_W {P : Nat} {g : mv_H} (w : Wr g) (v16 : Int32) {t : Nat} (ht : t < 32770) : ∃ h', filE P v16 (nI t) g = some h' ∧ Wr h' := by
  obtain ⟨v, g', e, w', s'⟩ := nuW w ht 64
  unfold filE
  rw [e, xhb_s, tkW w' (by decide), xhb_s, tkW w' (by decide), xhb_s]
  exact filF_W w' _ _ (t := 0) (by omega)
section FIL
variable {X : TX} {J P : Nat} {sy : List Nat → Nat} {h : mv_H} {j d : Nat} (W : WA X J P sy h j d)
/-- behind ] -/
theorem filG_A (W : WA X J P sy h j d) {g : mv_H} {j' i : Nat} (T : PT X J h g j' d) (hi : i ≤ J) (hk : X.kd i = 3) {t c w n : Nat} (hw : w ≤ 64) (hn : n ≤ 65536) (e1 : mv_i h P 1 = nI t) (ht : t ≤ 64) (e7 : mv_i h P 7 = nI c) (hc : c ≤ 65536) : ∃ h', filG P (nI (i + 1)) (nI w) (nI n) g = some h' ∧
    (((if X.kd j' = 203 then X.kd (j' + 1) = 59 else X.kd j' = 59) ∧ (kOf h sy (X.nm i) = 0 ∧ t < 64 ∧ c + (if w = 0 ∨ n = 0 then 0 else n) ≤ 65536) ∧ ∃ g2, PT X J h g2 (if X.kd j' = 203 then j' + 2 else j' + 1) d ∧ mv_i g2 21 = mv_i g 21 ∧ ThQ P g2 h' (sy (X.nm i)) t 2 (nI (if w = 0 ∨ n = 0 then 0 else w)) (nI (if w = 0 ∨ n = 0 then 0 else n)) (if X.kd j' = 203 then 1 else 0)) ∨
     (¬ ((if X.kd j' = 203 then X.kd (j' + 1) = 59 else X.kd j' = 59) ∧ (kOf h sy (X.nm i) = 0 ∧ t < 64 ∧ c + (if w = 0 ∨ n = 0 then 0 else n) ≤ 65536)) ∧ Fl h')) := by
  have hpp := W.pp
  have hJ := W.hJ
  have hJb := W.pt.tb.jb
  have hkd := (T.tb.k j' T.jJ).2
  -- behind zero
  have fin : ∀ (g1 : mv_H) (j1 : Nat) (y0 : Int32), PT X J h g1 j1 d → mv_i g1 21 = mv_i g 21 → ∃ h', f_Weaver_file_116 P (nI (i + 1)) (nI w) (nI n) y0 g1 = some h' ∧ ((X.kd j1 = 59 ∧ (kOf h sy (X.nm i) = 0 ∧ t < 64 ∧ c + (if w = 0 ∨ n = 0 then 0 else n) ≤ 65536) ∧ ∃ g2, PT X J h g2 (j1 + 1) d ∧ mv_i g2 21 = mv_i g 21 ∧ ThQ P g2 h' (sy (X.nm i)) t 2 (nI (if w = 0 ∨ n = 0 then 0 else w)) (nI (if w = 0 ∨ n = 0 then 0 else n)) y0) ∨ (¬ (X.kd j1 = 59 ∧ (kOf h sy (X.nm i) = 0 ∧ t < 64 ∧ c + (if w = 0 ∨ n = 0 then 0 else n) ≤ 65536)) ∧ Fl h')) := fun g1 j1 y0 T1 n1 => by
    have e116 : f_Weaver_file_116 P (nI (i + 1)) (nI w) (nI n) y0 g1 = xhb (f_Tokens_take g1 (59 : Int32)) fun _ g9 => f_Weaver_file_138 P (nI (i + 1)) (nI (if w = 0 ∨ n = 0 then 0 else w)) (nI (if w = 0 ∨ n = 0 then 0 else n)) y0 g9 := by
      unfold f_Weaver_file_116 f_Weaver_file_134
      refine congrArg (xhb (f_Tokens_take g1 59)) (funext fun _ => funext fun g9 => ?_)
      by_cases c1 : w = 0
      · rw [if_pos (show nI w = (0 : Int32) by rw [c1]; rfl), if_pos (Or.inl c1), if_pos (Or.inl c1)]; rfl
      rw [if_neg (show ¬ nI w = (0 : Int32) from fun z => c1 ((nIinj (b := 0) (by omega) (by omega)).mp z))]
      by_cases c2 : n = 0
      · rw [if_pos (show nI n = (0 : Int32) by rw [c2]; rfl), if_pos (Or.inr c2), if_pos (Or.inr c2)]; rfl
      rw [if_neg (show ¬ nI n = (0 : Int32) from fun z => c2 ((nIinj (b := 0) (by omega) (by omega)).mp z)), if_neg (by omega), if_neg (by omega)]
    rw [e116]
    rcases T1.tk hJ (k := 59) (by omega) (by omega) with ⟨q4, gb, e, Tb, nb⟩ | ⟨q4, gb, e, wb, -⟩
    · rw [show f_Tokens_take g1 59 = _ from e, xhb_s]
      unfold f_Weaver_file_138
      rw [Tb.rt, xhb_s, if_neg (by decide)]
      obtain ⟨h', e', r⟩ := knT_A (i := i) (n := if w = 0 ∨ n = 0 then 0 else n) (P := P) (t := t) (c := c) Tb (W.S.sm Tb.sm) hi hk hpp (by rw [Tb.sm.i P 1 (by omega) (by omega)]; exact e1) ht (by rw [Tb.sm.i P 7 (by omega) (by omega)]; exact e7) hc (by split <;> omega) 2 (nI (if w = 0 ∨ n = 0 then 0 else w)) y0
      rw [kOf_sm Tb.sm] at r
      refine ⟨h', e', ?_⟩
      rcases r with ⟨r1, r2, r3, r4⟩ | ⟨r1, r2⟩
      · exact Or.inl ⟨q4, ⟨r1, r2, r3⟩, gb, Tb, by rw [nb, n1], r4⟩
      · exact Or.inr ⟨fun z => r1 z.2, r2⟩
    · rw [show f_Tokens_take g1 59 = _ from e, xhb_s, fil138_W wb]
      exact ⟨gb, rfl, Or.inr ⟨fun z => q4 z.1, wb.fl⟩⟩
  unfold filG f_Weaver_file_98
  rw [T.kd, xhb_s]
  by_cases c : X.kd j' = 203
  · rw [if_pos (show nI (X.kd j') = 203 by rw [c]; rfl), if_neg (by decide), if_pos c, if_pos c, if_pos c]
    rcases T.tk hJ (k := 203) (by omega) (by omega) with ⟨q0, g1, e, T1, n1⟩ | ⟨q0, -⟩
    · rw [show f_Tokens_take g 203 = _ from e, xhb_s]
      exact fin g1 (j' + 1) 1 T1 n1
    · exact absurd c q0
  · rw [if_neg (show ¬ nI (X.kd j') = 203 from fun z => c ((nIinj (b := 203) (by omega) (by omega)).mp z)), if_pos rfl, if_neg c, if_neg c, if_neg c]
    exact fin g j' 0 T rfl
/-- file NAME : NUMBER [ NUMBER ] zero ; -/
theorem fil_A (W : WA X J P sy h j d) (hk : X.kd j = 202) {t c : Nat} (e1 : mv_i h P 1 = nI t) (ht : t ≤ 64) (e7 : mv_i h P 7 = nI c) (hc : c ≤ 65536) : ∃ h', f_Weaver_file P h = some h' ∧
    (((X.kd (j + 1) = 3 ∧ X.kd (j + 2) = 58 ∧ X.kd (j + 3) = 4 ∧ X.kd (j + 4) = 91 ∧ X.kd (j + 5) = 4 ∧ X.kd (j + 6) = 93 ∧ (1 ≤ X.nu (j + 3) ∧ X.nu (j + 3) ≤ 64) ∧ 1 ≤ X.nu (j + 5) ∧ X.nu (j + 5) ≤ 65536) ∧ (if X.kd (j + 7) = 203 then X.kd (j + 8) = 59 else X.kd (j + 7) = 59) ∧ (kOf h sy (X.nm (j + 1)) = 0 ∧ t < 64 ∧ c + X.nu (j + 5) ≤ 65536) ∧ ∃ g, PT X J h g (if X.kd (j + 7) = 203 then j + 9 else j + 8) d ∧ mv_i g 21 = mv_i h 21 ∧ ThQ P g h' (sy (X.nm (j + 1))) t 2 (nI (X.nu (j + 3))) (nI (X.nu (j + 5))) (if X.kd (j + 7) = 203 then 1 else 0)) ∨
     (¬ ((X.kd (j + 1) = 3 ∧ X.kd (j + 2) = 58 ∧ X.kd (j + 3) = 4 ∧ X.kd (j + 4) = 91 ∧ X.kd (j + 5) = 4 ∧ X.kd (j + 6) = 93 ∧ (1 ≤ X.nu (j + 3) ∧ X.nu (j + 3) ≤ 64) ∧ 1 ≤ X.nu (j + 5) ∧ X.nu (j + 5) ≤ 65536) ∧ (if X.kd (j + 7) = 203 then X.kd (j + 8) = 59 else X.kd (j + 7) = 59) ∧ (kOf h sy (X.nm (j + 1)) = 0 ∧ t < 64 ∧ c + X.nu (j + 5) ≤ 65536)) ∧ Fl h')) := by
  have hpp := W.pp
  have hJ := W.hJ
  have hJb := W.pt.tb.jb
  have hjJ := W.pt.jJ
  have e0 : f_Weaver_file P h = xhb (f_Tokens_take h (202 : Int32)) fun v14 g13 => xhb (f_Tokens_take g13 (3 : Int32)) fun v16 g15 => xhb (f_Tokens_take g15 (58 : Int32)) fun v18 g17 => xhb (f_Tokens_take g17 (4 : Int32)) fun v20 g19 => filE P v16 v20 g19 := rfl
  rw [e0]
  rcases W.pt.tk hJ (k := 202) (by omega) (by omega) with ⟨q0, g1, e, T1, n1⟩ | ⟨q0, -⟩
  rotate_left
  · exact absurd hk q0
  rw [show f_Tokens_take h 202 = _ from e, xhb_s]
  rcases T1.tk hJ (k := 3) (by omega) (by omega) with ⟨q1, g3, e, T3, n3⟩ | ⟨q1, g3, e, w3, -⟩
  rotate_left
  · obtain ⟨h', e', w'⟩ := filE_W (P := P) w3 0 (t := 0) (by omega)
    rw [show f_Tokens_take g1 3 = _ from e, xhb_s, tkW w3 (by decide), xhb_s, tkW w3 (by decide), xhb_s]
    exact ⟨h', e', Or.inr ⟨fun z => q1 z.1.1, w'.fl⟩⟩
  rw [show f_Tokens_take g1 3 = _ from e, xhb_s]
  rcases T3.tk hJ (k := 58) (by omega) (by omega) with ⟨q2, g5, e, T5, n5⟩ | ⟨q2, g5, e, w5, -⟩
  rotate_left
  · obtain ⟨h', e', w'⟩ := filE_W (P := P) w5 (nI (j + 1 + 1)) (t := 0) (by omega)
    rw [show f_Tokens_take g3 58 = _ from e, xhb_s, tkW w5 (by decide), xhb_s]
    exact ⟨h', e', Or.inr ⟨fun z => q2 z.1.2.1, w'.fl⟩⟩
  rw [show f_Tokens_take g3 58 = _ from e, xhb_s]
  rcases T5.tk hJ (k := 4) (by omega) (by omega) with ⟨q3, g7, e, T7, n7⟩ | ⟨q3, g7, e, w7, -⟩
  rotate_left
  · obtain ⟨h', e', w'⟩ := filE_W (P := P) w7 (nI (j + 1 + 1)) (t := 0) (by omega)
    rw [show f_Tokens_take g5 4 = _ from e, xhb_s]
    exact ⟨h', e', Or.inr ⟨fun z => q3 z.1.2.2.1, w'.fl⟩⟩
  rw [show f_Tokens_take g5 4 = _ from e, xhb_s]
  have hj1 := T1.jJ
  have hj3 := T5.jJ
  -- behind the width: w, or 0 where that is told
  have mid : ∀ (g9 : mv_H) (w : Nat), PT X J h g9 (j + 4) d → w ≤ 64 → ((w = X.nu (j + 3) ∧ 1 ≤ w ∧ mv_i g9 21 = mv_i h 21) ∨ (w = 0 ∧ ¬ (1 ≤ X.nu (j + 3) ∧ X.nu (j + 3) ≤ 64) ∧ ¬ mv_i g9 21 0 = 0)) → ∃ h', (xhb (f_Tokens_take g9 (91 : Int32)) fun v24 g23 => xhb (f_Tokens_take g23 (4 : Int32)) fun v26 g25 => filF P (nI (j + 1 + 1)) (nI w) v26 g25) = some h' ∧ (((X.kd (j + 1) = 3 ∧ X.kd (j + 2) = 58 ∧ X.kd (j + 3) = 4 ∧ X.kd (j + 4) = 91 ∧ X.kd (j + 5) = 4 ∧ X.kd (j + 6) = 93 ∧ (1 ≤ X.nu (j + 3) ∧ X.nu (j + 3) ≤ 64) ∧ 1 ≤ X.nu (j + 5) ∧ X.nu (j + 5) ≤ 65536) ∧ (if X.kd (j + 7) = 203 then X.kd (j + 8) = 59 else X.kd (j + 7) = 59) ∧ (kOf h sy (X.nm (j + 1)) = 0 ∧ t < 64 ∧ c + X.nu (j + 5) ≤ 65536) ∧ ∃ g, PT X J h g (if X.kd (j + 7) = 203 then j + 9 else j + 8) d ∧ mv_i g 21 = mv_i h 21 ∧ ThQ P g h' (sy (X.nm (j + 1))) t 2 (nI (X.nu (j + 3))) (nI (X.nu (j + 5))) (if X.kd (j + 7) = 203 then 1 else 0)) ∨
     (¬ ((X.kd (j + 1) = 3 ∧ X.kd (j + 2) = 58 ∧ X.kd (j + 3) = 4 ∧ X.kd (j + 4) = 91 ∧ X.kd (j + 5) = 4 ∧ X.kd (j + 6) = 93 ∧ (1 ≤ X.nu (j + 3) ∧ X.nu (j + 3) ≤ 64) ∧ 1 ≤ X.nu (j + 5) ∧ X.nu (j + 5) ≤ 65536) ∧ (if X.kd (j + 7) = 203 then X.kd (j + 8) = 59 else X.kd (j + 7) = 59) ∧ (kOf h sy (X.nm (j + 1)) = 0 ∧ t < 64 ∧ c + X.nu (j + 5) ≤ 65536)) ∧ Fl h')) := fun g9 w T9 hw hx => by
    rcases T9.tk hJ (k := 91) (by omega) (by omega) with ⟨q4, gb, e, Tb, nb⟩ | ⟨q4, gb, e, wb, -⟩
    rotate_left
    · obtain ⟨h', e', w'⟩ := filF_W (P := P) wb (nI (j + 1 + 1)) (nI w) (t := 0) (by omega)
      rw [show f_Tokens_take g9 91 = _ from e, xhb_s, tkW wb (by decide), xhb_s]
      exact ⟨h', e', Or.inr ⟨fun z => q4 z.1.2.2.2.1, w'.fl⟩⟩
    rw [show f_Tokens_take g9 91 = _ from e, xhb_s]
    rcases Tb.tk hJ (k := 4) (by omega) (by omega) with ⟨q5, gd, e, Td, nd⟩ | ⟨q5, gd, e, wd', -⟩
    rotate_left
    · obtain ⟨h', e', w'⟩ := filF_W (P := P) wd' (nI (j + 1 + 1)) (nI w) (t := 0) (by omega)
      rw [show f_Tokens_take gb 4 = _ from e, xhb_s]
      exact ⟨h', e', Or.inr ⟨fun z => q5 z.1.2.2.2.2.1, w'.fl⟩⟩
    rw [show f_Tokens_take gb 4 = _ from e, xhb_s]
    have hj5 := Tb.jJ
    -- behind the cells
    have en : ∀ (gf : mv_H) (n : Nat), PT X J h gf (j + 6) d → n ≤ 65536 → ((n = X.nu (j + 5) ∧ 1 ≤ n ∧ mv_i gf 21 = mv_i gd 21) ∨ (n = 0 ∧ ¬ (1 ≤ X.nu (j + 5) ∧ X.nu (j + 5) ≤ 65536) ∧ ¬ mv_i gf 21 0 = 0)) → ∃ h', (xhb (f_Tokens_take gf (93 : Int32)) fun v30 g29 => filG P (nI (j + 1 + 1)) (nI w) (nI n) g29) = some h' ∧ (((X.kd (j + 1) = 3 ∧ X.kd (j + 2) = 58 ∧ X.kd (j + 3) = 4 ∧ X.kd (j + 4) = 91 ∧ X.kd (j + 5) = 4 ∧ X.kd (j + 6) = 93 ∧ (1 ≤ X.nu (j + 3) ∧ X.nu (j + 3) ≤ 64) ∧ 1 ≤ X.nu (j + 5) ∧ X.nu (j + 5) ≤ 65536) ∧ (if X.kd (j + 7) = 203 then X.kd (j + 8) = 59 else X.kd (j + 7) = 59) ∧ (kOf h sy (X.nm (j + 1)) = 0 ∧ t < 64 ∧ c + X.nu (j + 5) ≤ 65536) ∧ ∃ g, PT X J h g (if X.kd (j + 7) = 203 then j + 9 else j + 8) d ∧ mv_i g 21 = mv_i h 21 ∧ ThQ P g h' (sy (X.nm (j + 1))) t 2 (nI (X.nu (j + 3))) (nI (X.nu (j + 5))) (if X.kd (j + 7) = 203 then 1 else 0)) ∨
     (¬ ((X.kd (j + 1) = 3 ∧ X.kd (j + 2) = 58 ∧ X.kd (j + 3) = 4 ∧ X.kd (j + 4) = 91 ∧ X.kd (j + 5) = 4 ∧ X.kd (j + 6) = 93 ∧ (1 ≤ X.nu (j + 3) ∧ X.nu (j + 3) ≤ 64) ∧ 1 ≤ X.nu (j + 5) ∧ X.nu (j + 5) ≤ 65536) ∧ (if X.kd (j + 7) = 203 then X.kd (j + 8) = 59 else X.kd (j + 7) = 59) ∧ (kOf h sy (X.nm (j + 1)) = 0 ∧ t < 64 ∧ c + X.nu (j + 5) ≤ 65536)) ∧ Fl h')) := fun gf n Tf hn hy => by
      rcases Tf.tk hJ (k := 93) (by omega) (by omega) with ⟨q6, gh, e, Th, nh⟩ | ⟨q6, gh, e, wh, -⟩
      rotate_left
      · rw [show f_Tokens_take gf 93 = _ from e, xhb_s, filG_W wh]
        exact ⟨gh, rfl, Or.inr ⟨fun z => q6 z.1.2.2.2.2.2.1, wh.fl⟩⟩
      rw [show f_Tokens_take gf 93 = _ from e, xhb_s]
      obtain ⟨h', e', r⟩ := filG_A W (i := j + 1) (w := w) (n := n) Th hj1 q1 hw hn e1 ht e7 hc
      refine ⟨h', e', ?_⟩
      rcases hx with ⟨x1, x2, x3⟩ | ⟨x1, x2, x3⟩
      · rcases hy with ⟨y1, y2, y3⟩ | ⟨y1, y2, y3⟩
        · rw [if_neg (show ¬ (w = 0 ∨ n = 0) by omega), if_neg (show ¬ (w = 0 ∨ n = 0) by omega), x1, y1] at r
          rcases r with ⟨r1, r2, g2, r3, r4, r5⟩ | ⟨r1, r2⟩
          · exact Or.inl ⟨⟨q1, q2, q3, q4, q5, q6, by omega, by omega⟩, r1, r2, g2, r3, by rw [r4, nh, y3, nd, nb, x3], r5⟩
          · exact Or.inr ⟨fun z => r1 ⟨z.2.1, z.2.2⟩, r2⟩
        · refine Or.inr ⟨fun z => y2 z.1.2.2.2.2.2.2.2, ?_⟩
          rcases r with ⟨r1, r2, g2, r3, r4, r5⟩ | ⟨r1, r2⟩
          · exact Fl.n y3 (by rw [r5.n hpp, r4, nh])
          · exact r2
      · refine Or.inr ⟨fun z => x2 z.1.2.2.2.2.2.2.1, ?_⟩
        rcases r with ⟨r1, r2, g2, r3, r4, r5⟩ | ⟨r1, r2⟩
        · rcases hy with ⟨y1, y2, y3⟩ | ⟨y1, y2, y3⟩
          · exact Fl.n x3 (by rw [r5.n hpp, r4, nh, y3, nd, nb])
          · exact Fl.n y3 (by rw [r5.n hpp, r4, nh])
        · exact r2
    unfold filF
    rcases Td.nu (i := j + 5) hj5 q5 (m := 65536) (by omega) with ⟨u1, u2, e⟩ | ⟨u, gf, e, Tf, nf⟩
    · rw [show f_Weaver_numberUpTo gd (nI (j + 4 + 1 + 1)) 65536 = _ from e, xhb_s]
      exact en gd (X.nu (j + 5)) Td u2 (Or.inl ⟨rfl, u1, rfl⟩)
    · rw [show f_Weaver_numberUpTo gd (nI (j + 4 + 1 + 1)) 65536 = _ from e, xhb_s]
      exact en gf 0 Tf (by omega) (Or.inr ⟨rfl, u, nf⟩)
  unfold filE
  rcases T7.nu (i := j + 3) hj3 q3 (m := 64) (by omega) with ⟨u1, u2, e⟩ | ⟨u, g9, e, T9, n9⟩
  · rw [show f_Weaver_numberUpTo g7 (nI (j + 1 + 1 + 1 + 1)) 64 = _ from e, xhb_s]
    exact mid g7 (X.nu (j + 3)) T7 u2 (Or.inl ⟨rfl, u1, by rw [n7, n5, n3, n1]⟩)
  · rw [show f_Weaver_numberUpTo g7 (nI (j + 1 + 1 + 1 + 1)) 64 = _ from e, xhb_s]
    exact mid g9 0 T9 (by omega) (Or.inr ⟨rfl, u, n9⟩)
end FIL
section FET
variable {X : TX} {J P : Nat} {sy : List Nat → Nat} {h : mv_H} {j d : Nat} (W : WA X J P sy h j d)
/-- the names of fetch -/
theorem fet78_A (W : WA X J P sy h j d) {g : mv_H} {j' i k : Nat} (T : PT X J h g j' d) (hi : i ≤ J) (hki : X.kd i = 3) (hk : k ≤ J) (hkk : X.kd k = 3) : ∃ h', f_Weaver_fetch_78 P (nI (i + 1)) (nI (k + 1)) g = some h' ∧
    (((kOf h sy (X.nm i) = 1 ∧ kOf h sy (X.nm k) = 2 ∧ mv_a h (P + 1) (mv_a h 15 (sy (X.nm k))).toNatClampNeg = 8) ∧ ∃ x u, u < 64 ∧ h' = mv_si (mv_si g P 8 x) P 9 (nI u) ∧ x = mv_a h 15 (sy (X.nm i)) ∧ mv_a h 15 (sy (X.nm k)) = nI u) ∨
     (¬ (kOf h sy (X.nm i) = 1 ∧ kOf h sy (X.nm k) = 2 ∧ mv_a h (P + 1) (mv_a h 15 (sy (X.nm k))).toNatClampNeg = 8) ∧ Fl h')) := by
  have hJb := W.pt.tb.jb
  have S := W.S.sm T.sm
  obtain ⟨-, b2, -⟩ := S.t i hi hki
  obtain ⟨-, b3, -⟩ := S.t k hk hkk
  obtain ⟨g2, e2, T2, n2⟩ := T.tl (t := i + 1) (by omega) (x := 2) (by decide)
  obtain ⟨g4, e4, T4, n4⟩ := T.tl (t := k + 1) (by omega) (x := 2) (by decide)
  have e164 : f_Weaver_fetch_164 P (nI (k + 1)) g = some g4 := by
    unfold f_Weaver_fetch_164
    rw [e4, xhv_s]
  unfold f_Weaver_fetch_78
  rw [S.so hi hJb hki, xhb_s, xvi_n (by omega) (by decide), cond_true, S.so hk hJb hkk, xhb_s, xvi_n (by omega) (by decide), cond_true, S.so hi hJb hki, xhb_s, S.ko hi hJb hki, xhb_s, kOf_sm T.sm]
  by_cases c1 : kOf h sy (X.nm i) = 1
  · rw [if_pos c1, S.so hk hJb hkk, xhb_s, S.ko hk hJb hkk, xhb_s, kOf_sm T.sm]
    by_cases c2 : kOf h sy (X.nm k) = 2
    · have c3 : mv_a h 14 (sy (X.nm k)) = 2 := by
        unfold kOf at c2
        split at c2
        · exact c2
        · exact absurd c2 (by decide)
      obtain ⟨u, eu, hu⟩ := W.nm k hk hkk (Or.inr c3)
      rw [if_pos c2, cln (by omega), T.sm.a, eu, xvi_n hu (by decide), cond_true]
      by_cases c4 : mv_a h (P + 1) (nI u).toNatClampNeg = 8
      · rw [if_pos c4, xk_s, xk_s]
        exact ⟨_, rfl, Or.inl ⟨⟨c1, c2, c4⟩, _, u, hu, rfl, by first | rfl | rw [cln (by omega)] | rw [cln (by omega), T.sm.a], by first | exact eu | rfl⟩⟩
      · rw [if_neg c4, e164]
        exact ⟨g4, rfl, Or.inr ⟨fun z => c4 z.2.2, Or.inr n4⟩⟩
    · rw [if_neg c2, e164]
      exact ⟨g4, rfl, Or.inr ⟨fun z => c2 z.2.1, Or.inr n4⟩⟩
  · rw [if_neg c1, e2, xhv_s]
    exact ⟨g2, rfl, Or.inr ⟨fun z => c1 z.1, Or.inr n2⟩⟩
/-- fetch NAME from NAME ; -/
theorem fet_A (W : WA X J P sy h j d) (hk : X.kd j = 204) : ∃ h', f_Weaver_fetch P h = some h' ∧
    (((X.kd (j + 1) = 3 ∧ X.kd (j + 2) = 205 ∧ X.kd (j + 3) = 3 ∧ X.kd (j + 4) = 59) ∧ mv_i h P 9 < 0 ∧ (kOf h sy (X.nm (j + 1)) = 1 ∧ kOf h sy (X.nm (j + 3)) = 2 ∧ mv_a h (P + 1) (mv_a h 15 (sy (X.nm (j + 3)))).toNatClampNeg = 8) ∧ ∃ g x u, PT X J h g (j + 5) d ∧ mv_i g 21 = mv_i h 21 ∧ u < 64 ∧ h' = mv_si (mv_si g P 8 x) P 9 (nI u) ∧ x = mv_a h 15 (sy (X.nm (j + 1))) ∧ mv_a h 15 (sy (X.nm (j + 3))) = nI u) ∨
     (¬ ((X.kd (j + 1) = 3 ∧ X.kd (j + 2) = 205 ∧ X.kd (j + 3) = 3 ∧ X.kd (j + 4) = 59) ∧ mv_i h P 9 < 0 ∧ (kOf h sy (X.nm (j + 1)) = 1 ∧ kOf h sy (X.nm (j + 3)) = 2 ∧ mv_a h (P + 1) (mv_a h 15 (sy (X.nm (j + 3)))).toNatClampNeg = 8)) ∧ Fl h')) := by
  have hpp := W.pp
  have hJ := W.hJ
  have hJb := W.pt.tb.jb
  have hjJ := W.pt.jJ
  unfold f_Weaver_fetch
  rcases W.pt.tk hJ (k := 204) (by omega) (by omega) with ⟨q0, g1, e, T1, n1⟩ | ⟨q0, -⟩
  rotate_left
  · exact absurd hk q0
  rw [show f_Tokens_take h 204 = _ from e, xhb_s]
  rcases T1.tk hJ (k := 3) (by omega) (by omega) with ⟨q1, g3, e, T3, n3⟩ | ⟨q1, g3, e, w3, -⟩
  rotate_left
  · rw [show f_Tokens_take g1 3 = _ from e, xhb_s, tkW w3 (by decide), xhb_s, tkW w3 (by decide), xhb_s, tkW w3 (by decide), xhb_s, rtW w3, xhb_s, if_pos rfl]
    exact ⟨g3, rfl, Or.inr ⟨fun z => q1 z.1.1, w3.fl⟩⟩
  rw [show f_Tokens_take g1 3 = _ from e, xhb_s]
  rcases T3.tk hJ (k := 205) (by omega) (by omega) with ⟨q2, g5, e, T5, n5⟩ | ⟨q2, g5, e, w5, -⟩
  rotate_left
  · rw [show f_Tokens_take g3 205 = _ from e, xhb_s, tkW w5 (by decide), xhb_s, tkW w5 (by decide), xhb_s, rtW w5, xhb_s, if_pos rfl]
    exact ⟨g5, rfl, Or.inr ⟨fun z => q2 z.1.2.1, w5.fl⟩⟩
  rw [show f_Tokens_take g3 205 = _ from e, xhb_s]
  rcases T5.tk hJ (k := 3) (by omega) (by omega) with ⟨q3, g7, e, T7, n7⟩ | ⟨q3, g7, e, w7, -⟩
  rotate_left
  · rw [show f_Tokens_take g5 3 = _ from e, xhb_s, tkW w7 (by decide), xhb_s, rtW w7, xhb_s, if_pos rfl]
    exact ⟨g7, rfl, Or.inr ⟨fun z => q3 z.1.2.2.1, w7.fl⟩⟩
  rw [show f_Tokens_take g5 3 = _ from e, xhb_s]
  rcases T7.tk hJ (k := 59) (by omega) (by omega) with ⟨q4, g9, e, T9, n9⟩ | ⟨q4, g9, e, w9, -⟩
  rotate_left
  · rw [show f_Tokens_take g7 59 = _ from e, xhb_s, rtW w9, xhb_s, if_pos rfl]
    exact ⟨g9, rfl, Or.inr ⟨fun z => q4 z.1.2.2.2, w9.fl⟩⟩
  rw [show f_Tokens_take g7 59 = _ from e, xhb_s, T9.rt, xhb_s, if_neg (by decide)]
  have hj1 := T1.jJ
  have hj3 := T5.jJ
  have e9 : mv_i g9 P 9 = mv_i h P 9 := T9.sm.i P 9 (by omega) (by omega)
  rw [e9]
  by_cases c : mv_i h P 9 < 0
  · rw [if_pos c]
    obtain ⟨h', e', r⟩ := fet78_A W (i := j + 1) (k := j + 3) T9 hj1 q1 hj3 q3
    refine ⟨h', e', ?_⟩
    rcases r with ⟨r1, x, u, r2, r3⟩ | ⟨r1, r2⟩
    · exact Or.inl ⟨⟨q1, q2, q3, q4⟩, c, r1, g9, x, u, T9, by rw [n9, n7, n5, n3, n1], r2, r3⟩
    · exact Or.inr ⟨fun z => r1 z.2.2, r2⟩
  · rw [if_neg c]
    obtain ⟨ga, ea, Ta, na⟩ := T9.tl (t := j + 1) (by omega) (x := 6) (by decide)
    rw [show f_Weaver_tell g9 (nI (j + 1)) 6 = _ from ea, xhv_s]
    obtain ⟨h', e', r⟩ := fet78_A W (i := j + 1) (k := j + 3) Ta hj1 q1 hj3 q3
    refine ⟨h', e', Or.inr ⟨fun z => c z.2.1, ?_⟩⟩
    rcases r with ⟨r1, x, u, r2, r3, -⟩ | ⟨r1, r2⟩
    · refine Fl.n na ?_
      rw [r3]
      funext k
      ((simp only [rw_ii, rw_aa, rw_bb, rw_ia, rw_ib, rw_ai, rw_ab, rw_bi, rw_ba, true_and, and_true, if_true]; repeat' split) <;> first | rfl | (exfalso; omega))
    · exact r2
end FET
/-- a block opened, behind { -/
def OBk (g : mv_H) (b : Nat) (a0 a1 a2 : Int32) : mv_H := mv_si (mv_si (mv_sa (mv_sa (mv_sa (mv_sa g 28 b a0) 29 b a1) 30 b a2) 31 b (mv_i g 13 7)) 2 15 (nI (b + 1))) 2 6 1
theorem opb_A {X : TX} {J : Nat} {h g : mv_H} {j d : Nat} (T : PT X J h g j d) (hJ : X.kd J = 1 ∨ X.kd J = 2) {b : Nat} (eb : mv_i g 2 15 = nI b) (hb : b ≤ 60) (a0 a1 a2 : Int32) : ((X.kd j = 123 ∧ d < 60) ∧ ∃ g1, PT X J h g1 (j + 1) (d + 1) ∧ mv_i g1 21 = mv_i g 21 ∧ f_Weaver_openBlock g a0 a1 a2 = some (OBk g1 b a0 a1 a2)) ∨ (¬ (X.kd j = 123 ∧ d < 60) ∧ ∃ g', f_Weaver_openBlock g a0 a1 a2 = some g' ∧ Wr g' ∧ Sm h g') := by
  have eo : f_Weaver_openBlock g a0 a1 a2 = xhb (f_Tokens_open g (123 : Int32)) fun v2 g1 => xhb (f_Tokens_right g1) fun v4 g3 => if v4 = (0 : Int32) then (some g3) else (bif xvi (mv_i g3 2 15) 61 then xk (mv_sa g3 28 ((mv_i g3 2 15)).toNatClampNeg a0) fun g6 => bif xvi (mv_i g6 2 15) 61 then xk (mv_sa g6 29 ((mv_i g6 2 15)).toNatClampNeg a1) fun g8 => bif xvi (mv_i g8 2 15) 61 then xk (mv_sa g8 30 ((mv_i g8 2 15)).toNatClampNeg a2) fun g10 => bif xvi (mv_i g10 2 15) 61 then xk (mv_sa g10 31 ((mv_i g10 2 15)).toNatClampNeg (mv_i g10 13 7)) fun g12 => xk (mv_si g12 2 15 ((mv_i g12 2 15) + (1 : Int32))) fun g13 => xk (mv_si g13 2 6 (1 : Int32)) fun g14 => some g14 else none else none else none else none) := rfl
  rw [eo]
  have fin : ∀ g1 : mv_H, mv_i g1 2 15 = nI b → (bif xvi (mv_i g1 2 15) 61 then xk (mv_sa g1 28 ((mv_i g1 2 15)).toNatClampNeg a0) fun g6 => bif xvi (mv_i g6 2 15) 61 then xk (mv_sa g6 29 ((mv_i g6 2 15)).toNatClampNeg a1) fun g8 => bif xvi (mv_i g8 2 15) 61 then xk (mv_sa g8 30 ((mv_i g8 2 15)).toNatClampNeg a2) fun g10 => bif xvi (mv_i g10 2 15) 61 then xk (mv_sa g10 31 ((mv_i g10 2 15)).toNatClampNeg (mv_i g10 13 7)) fun g12 => xk (mv_si g12 2 15 ((mv_i g12 2 15) + (1 : Int32))) fun g13 => xk (mv_si g13 2 6 (1 : Int32)) fun g14 => some g14 else none else none else none else none) = some (OBk g1 b a0 a1 a2) := fun g1 e => by
    simp only [xk_s, rw_ia]
    rw [e, xvi_n (by omega) (by decide), cln (by omega), nI1 (by omega)]
    rfl
  rcases T.op hJ (k := 123) (by omega) (by omega) with ⟨q, g1, e, T1, n1⟩ | ⟨q, g1, e, w1, s1⟩
  · refine Or.inl ⟨q, g1, T1, n1, ?_⟩
    rw [show f_Tokens_open g 123 = _ from e, xhb_s, T1.rt, xhb_s, if_neg (by decide)]
    refine fin g1 ?_
    rw [T1.sm.i 2 15 (by omega) (by omega), ← T.sm.i 2 15 (by omega) (by omega)]
    exact eb
  · refine Or.inr ⟨q, g1, ?_, w1, s1⟩
    rw [show f_Tokens_open g 123 = _ from e, xhb_s, rtW w1, xhb_s, if_pos rfl]
/-- a new start of reading -/
theorem PT.of {X : TX} {J : Nat} {h g k : mv_H} {j d : Nat} (T : PT X J h g j d) (e4 : mv_a k 4 = mv_a g 4) (e5 : mv_a k 5 = mv_a g 5) (e6 : mv_b k 6 = mv_b g 6) (e7 : mv_i k 3 7 = mv_i g 3 7) (e8 : mv_i k 3 8 = mv_i g 3 8) (e9 : mv_i k 3 9 = mv_i g 3 9) : PT X J k k j d :=
  ⟨T.tb.fr e4 e5 e6, Sm.rf, by rw [e7]; exact T.at', T.jJ, by rw [e8]; exact T.dp, T.d2, by rw [e9]; exact T.lt, rfl, fun z => z⟩
theorem PT.rb {X : TX} {J : Nat} {h g : mv_H} {j d : Nat} (T : PT X J h g j d) : PT X J g g j d := T.of rfl rfl rfl rfl rfl rfl
/-! a CODE as bits -/
def mkN (f : Nat → Bool) : Nat → Nat
  | 0 => 0
  | k + 1 => 2 * mkN f k + (if f k = true then 1 else 0)
theorem mkN_b (f : Nat → Bool) : ∀ k, mkN f k < 2 ^ k := by
  intro k
  induction k with
  | zero => exact Nat.one_pos
  | succ k ih =>
    show 2 * mkN f k + (if f k = true then 1 else 0) < 2 ^ (k + 1)
    rw [Nat.pow_succ]
    split <;> omega
theorem mkN_t (f : Nat → Bool) : ∀ k i, (mkN f k).testBit i = (decide (i < k) && f (k - 1 - i)) := by
  intro k
  induction k with
  | zero => intro i; show (0 : Nat).testBit i = _; rw [Nat.zero_testBit]; simp
  | succ k ih =>
    intro i
    show (2 * mkN f k + (if f k = true then 1 else 0)).testBit i = _
    cases i with
    | zero =>
      rw [Nat.testBit_zero]
      cases h : f k with
      | true => rw [if_pos rfl]; simp [h]
      | false => rw [if_neg (by simp [MkA.k, MkA.c, MkA.q])]; simp [h]
    | succ i =>
      rw [Nat.testBit_succ]
      have e : (2 * mkN f k + (if f k = true then 1 else 0)) / 2 = mkN f k := by split <;> omega
      rw [e, ih i]
      have e2 : k + 1 - 1 - (i + 1) = k - 1 - i := by omega
      have e3 : decide (i + 1 < k + 1) = decide (i < k) := by congr 1; exact propext (by omega)
      rw [e2, e3]
/-- a bit more -/
theorem bitJ {m b : Nat} (hm : m < 9223372036854775808) (hb : b ≤ 1) : (nJ m <<< (((1 : Int32)).toInt64 &&& 63)) ||| (nI b).toInt64 = nJ (2 * m + b) := by
  have e1 : nJ m <<< (((1 : Int32)).toInt64 &&& 63) = nJ (yshl m 1) := xJ_shl m 1
  have e2 : (nI b).toInt64 = nJ b := by rw [xI_l, xi2l_s (by omega)]
  have e3 : yshl m 1 = m <<< 1 := by
    unfold yshl
    rw [show 1 % 64 = 1 from rfl, Nat.shiftLeft_eq, Nat.mod_eq_of_lt (by omega)]
  rw [e1, e2, xJ_or, e3, ← Nat.shiftLeft_add_eq_or_of_lt (by omega)]
  congr 1
/-- an op more -/
def OpQ (P : Nat) (g h' : mv_H) (o : Nat) (m v : Int64) (K L : Nat) (c : Nat → Nat) : Prop := (∀ a k, ¬ (a = P ∧ k = 10) → mv_i h' a k = mv_i g a k) ∧ (mv_i h' P 10 = nI (o + 1)) ∧ (∀ r, ¬ (r = P + 7 ∨ r = P + 8) → mv_a h' r = mv_a g r) ∧ (∀ k, mv_b h' (P + 5) k = if k = o then m else mv_b g (P + 5) k) ∧ (∀ k, mv_b h' (P + 6) k = if k = o then v else mv_b g (P + 6) k) ∧ (∀ r, ¬ (r = P + 5 ∨ r = P + 6) → mv_b h' r = mv_b g r) ∧ (∀ x, x < o * 64 + K → mv_a h' (P + 8) x = mv_a g (P + 8) x) ∧ (∀ i, K ≤ i → i < L → mv_a h' (P + 8) (o * 64 + i) = vp_nar .byte (nI (c i))) ∧ (∀ k, mv_a h' (P + 7) k = if k = o then mv_i g P 17 else mv_a g (P + 7) k)
theorem OpQ.i {P : Nat} {g h' : mv_H} {o : Nat} {m v : Int64} {K L : Nat} {c : Nat → Nat} (h99 : OpQ P g h' o m v K L c) : ∀ a k, ¬ (a = P ∧ k = 10) → mv_i h' a k = mv_i g a k := h99.1
theorem OpQ.i10 {P : Nat} {g h' : mv_H} {o : Nat} {m v : Int64} {K L : Nat} {c : Nat → Nat} (h99 : OpQ P g h' o m v K L c) : mv_i h' P 10 = nI (o + 1) := h99.2.1
theorem OpQ.a {P : Nat} {g h' : mv_H} {o : Nat} {m v : Int64} {K L : Nat} {c : Nat → Nat} (h99 : OpQ P g h' o m v K L c) : ∀ r, ¬ (r = P + 7 ∨ r = P + 8) → mv_a h' r = mv_a g r := h99.2.2.1
theorem OpQ.b5 {P : Nat} {g h' : mv_H} {o : Nat} {m v : Int64} {K L : Nat} {c : Nat → Nat} (h99 : OpQ P g h' o m v K L c) : ∀ k, mv_b h' (P + 5) k = if k = o then m else mv_b g (P + 5) k := h99.2.2.2.1
theorem OpQ.b6 {P : Nat} {g h' : mv_H} {o : Nat} {m v : Int64} {K L : Nat} {c : Nat → Nat} (h99 : OpQ P g h' o m v K L c) : ∀ k, mv_b h' (P + 6) k = if k = o then v else mv_b g (P + 6) k := h99.2.2.2.2.1
theorem OpQ.b {P : Nat} {g h' : mv_H} {o : Nat} {m v : Int64} {K L : Nat} {c : Nat → Nat} (h99 : OpQ P g h' o m v K L c) : ∀ r, ¬ (r = P + 5 ∨ r = P + 6) → mv_b h' r = mv_b g r := h99.2.2.2.2.2.1
theorem OpQ.s8 {P : Nat} {g h' : mv_H} {o : Nat} {m v : Int64} {K L : Nat} {c : Nat → Nat} (h99 : OpQ P g h' o m v K L c) : ∀ x, x < o * 64 + K → mv_a h' (P + 8) x = mv_a g (P + 8) x := h99.2.2.2.2.2.2.1
theorem OpQ.s9 {P : Nat} {g h' : mv_H} {o : Nat} {m v : Int64} {K L : Nat} {c : Nat → Nat} (h99 : OpQ P g h' o m v K L c) : ∀ i, K ≤ i → i < L → mv_a h' (P + 8) (o * 64 + i) = vp_nar .byte (nI (c i)) := h99.2.2.2.2.2.2.2.1
theorem OpQ.a7 {P : Nat} {g h' : mv_H} {o : Nat} {m v : Int64} {K L : Nat} {c : Nat → Nat} (h99 : OpQ P g h' o m v K L c) : ∀ k, mv_a h' (P + 7) k = if k = o then mv_i g P 17 else mv_a g (P + 7) k := h99.2.2.2.2.2.2.2.2
theorem OpQ.fr {P : Nat} {f g h' : mv_H} {o K L : Nat} {m v : Int64} {c : Nat → Nat} (Q : OpQ P g h' o m v (K + 1) L c) (ei : mv_i g = mv_i f) (eb : mv_b g = mv_b f) (ea : ∀ r, ¬ r = P + 8 → mv_a g r = mv_a f r) (e8 : ∀ x, x < o * 64 + K → mv_a g (P + 8) x = mv_a f (P + 8) x) (e9 : mv_a g (P + 8) (o * 64 + K) = vp_nar .byte (nI (c K))) : OpQ P f h' o m v K L c :=
  ⟨fun a k q => by rw [Q.i a k q, ei], Q.i10, fun r q => by rw [Q.a r q, ea r (by omega)], fun k => by rw [Q.b5 k, eb], fun k => by rw [Q.b6 k, eb], fun r q => by rw [Q.b r q, eb], fun x hx => (Q.s8 x (by omega)).trans (e8 x hx), fun i h1 h2 => by
    by_cases e : i = K
    · rw [e]; exact (Q.s8 (o * 64 + K) (by omega)).trans e9
    · exact Q.s9 i (by omega) h2, fun k => by rw [Q.a7 k, ei, ea (P + 7) (by omega)]⟩
def is01 (c : Nat) : Bool := Nat.beq c 48 || Nat.beq c 49
def is1 (c : Nat) : Bool := Nat.beq c 49
theorem addL {P : Nat} (hpp : P = 32 ∨ P = 48) {L o q : Nat} (hL : L ≤ 64) (ho : o < 512) (hq : q + L ≤ 32768) (c : Nat → Nat) : ∀ (n k : Nat) (g : mv_H), k ≤ L → L < n + k → mv_i g P 0 = nI L → mv_i g P 10 = nI o → (∀ i, i < L → mv_a g 1 (q + i) = nI (c i) ∧ c i < 256) → ∃ h', f_Program_addOp_8 P n (nI q) (nJ (mkN (fun i => is01 (c i)) k)) (nJ (mkN (fun i => is1 (c i)) k)) (nI k) g = some h' ∧ OpQ P g h' o (nJ (mkN (fun i => is01 (c i)) L)) (nJ (mkN (fun i => is1 (c i)) L)) k L c := by
  intro n
  induction n with
  | zero => intro k g _ h2; omega
  | succ n ih =>
    intro k g hk hn e0 e10 ht
    show ∃ h', fF_Program_addOp_8 P (f_Program_addOp_8 P n) _ _ _ _ g = some h' ∧ _
    unfold fF_Program_addOp_8
    by_cases ck : k = L
    · subst ck
      rw [if_pos (show mv_i g P 0 ≤ nI k by rw [e0]; exact Int32.le_refl _)]
      simp only [xk_s, rw_ib, rw_ia]
      rw [e10, xvi_n ho (by decide), cln (by omega)]
      simp only [cond_true]
      refine ⟨_, rfl, ?_⟩
      refine ⟨fun a k' q' => ?_, ?_, fun r q' => ?_, fun k' => ?_, fun k' => ?_, fun r q' => ?_, fun x hx => ?_, fun i h1 h2 => absurd h2 (by omega), fun k' => ?_⟩
      · ((simp only [rw_ii, rw_aa, rw_bb, rw_ia, rw_ib, rw_ai, rw_ab, rw_bi, rw_ba, true_and, and_true, if_true]; repeat' split) <;> first | rfl | (exfalso; omega))
      · rw [← nI1 (by omega)]; ((simp only [rw_ii, rw_aa, rw_bb, rw_ia, rw_ib, rw_ai, rw_ab, rw_bi, rw_ba, true_and, and_true, if_true]; repeat' split) <;> first | rfl | (exfalso; omega))
      · funext k'; ((simp only [rw_ii, rw_aa, rw_bb, rw_ia, rw_ib, rw_ai, rw_ab, rw_bi, rw_ba, true_and, and_true, if_true]; repeat' split) <;> first | rfl | (exfalso; omega))
      · ((simp only [rw_ii, rw_aa, rw_bb, rw_ia, rw_ib, rw_ai, rw_ab, rw_bi, rw_ba, true_and, and_true, if_true]; repeat' split) <;> first | rfl | (exfalso; omega))
      · ((simp only [rw_ii, rw_aa, rw_bb, rw_ia, rw_ib, rw_ai, rw_ab, rw_bi, rw_ba, true_and, and_true, if_true]; repeat' split) <;> first | rfl | (exfalso; omega))
      · funext k'; ((simp only [rw_ii, rw_aa, rw_bb, rw_ia, rw_ib, rw_ai, rw_ab, rw_bi, rw_ba, true_and, and_true, if_true]; repeat' split) <;> first | rfl | (exfalso; omega))
      · ((simp only [rw_ii, rw_aa, rw_bb, rw_ia, rw_ib, rw_ai, rw_ab, rw_bi, rw_ba, true_and, and_true, if_true]; repeat' split) <;> first | rfl | (exfalso; omega))
      · ((simp only [rw_ii, rw_aa, rw_bb, rw_ia, rw_ib, rw_ai, rw_ab, rw_bi, rw_ba, true_and, and_true, if_true]; repeat' split) <;> first | rfl | (exfalso; omega))
    · have hk' : k < L := by omega
      obtain ⟨et, hc⟩ := ht k hk'
      have exy : nI q + nI k = nI (q + k) := Int32.toInt_inj.mp (by rw [i32_add (by rw [nIi (by omega), nIi (by omega)]; omega) (by rw [nIi (by omega), nIi (by omega)]; omega), nIi (by omega), nIi (by omega), nIi (by omega)]; omega)
      have e64 : nI o * (64 : Int32) + nI k = nI (o * 64 + k) := by
        have e1 : nI o * (64 : Int32) = nI (o * 64) := Int32.toInt_inj.mp (by
          rw [show (64 : Int32) = nI 64 from rfl, Int32.toInt_mul, nIi (by omega), nIi (by omega), nIi (by omega), Int.bmod_eq_of_le] <;> omega)
        rw [e1]
        exact Int32.toInt_inj.mp (by rw [i32_add (by rw [nIi (by omega), nIi (by omega)]; omega) (by rw [nIi (by omega), nIi (by omega)]; omega), nIi (by omega), nIi (by omega), nIi (by omega)]; omega)
      have m1 := mkN_b (fun i => is01 (c i)) k
      have m2 := mkN_b (fun i => is1 (c i)) k
      have p63 : 2 ^ k ≤ 2 ^ 63 := Nat.pow_le_pow_right (by omega) (by omega)
      have eP : (2 : Nat) ^ 63 = 9223372036854775808 := by decide
      rw [if_neg (show ¬ mv_i g P 0 ≤ nI k from fun z => by rw [e0] at z; have := (nIle (by omega) (by omega)).mp z; omega), exy, xvi_n (by omega) (by decide), cond_true, e10, e64, xvi_n (by omega) (by decide), cond_true, xk_s, cln (by omega), cln (by omega), et]
      have go : ∀ b0 b1 : Nat, b0 ≤ 1 → b1 ≤ 1 → (if is01 (c k) = true then 1 else 0) = b0 → (if is1 (c k) = true then 1 else 0) = b1 → ∃ h', f_Program_addOp_83 P (f_Program_addOp_8 P n) (nI q) ((nJ (mkN (fun i => is01 (c i)) k) <<< (((1 : Int32)).toInt64 &&& 63)) ||| (nI b0).toInt64) (nI k) (nI b1) (nJ (mkN (fun i => is1 (c i)) k) <<< (((1 : Int32)).toInt64 &&& 63)) (mv_sa g (P + 8) (o * 64 + k) (vp_nar .byte (nI (c k)))) = some h' ∧ OpQ P g h' o (nJ (mkN (fun i => is01 (c i)) L)) (nJ (mkN (fun i => is1 (c i)) L)) k L c := fun b0 b1 h0 h1 x0 x1 => by
        have f0 : mkN (fun i => is01 (c i)) (k + 1) = 2 * mkN (fun i => is01 (c i)) k + b0 := by rw [← x0]; rfl
        have f1 : mkN (fun i => is1 (c i)) (k + 1) = 2 * mkN (fun i => is1 (c i)) k + b1 := by rw [← x1]; rfl
        unfold f_Program_addOp_83
        rw [bitJ (by omega) h0, bitJ (by omega) h1, ← f0, ← f1, nI1 (by omega)]
        obtain ⟨h', e', Q⟩ := ih (k + 1) (mv_sa g (P + 8) (o * 64 + k) (vp_nar .byte (nI (c k)))) (by omega) (by omega) e0 e10 (fun i hi => by
          obtain ⟨a1, a2⟩ := ht i hi
          refine ⟨?_, a2⟩
          rw [← a1]
          ((simp only [rw_ii, rw_aa, rw_bb, rw_ia, rw_ib, rw_ai, rw_ab, rw_bi, rw_ba, true_and, and_true, if_true]; repeat' split) <;> first | rfl | (exfalso; omega)))
        refine ⟨h', e', Q.fr rfl rfl (fun r hr => ?_) (fun x hx => ?_) ?_⟩
        · funext k'; ((simp only [rw_ii, rw_aa, rw_bb, rw_ia, rw_ib, rw_ai, rw_ab, rw_bi, rw_ba, true_and, and_true, if_true]; repeat' split) <;> first | rfl | (exfalso; omega))
        · ((simp only [rw_ii, rw_aa, rw_bb, rw_ia, rw_ib, rw_ai, rw_ab, rw_bi, rw_ba, true_and, and_true, if_true]; repeat' split) <;> first | rfl | (exfalso; omega))
        · ((simp only [rw_ii, rw_aa, rw_bb, rw_ia, rw_ib, rw_ai, rw_ab, rw_bi, rw_ba, true_and, and_true, if_true]; repeat' split) <;> first | rfl | (exfalso; omega))
      by_cases c48 : c k = 48
      · unfold f_Program_addOp_59 f_Program_addOp_64
        rw [if_pos (show nI (c k) = 48 by rw [c48]; rfl), if_neg (show ¬ nI (c k) = 49 by rw [c48]; decide)]
        exact go 1 0 (by omega) (by omega) (by rw [c48]; rfl) (by rw [c48]; rfl)
      rw [if_neg (show ¬ nI (c k) = 48 from fun z => c48 ((nIinj (b := 48) (by omega) (by omega)).mp z))]
      by_cases c49 : c k = 49
      · unfold f_Program_addOp_59 f_Program_addOp_64
        rw [if_pos (show nI (c k) = 49 by rw [c49]; rfl), if_pos (show nI (c k) = 49 by rw [c49]; rfl)]
        exact go 1 1 (by omega) (by omega) (by rw [c49]; rfl) (by rw [c49]; rfl)
      · unfold f_Program_addOp_64
        rw [if_neg (show ¬ nI (c k) = 49 from fun z => c49 ((nIinj (b := 49) (by omega) (by omega)).mp z)), if_neg (show ¬ nI (c k) = 49 from fun z => c49 ((nIinj (b := 49) (by omega) (by omega)).mp z))]
        have x48 : Nat.beq (c k) 48 = false := nbq c48
        have x49 : Nat.beq (c k) 49 = false := nbq c49
        exact go 0 0 (by omega) (by omega) (by unfold is01; rw [x48, x49]; rfl) (by unfold is1; rw [x49]; rfl)
/-- how many of the first k -/
def cnF (f : Nat → Bool) : Nat → Nat
  | 0 => 0
  | k + 1 => cnF f k + (if f k = true then 1 else 0)
theorem cnF_b (f : Nat → Bool) : ∀ k, cnF f k ≤ k := by
  intro k
  induction k with
  | zero => exact Nat.le_refl _
  | succ k ih => show cnF f k + (if f k = true then 1 else 0) ≤ k + 1; split <;> omega
theorem orP (a s : Nat) : (a * 2 ^ (s + 1)) ||| 2 ^ s = (2 * a + 1) * 2 ^ s := by
  have e : a * 2 ^ (s + 1) = a <<< (s + 1) := (Nat.shiftLeft_eq a (s + 1)).symm
  have hp : 2 ^ s < 2 ^ (s + 1) := Nat.pow_lt_pow_right (by omega) (by omega)
  rw [e, ← Nat.shiftLeft_add_eq_or_of_lt hp, Nat.shiftLeft_eq, Nat.pow_succ, Nat.add_mul, Nat.one_mul]
  congr 1
  rw [Nat.mul_comm 2 a, Nat.mul_assoc, Nat.mul_comm (2 ^ s) 2]
/-- a sign that is the letter c -/
def lF (ch : Nat → Nat) (c : Nat) (i : Nat) : Bool := Nat.ble 65 c && Nat.beq (ch i) c
/-- the letters of the first k signs of L -/
def LTk (ch : Nat → Nat) (L : Nat) (g : mv_H) (k : Nat) : Prop := ∀ c, c < 128 → mv_a g 17 c = nI (cnF (lF ch c) k) ∧ mv_b g 18 c = nJ (mkN (lF ch c) k * 2 ^ (L - k))
theorem entL {L Q q : Nat} (hL : L ≤ 64) (hq : q + Q ≤ 32768) (ch : Nat → Nat) (hch : ∀ i, i < Q → ch i < 128) : ∀ (n k : Nat) (g : mv_H), k ≤ Q → Q < n + k → (∀ i, i < Q → mv_a g 1 (q + i) = nI (ch i)) → ∃ h', f_Names_enterOp_3 n (nI q) (nI Q) (nI L) (nI k) g = some h' ∧ mv_i h' = mv_i g ∧ (∀ r, ¬ r = 17 → mv_a h' r = mv_a g r) ∧ (∀ r, ¬ r = 18 → mv_b h' r = mv_b g r) ∧ (Q = L → LTk ch L g k → LTk ch L h' L) := by
  intro n
  induction n with
  | zero => intro k g _ h2; omega
  | succ n ih =>
    intro k g hk hn ht
    show ∃ h', fF_Names_enterOp_3 (f_Names_enterOp_3 n) _ _ _ _ g = some h' ∧ _
    unfold fF_Names_enterOp_3
    by_cases ck : k = Q
    · subst ck
      rw [if_pos (Int32.le_refl _)]
      refine ⟨g, rfl, rfl, fun _ _ => rfl, fun _ _ => rfl, fun e z => ?_⟩
      rw [e] at z; exact z
    have hk' : k < Q := by omega
    have et := ht k hk'
    have hc := hch k hk'
    have exy : nI q + nI k = nI (q + k) := Int32.toInt_inj.mp (by rw [i32_add (by rw [nIi (by omega), nIi (by omega)]; omega) (by rw [nIi (by omega), nIi (by omega)]; omega), nIi (by omega), nIi (by omega), nIi (by omega)]; omega)
    rw [if_neg (show ¬ nI Q ≤ nI k from fun z => by have := (nIle (by omega) (by omega)).mp z; omega), exy, xvi_n (by omega) (by decide), cond_true, cln (by omega), et]
    by_cases c65 : ch k < 65
    · rw [if_pos (show nI (ch k) < 65 from (nIlt (b := 65) (by omega) (by omega)).mpr c65)]
      unfold f_Names_enterOp_64
      rw [nI1 (by omega)]
      obtain ⟨h', e', r1, r2, r3, r4⟩ := ih (k + 1) g (by omega) (by omega) ht
      refine ⟨h', e', r1, r2, r3, fun e z => r4 e (fun c hc => ?_)⟩
      obtain ⟨z1, z2⟩ := z c hc
      have ef : lF ch c k = false := by
        unfold lF
        by_cases y : ch k = c
        · rw [show Nat.ble 65 c = false from by
            cases w : Nat.ble 65 c with
            | true => have := Nat.le_of_ble_eq_true w; omega
            | false => rfl]; rfl
        · rw [nbq y, Bool.and_false]
      have e1 : cnF (lF ch c) (k + 1) = cnF (lF ch c) k := by
        show cnF (lF ch c) k + (if lF ch c k = true then 1 else 0) = _
        rw [ef]; rfl
      have e2 : mkN (lF ch c) (k + 1) = 2 * mkN (lF ch c) k := by
        show 2 * mkN (lF ch c) k + (if lF ch c k = true then 1 else 0) = _
        rw [ef]; rfl
      rw [e1, e2]
      refine ⟨z1, ?_⟩
      rw [z2]
      congr 1
      rw [show L - k = (L - (k + 1)) + 1 by omega, Nat.pow_succ, Nat.mul_comm 2 (mkN (lF ch c) k), Nat.mul_assoc, Nat.mul_comm 2 (2 ^ _)]
    · rw [if_neg (show ¬ nI (ch k) < 65 from fun z => c65 ((nIlt (b := 65) (by omega) (by omega)).mp z)), xvi_n hc (by decide), cond_true, cond_true, xk_s, cln (by omega), cond_true]
      -- the rest, with the bit y0
      have go : ∀ y0 : Int64, (Q = L → y0 = nJ (2 ^ (L - 1 - k))) → ∃ h', f_Names_enterOp_62 (f_Names_enterOp_3 n) (nI q) (nI Q) (nI L) (nI k) y0 (mv_b (mv_sa g 17 (ch k) (mv_a g 17 (ch k) + 1)) 18 (ch k)) (nI (ch k)) (mv_sa g 17 (ch k) (mv_a g 17 (ch k) + 1)) = some h' ∧ mv_i h' = mv_i g ∧ (∀ r, ¬ r = 17 → mv_a h' r = mv_a g r) ∧ (∀ r, ¬ r = 18 → mv_b h' r = mv_b g r) ∧ (Q = L → LTk ch L g k → LTk ch L h' L) := fun y0 hy => by
        unfold f_Names_enterOp_62 f_Names_enterOp_64
        rw [xvi_n hc (by decide), cond_true, xk_s, cln (by omega), nI1 (by omega)]
        obtain ⟨h', e', r1, r2, r3, r4⟩ := ih (k + 1) (mv_sb (mv_sa g 17 (ch k) (mv_a g 17 (ch k) + 1)) 18 (ch k) (mv_b (mv_sa g 17 (ch k) (mv_a g 17 (ch k) + 1)) 18 (ch k) ||| y0)) (by omega) (by omega) (fun i hi => by rw [← ht i hi]; rfl)
        refine ⟨h', e', r1, fun r hr => ?_, fun r hr => ?_, fun e z => r4 e (fun c hc' => ?_)⟩
        · rw [r2 r hr]; funext i; ((simp only [rw_ii, rw_aa, rw_bb, rw_ia, rw_ib, rw_ai, rw_ab, rw_bi, rw_ba, true_and, and_true, if_true]; repeat' split) <;> first | rfl | (exfalso; omega))
        · rw [r3 r hr]; funext i; ((simp only [rw_ii, rw_aa, rw_bb, rw_ia, rw_ib, rw_ai, rw_ab, rw_bi, rw_ba, true_and, and_true, if_true]; repeat' split) <;> first | rfl | (exfalso; omega))
        · obtain ⟨z1, z2⟩ := z c hc'
          have a1 : mv_a (mv_sb (mv_sa g 17 (ch k) (mv_a g 17 (ch k) + 1)) 18 (ch k) (mv_b (mv_sa g 17 (ch k) (mv_a g 17 (ch k) + 1)) 18 (ch k) ||| y0)) 17 c = if c = ch k then mv_a g 17 (ch k) + 1 else mv_a g 17 c := by ((simp only [rw_ii, rw_aa, rw_bb, rw_ia, rw_ib, rw_ai, rw_ab, rw_bi, rw_ba, true_and, and_true, if_true]; repeat' split) <;> first | rfl | (exfalso; omega))
          have a2 : mv_b (mv_sb (mv_sa g 17 (ch k) (mv_a g 17 (ch k) + 1)) 18 (ch k) (mv_b (mv_sa g 17 (ch k) (mv_a g 17 (ch k) + 1)) 18 (ch k) ||| y0)) 18 c = if c = ch k then mv_b g 18 (ch k) ||| y0 else mv_b g 18 c := by ((simp only [rw_ii, rw_aa, rw_bb, rw_ia, rw_ib, rw_ai, rw_ab, rw_bi, rw_ba, true_and, and_true, if_true]; repeat' split) <;> first | rfl | (exfalso; omega))
          have e1 : cnF (lF ch c) (k + 1) = cnF (lF ch c) k + (if lF ch c k = true then 1 else 0) := rfl
          have e2 : mkN (lF ch c) (k + 1) = 2 * mkN (lF ch c) k + (if lF ch c k = true then 1 else 0) := rfl
          have eL : L - k = (L - (k + 1)) + 1 := by omega
          have hb := cnF_b (lF ch c) k
          rw [a1, a2, e1, e2]
          by_cases y : c = ch k
          · have ef : lF ch c k = true := by
              unfold lF
              rw [← y, show Nat.ble 65 c = true from Nat.ble_eq_true_of_le (by omega), show Nat.beq c c = true from Nat.beq_refl c]; rfl
            rw [if_pos y, if_pos y, if_pos ef, ← y, z1, z2, nI1 (by omega), hy e, xJ_or, eL, show L - 1 - k = L - (k + 1) by omega, orP]
            exact ⟨rfl, rfl⟩
          · have ef : ¬ lF ch c k = true := by
              unfold lF
              rw [nbq (fun w => y w.symm), Bool.and_false]; exact Bool.false_ne_true
            rw [if_neg y, if_neg y, if_neg ef, Nat.add_zero, Nat.add_zero, z1, z2]
            refine ⟨rfl, ?_⟩
            congr 1
            rw [eL, Nat.pow_succ, Nat.mul_comm 2 (mkN (lF ch c) k), Nat.mul_assoc, Nat.mul_comm 2 (2 ^ _)]
      by_cases cL : Q = L
      · rw [if_pos (show nI Q = nI L by rw [cL])]
        refine go _ (fun _ => ?_)
        have e1 : nI L - 1 - nI k = nI (L - 1 - k) := by
          rw [show (1 : Int32) = nI 1 from rfl, nIsub (by omega) (by omega), nIsub (by omega) (by omega)]
        have e2 : (1 : Int64) <<< ((nI (L - 1 - k)).toInt64 &&& 63) = nJ (yshl 1 (L - 1 - k)) := xJ_shl 1 _
        rw [e1, e2]
        congr 1
        unfold yshl
        have hp : (2 : Nat) ^ (L - 1 - k) ≤ 2 ^ 63 := Nat.pow_le_pow_right (by omega) (by omega)
        have eP : (2 : Nat) ^ 63 = 9223372036854775808 := by decide
        rw [Nat.mod_eq_of_lt (show L - 1 - k < 64 by omega), Nat.shiftLeft_eq, Nat.one_mul, Nat.mod_eq_of_lt (by omega)]
      · rw [if_neg (show ¬ nI Q = nI L from fun z => cL ((nIinj (by omega) (by omega)).mp z))]
        exact go _ (fun z => absurd z cL)
