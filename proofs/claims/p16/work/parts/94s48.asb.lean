/-! an assignment begins, a let begins -/
section ASB
variable {X : TX} {J P : Nat} {sy : List Nat → Nat} {h : mv_H} {j d : Nat}
theorem KC9.sm {P : Nat} {h g : mv_H} (hpp : P = 32 ∨ P = 48) (s : Sm h g) : KC9 P h g := ⟨s.i P 17 (by omega) (by omega), by rw [s.a], by rw [s.b]⟩
theorem asb_K (W : WA X J P sy h j d) (hk : X.kd j = 3) (hc : (X.kd (j + 1) = 91 ∧ kOf h sy (X.nm j) = 2 ∧ d < 60) ∨ (X.kd (j + 1) = 61 ∧ kOf h sy (X.nm j) = 1)) : ∃ h', f_Weaver_beginAssignment h = some h' ∧ KC9 P h h' ∧ mv_a h' = mv_a h ∧ mv_i h' 2 10 = mv_i h 2 10 := by
  have hpp := W.pp
  have hJ := W.hJ
  have hJb := W.pt.tb.jb
  have hjJ := W.pt.jJ
  unfold f_Weaver_beginAssignment
  rcases W.pt.tk hJ (k := 3) (by omega) (by omega) with ⟨q0, g1, e, T1, n1⟩ | ⟨q0, -⟩
  rotate_left
  · exact absurd hk q0
  have S1 := W.S.sm T1.sm
  have hkd := (T1.tb.k (j + 1) T1.jJ).2
  obtain ⟨-, b2, -⟩ := S1.t j hjJ hk
  rw [show f_Tokens_take h 3 = _ from e, xhb_s, S1.so hjJ hJb hk, xhb_s, T1.kd, xhb_s]
  have kc1 := KC9.sm hpp T1.sm
  have i10 : mv_i g1 2 10 = mv_i h 2 10 := T1.sm.i 2 10 (by omega) (by omega)
  obtain ⟨k, ek⟩ : ∃ k, k = mv_si g1 2 9 (mv_a h 15 (sy (X.nm j))) := ⟨_, rfl⟩
  have Tk : PT X J k k (j + 1) d := by rw [ek]; exact T1.of rfl rfl rfl rfl rfl rfl
  have Sk : SyQ X J sy k := by rw [ek]; exact S1.fr rfl rfl rfl rfl rfl
  have kk : kOf k sy (X.nm j) = kOf h sy (X.nm j) := by rw [ek]; exact (show kOf (mv_si g1 2 9 (mv_a h 15 (sy (X.nm j)))) sy (X.nm j) = kOf g1 sy (X.nm j) from rfl).trans (kOf_sm T1.sm _ _)
  have kck : KC9 P h k := by rw [ek]; exact kc1.tr (KC9.si _ _ (by omega))
  have ak : mv_a k = mv_a h := by rw [ek]; exact T1.sm.a
  have k10 : mv_i k 2 10 = mv_i h 2 10 := by rw [ek]; exact i10
  have e32 : ∀ y0 : Int32, f_Weaver_beginAssignment_32 (nI (j + 1)) (nI (sy (X.nm j))) y0 g1 = if y0 = (0 : Int32) then (f_Weaver_beginAssignment_63 (nI (j + 1)) y0 (1 : Int32) (kOf h sy (X.nm j)) k) else (f_Weaver_beginAssignment_63 (nI (j + 1)) y0 (2 : Int32) (kOf h sy (X.nm j)) k) := fun y0 => by
    unfold f_Weaver_beginAssignment_32
    rw [xvi_n (by omega) (by decide), cond_true, xk_s, cln (by omega), T1.sm.a, ← ek, Sk.ko hjJ hJb hk, xhb_s, kk]
  rcases hc with ⟨c, c1, c2⟩ | ⟨c, c1⟩
  · rw [if_pos (show nI (X.kd (j + 1)) = 91 by rw [c]; rfl), e32, if_neg (by decide)]
    unfold f_Weaver_beginAssignment_63 f_Weaver_beginAssignment_77 f_Weaver_beginExpr f_Exprs_begin
    rcases Tk.op hJ (k := 91) (by omega) (by omega) with ⟨-, g2, e2, T2, n2⟩ | ⟨q2, -⟩
    rotate_left
    · exact absurd ⟨c, c2⟩ q2
    have kc2 := kck.tr (KC9.sm hpp T2.sm)
    rw [if_pos c1, if_neg (show ¬ (1 : Int32) = 0 by decide), show f_Tokens_open k 91 = _ from e2, xhb_s, xk_s, xk_s, xk_s, xhv_s, xk_s, xhv_s]
    refine ⟨_, rfl, (((kc2.tr (KC9.si _ _ (by omega))).tr (KC9.si _ _ (by omega))).tr (KC9.si _ _ (by omega))).tr (KC9.si _ _ (by omega)), ?_, ?_⟩
    · show mv_a g2 = _
      rw [T2.sm.a]; exact ak
    · show mv_i g2 2 10 = _
      rw [T2.sm.i 2 10 (by omega) (by omega)]; exact k10
  · rw [if_neg (show ¬ nI (X.kd (j + 1)) = 91 from fun z => by have := (nIinj (b := 91) (by omega) (by omega)).mp z; omega), e32, if_pos rfl]
    unfold f_Weaver_beginAssignment_63 f_Weaver_beginAssignment_77 f_Weaver_beginExpr f_Exprs_begin
    rcases Tk.tk hJ (k := 61) (by omega) (by omega) with ⟨-, g2, e2, T2, n2⟩ | ⟨q2, -⟩
    rotate_left
    · exact absurd c q2
    have kc2 := kck.tr (KC9.sm hpp T2.sm)
    rw [if_pos c1, if_pos rfl, show f_Tokens_take k 61 = _ from e2, xhb_s, xk_s, xk_s, xk_s, xk_s, xhv_s, xk_s, xhv_s]
    refine ⟨_, rfl, ((((kc2.tr (KC9.si _ _ (by omega))).tr (KC9.si _ _ (by omega))).tr (KC9.si _ _ (by omega))).tr (KC9.si _ _ (by omega))).tr (KC9.si _ _ (by omega)), ?_, ?_⟩
    · show mv_a g2 = _
      rw [T2.sm.a]; exact ak
    · show mv_i g2 2 10 = _
      rw [T2.sm.i 2 10 (by omega) (by omega)]; exact k10
end ASB
