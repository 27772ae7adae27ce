/-! a let begins -/
section LEB
variable {X : TX} {J P : Nat} {sy : List Nat → Nat} {h : mv_H} {j d l : Nat}
theorem leb_K (W : WA X J P sy h j d) (hk : X.kd j = 207) (el : mv_i h 13 9 = nI l) (hl : l < 64) (k3 : X.kd (j + 1) = 3) (k6 : X.kd (j + 2) = 61) (k0 : kOf h sy (X.nm (j + 1)) = 0) : ∃ h', f_Weaver_beginLet h = some h' ∧ KC9 P h h' ∧ mv_a h' = mv_a h ∧ mv_i h' 2 10 = mv_i h 2 10 := by
  have hpp := W.pp
  have hJ := W.hJ
  have hJb := W.pt.tb.jb
  unfold f_Weaver_beginLet
  rcases W.pt.tk hJ (k := 207) (by omega) (by omega) with ⟨q0, g1, e, T1, n1⟩ | ⟨q0, -⟩
  rotate_left
  · exact absurd hk q0
  rw [show f_Tokens_take h 207 = _ from e, xhb_s]
  have hj1 := T1.jJ
  rcases T1.tk hJ (k := 3) (by omega) (by omega) with ⟨q1, g3, e, T3, n3⟩ | ⟨q1, -⟩
  rotate_left
  · exact absurd k3 q1
  rw [show f_Tokens_take g1 3 = _ from e, xhb_s]
  rcases T3.tk hJ (k := 61) (by omega) (by omega) with ⟨q2, g5, e, T5, n5⟩ | ⟨q2, -⟩
  rotate_left
  · exact absurd k6 q2
  rw [show f_Tokens_take g3 61 = _ from e, xhb_s, xk_s]
  have S5 := W.S.sm T5.sm
  obtain ⟨k, ek⟩ : ∃ k, k = mv_si g5 2 8 (nI (j + 1 + 1 + 1)) := ⟨_, rfl⟩
  have Sk : SyQ X J sy k := by rw [ek]; exact S5.fr rfl rfl rfl rfl rfl
  rw [← ek, Sk.so hj1 hJb k3, xhb_s, xk_s]
  obtain ⟨m, em⟩ : ∃ m, m = mv_si k 2 9 (nI (sy (X.nm (j + 1)))) := ⟨_, rfl⟩
  have Sm' : SyQ X J sy m := by rw [em]; exact Sk.fr rfl rfl rfl rfl rfl
  have m29 : mv_i m 2 9 = nI (sy (X.nm (j + 1))) := by rw [em]; exact mv_si_s _ _ _ _
  have mk : kOf m sy (X.nm (j + 1)) = 0 := by
    rw [em, ek]
    exact ((show kOf (mv_si (mv_si g5 2 8 (nI (j + 1 + 1 + 1))) 2 9 (nI (sy (X.nm (j + 1))))) sy (X.nm (j + 1)) = kOf g5 sy (X.nm (j + 1)) from rfl).trans (kOf_sm T5.sm _ _)).trans k0
  have ml : mv_i m 13 9 = nI l := by
    rw [em, ek]
    exact (T5.sm.i 13 9 (by omega) (by omega)).trans el
  have kc : KC9 P h m := by rw [em, ek]; exact ((KC9.sm hpp T5.sm).tr (KC9.si _ _ (by omega))).tr (KC9.si _ _ (by omega))
  have ma : mv_a m = mv_a h := by rw [em, ek]; exact T5.sm.a
  have m10 : mv_i m 2 10 = mv_i h 2 10 := by rw [em, ek]; exact T5.sm.i 2 10 (by omega) (by omega)
  rw [← em, m29, Sm'.ko hj1 hJb k3, xhb_s, mk, if_pos rfl, ml, if_neg (show ¬ nI l = (64 : Int32) from fun z => by have := (nIinj (b := 64) (by omega) (by omega)).mp z; omega)]
  unfold f_Weaver_beginLet_94 f_Weaver_beginExpr f_Exprs_begin
  rw [xk_s, xk_s, xk_s, xhv_s, xk_s, xhv_s]
  exact ⟨_, rfl, (((kc.tr (KC9.si _ _ (by omega))).tr (KC9.si _ _ (by omega))).tr (KC9.si _ _ (by omega))).tr (KC9.si _ _ (by omega)), ma, m10⟩
end LEB
