/-! statements: an if begins, a trap -/
section STK
variable {X : TX} {J P : Nat} {fs : Nat → Nat} {h : mv_H} {j : Nat}
theorem ifb_K {a0 : Int32} (hpp : P = 32 ∨ P = 48) (T : TB X J h) (ha : mv_i h 3 7 = nI (j + 1)) (hj : j ≤ J) (ho : mv_i h 3 9 < 0) (k9 : X.kd j = 209) : ∃ h', f_Weaver_beginIf h a0 = some h' ∧ KC9 P h h' ∧ mv_a h' = mv_a h ∧ mv_i h' 2 10 = a0 := by
  have hjb := T.jb
  have e1 := take_c ha (by omega) ho (nI 209)
  rw [(T.k j hj).1, if_pos (show nI (X.kd j) = nI 209 by rw [k9])] at e1
  unfold f_Weaver_beginIf f_Weaver_beginExpr f_Exprs_begin
  rw [show (209 : Int32) = nI 209 from rfl, e1, xhb_s, xk_s, xk_s, xk_s, xk_s, xk_s, xhv_s, xk_s, xhv_s]
  exact ⟨_, rfl, ((((((KC9.si h _ (by omega)).tr (KC9.si _ _ (by omega))).tr (KC9.si _ _ (by omega))).tr (KC9.si _ _ (by omega))).tr (KC9.si _ _ (by omega))).tr (KC9.si _ _ (by omega))).tr (KC9.si _ _ (by omega)), rfl, rfl⟩
theorem stm_if {L : CDq} {s b z : Nat} {o o2 : OuA} {q : ODq} (hpp : P = 32 ∨ P = 48) (K : KSq X P fs h j o q L s b z) (T : TB X J h) (ha : mv_i h 3 7 = nI (j + 1)) (hj : j ≤ J) (ho : mv_i h 3 9 < 0) (k9 : X.kd j = 209) (h2 : o2.gl = 4 ∧ o2.bl = o.bl) : ∃ h', f_Weaver_statement P h = some h' ∧ CRw P fs h' L z ∧ KGq h' o2 (ODq.mk q.lz q.bz q.D (fun e => e) q.gi q.ix q.C q.lt q.B) L s b z := by
  obtain ⟨R, hz, B, S⟩ := K
  have hjb := T.jb
  have l1 := B.le
  have l2 := S.1
  obtain ⟨h', e1, k1, a1, i1⟩ := ifb_K (a0 := -1) hpp T ha hj ho k9
  refine ⟨h', ?_, R.kc k1, ?_, ?_⟩
  · unfold f_Weaver_statement
    have ek := kind_c ha (by omega) ho
    rw [(T.k j hj).1, k9] at ek
    rw [ek, xhb_s, if_neg (show ¬ (nI 209).toInt = 3 by rw [nIi (by omega)]; omega), if_neg (show ¬ (nI 209).toInt = 125 by rw [nIi (by omega)]; omega), if_neg (show ¬ (nI 209).toInt = 207 by rw [nIi (by omega)]; omega), if_neg (show ¬ (nI 209).toInt = 208 by rw [nIi (by omega)]; omega), if_pos (show (nI 209).toInt = 209 by rw [nIi (by omega)]; rfl), e1, xhv_s]
  · rw [a1, h2.2]
    exact B
  · unfold GLk
    rw [if_pos h2.1]
    exact ⟨z, [], S, ChS.st L z, i1⟩
end STK
