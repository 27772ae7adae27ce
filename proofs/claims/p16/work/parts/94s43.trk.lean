/-! statements: a trap -/
section TRK
variable {X : TX} {J P : Nat} {fs : Nat → Nat} {h : mv_H} {j : Nat}
theorem tkh {g : mv_H} {a k : Nat} (ha : mv_i g 3 7 = nI a) (ha2 : a < 32770) (hr : mv_i g 3 9 < 0) (hk : mv_a g 4 a = nI k) : f_Tokens_take g (nI k) = some (nI a, mv_si g 3 7 (nI (a + 1))) := by
  rw [take_c ha ha2 hr, if_pos hk]
theorem stm_tp {L : CDq} {s b z : Nat} {o : OuA} {q : ODq} (hpp : P = 32 ∨ P = 48) (K : KSq X P fs h j o q L s b z) (T : TB X J h) (ha : mv_i h 3 7 = nI (j + 1)) (hj : j + 2 ≤ J) (ho : mv_i h 3 9 < 0) (k8 : X.kd j = 208) (k4 : X.kd (j + 1) = 4) (k5 : X.kd (j + 2) = 59) (n1 : 1 ≤ X.nu (j + 1)) (n2 : X.nu (j + 1) ≤ 1000000) : ∃ h', f_Weaver_statement P h = some h' ∧ KSq X P fs h' (j + 3) o (ODq.mk q.lz q.bz (zSq q.D (zTp (X.nu (j + 1)))) q.ch q.gi q.ix q.C q.lt q.B) (uL L z (316, nJ (X.nu (j + 1)))) s b (z + 1) ∧ mv_i h' 2 10 = mv_i h 2 10 := by
  obtain ⟨R, hz, B, S⟩ := K
  have hjb := T.jb
  have l1 := B.le
  have l2 := S.1
  have ek := kind_c ha (by omega) ho
  rw [(T.k j (by omega)).1, k8] at ek
  have e1 := tkh ha (by omega) ho ((T.k j (by omega)).1.trans (by rw [k8]))
  have e2 := tkh (g := mv_si h 3 7 (nI (j + 1 + 1))) (a := j + 1 + 1) (mv_si_s _ _ _ _) (by omega) ho (show mv_a h 4 (j + 1 + 1) = nI 4 from (T.k (j + 1) (by omega)).1.trans (by rw [k4]))
  have hn := T.n (j + 1) (by omega) k4
  have e3 : f_Weaver_numberUpTo (mv_si (mv_si h 3 7 (nI (j + 1 + 1))) 3 7 (nI (j + 1 + 1 + 1))) (nI (j + 1 + 1)) 1000000 = some (nI (X.nu (j + 1)), mv_si (mv_si h 3 7 (nI (j + 1 + 1))) 3 7 (nI (j + 1 + 1 + 1))) := by
    unfold f_Weaver_numberUpTo
    have eb : mv_b (mv_si (mv_si h 3 7 (nI (j + 1 + 1))) 3 7 (nI (j + 1 + 1 + 1))) 6 (j + 1 + 1) = nJ (X.nu (j + 1)) := hn.1
    have i1 : lg_cmp (nJ (X.nu (j + 1))) (1 : Int64) < 0 ↔ (X.nu (j + 1) < 1 ∨ 9223372036854775808 ≤ X.nu (j + 1)) := lc_lt hn.2 (w := 1) (by omega)
    have i3 : lg_cmp (nJ (X.nu (j + 1))) ((1000000 : Int32).toInt64) ≤ 0 ↔ X.nu (j + 1) ≤ 1000000 := lc_le (v := X.nu (j + 1)) (w := 1000000) (by omega) (by omega)
    rw [xvi_n (show j + 1 + 1 < 32770 by omega) (by decide), cond_true, cln (by omega), eb, if_neg (fun z => by have := i1.mp z; omega), if_pos (i3.mpr n2), nJi (by omega)]
  have R1 := R.kc ((KC9.si h (o := 3) (k := 7) (nI (j + 1 + 1)) (by omega)).tr (KC9.si _ (o := 3) (k := 7) (nI (j + 1 + 1 + 1)) (by omega)))
  have e4 := em_e R1.1 (show z < 32768 by omega) (nI 316) (nJ (X.nu (j + 1)))
  have R2 := R1.em (k := 316) (a := nJ (X.nu (j + 1))) (y := nJ (X.nu (j + 1))) (by omega) (by omega) (if_neg (by decide)).symm
  have e5 := tkh (g := emH P z (nI 316) (nJ (X.nu (j + 1))) (mv_si (mv_si h 3 7 (nI (j + 1 + 1))) 3 7 (nI (j + 1 + 1 + 1)))) (a := j + 1 + 1 + 1) (k := 59) ((emH_i (by omega)).trans (mv_si_s _ _ _ _)) (by omega) (by rw [emH_i (by omega)]; exact ho) (by
    rw [emH_a (by omega)]
    exact (T.k (j + 2) (by omega)).1.trans (by rw [k5]))
  refine ⟨mv_si (emH P z (nI 316) (nJ (X.nu (j + 1))) (mv_si (mv_si h 3 7 (nI (j + 1 + 1))) 3 7 (nI (j + 1 + 1 + 1)))) 3 7 (nI (j + 1 + 1 + 1 + 1)), ?_, ⟨R2.kc (KC9.si _ _ (by omega)), by omega, ?_, SgS.sq (S.up (fun i _ q => uL_n L _ (by omega))) (SgS.tp n1 (by omega) (uL_s L z _))⟩, ?_⟩
  · unfold f_Weaver_statement
    rw [ek, xhb_s, if_neg (show ¬ (nI 208).toInt = 3 by rw [nIi (by omega)]; omega), if_neg (show ¬ (nI 208).toInt = 125 by rw [nIi (by omega)]; omega), if_neg (show ¬ (nI 208).toInt = 207 by rw [nIi (by omega)]; omega), if_pos (show (nI 208).toInt = 208 by rw [nIi (by omega)]; rfl), show (208 : Int32) = nI 208 from rfl, e1, xhb_s, show (4 : Int32) = nI 4 from rfl, e2, xhb_s, e3, xhb_s, show (316 : Int32) = nI 316 from rfl, xI_l, xi2l_s (by omega), e4, xhb_s, show (59 : Int32) = nI 59 from rfl, e5, xhb_s]
  · have a29 : mv_a (mv_si (emH P z (nI 316) (nJ (X.nu (j + 1))) (mv_si (mv_si h 3 7 (nI (j + 1 + 1))) 3 7 (nI (j + 1 + 1 + 1)))) 3 7 (nI (j + 1 + 1 + 1 + 1))) 29 = mv_a h 29 := emH_a (P := P) (h := mv_si (mv_si h 3 7 (nI (j + 1 + 1))) 3 7 (nI (j + 1 + 1 + 1))) (o := 29) (by omega)
    have a30 : mv_a (mv_si (emH P z (nI 316) (nJ (X.nu (j + 1))) (mv_si (mv_si h 3 7 (nI (j + 1 + 1))) 3 7 (nI (j + 1 + 1 + 1)))) 3 7 (nI (j + 1 + 1 + 1 + 1))) 30 = mv_a h 30 := emH_a (P := P) (h := mv_si (mv_si h 3 7 (nI (j + 1 + 1))) 3 7 (nI (j + 1 + 1 + 1))) (o := 30) (by omega)
    rw [a29, a30]
    exact B.up (fun i _ q => uL_n L _ (by omega)) (fun _ _ => ⟨rfl, rfl⟩)
  · exact emH_i (P := P) (h := mv_si (mv_si h 3 7 (nI (j + 1 + 1))) 3 7 (nI (j + 1 + 1 + 1))) (o := 2) (k := 10) (by omega)
end TRK
