/-! finish: a let, an if -/
section FIK2
variable {X : TX} {J P : Nat} {fs : Nat → Nat} {h : mv_H} {j d w : Nat}
theorem fin0_K {L : CDq} {z y l n : Nat} (C : CXq X J P h j d [] [w]) (R : CRw P fs h L z) (hz : z < 32768) (eg : mv_i h 2 7 = 0) (ey : mv_i h 2 9 = nI y) (hy : y < 16448) (el : mv_i h 13 9 = nI l) (hl : l < 64) (en : mv_i h 13 7 = nI n) (hn : n ≤ l) (k5 : X.kd j = 59) : ∃ h', f_Weaver_finish P h = some h' ∧ CRw P fs h' (uL L z (313, nJ l)) (z + 1) ∧ BRq h h' := by
  have hpp := C.pp
  have hb := C.jb
  obtain ⟨e1, C1, w1, w2, w3⟩ := C.rel (by show 0 < 1024; omega)
  have k0 : KC9 P h (mv_si (mv_si h 22 10 (nI ([] : List Nat).length)) 2 6 1) := (KC9.si h _ (by omega)).tr (KC9.si _ _ (by omega))
  have R1 := R.kc k0
  have t8 : mv_i (mv_si (mv_si h 22 10 (nI ([] : List Nat).length)) 2 6 1) 3 7 = nI (j + 1) := C.at'
  have k8 : mv_a (mv_si (mv_si h 22 10 (nI ([] : List Nat).length)) 2 6 1) = mv_a h := rfl
  have o8 : mv_i (mv_si (mv_si h 22 10 (nI ([] : List Nat).length)) 2 6 1) 3 9 = -1 := C.ok
  have g7 : mv_i (mv_si (mv_si h 22 10 (nI ([] : List Nat).length)) 2 6 1) 2 7 = 0 := eg
  have u9 : mv_i (mv_si (mv_si h 22 10 (nI ([] : List Nat).length)) 2 6 1) 2 9 = nI y := ey
  have l9 : mv_i (mv_si (mv_si h 22 10 (nI ([] : List Nat).length)) 2 6 1) 13 9 = nI l := el
  have n9 : mv_i (mv_si (mv_si h 22 10 (nI ([] : List Nat).length)) 2 6 1) 13 7 = nI n := en
  have x10 : mv_i (mv_si (mv_si h 22 10 (nI ([] : List Nat).length)) 2 6 1) 2 10 = mv_i h 2 10 := rfl
  have g6 : mv_i (mv_si h 22 10 (nI ([] : List Nat).length)) 2 7 = 0 := eg
  unfold f_Weaver_finish
  rw [e1, xhb_s, g6, if_neg (show ¬ (0 : Int32) = (1 : Int32) by decide), xk_s, g7, if_neg (show ¬ (0 : Int32) = (4 : Int32) by decide), if_pos rfl]
  revert R1 t8 k8 o8 g7 u9 x10 l9 n9
  generalize mv_si (mv_si h 22 10 (nI ([] : List Nat).length)) 2 6 1 = g8
  intro R1 t8 k8 o8 g7 u9 l9 n9 x10
  have R2 := R1.em (k := 313) (a := nJ l) (y := nJ l) hz (by omega) (if_neg (by decide)).symm
  have i9 : ∀ o k, ¬ (o = P ∧ k = 17) → mv_i (emH P z (nI 313) (nJ l) g8) o k = mv_i g8 o k := fun o k q => emH_i q
  have a9 : ∀ o, ¬ o = P + 9 → mv_a (emH P z (nI 313) (nJ l) g8) o = mv_a h o := fun o q => (emH_a q).trans (congrFun k8 o)
  have e3 := em_e R1.1 hz (nI 313) (nJ l)
  revert R2 i9 a9 e3
  generalize emH P z (nI 313) (nJ l) g8 = g9
  intro R2 i9 a9 e3
  have u99 : mv_i g9 2 9 = nI y := (i9 2 9 (by omega)).trans u9
  have l99 : mv_i g9 13 9 = nI l := (i9 13 9 (by omega)).trans l9
  have n99 : mv_i g9 13 7 = nI n := (i9 13 7 (by omega)).trans n9
  have t99 : mv_i g9 3 7 = nI (j + 1) := (i9 3 7 (by omega)).trans t8
  have o99 : mv_i g9 3 9 = -1 := (i9 3 9 (by omega)).trans o8
  have x99 : mv_i g9 2 10 = mv_i h 2 10 := (i9 2 10 (by omega)).trans x10
  have e4 : f_Weaver_addLet P g8 (nI w) = some (mv_si (mv_sa (mv_si (mv_sa (mv_sa (mv_sa g9 14 y 3) 15 y (nI l)) 19 n (nI y)) 13 7 (nI (n + 1))) 20 l (nI w)) 13 9 (nI (l + 1))) := by
    unfold f_Weaver_addLet
    rw [u9, if_neg (show ¬ nI y < (0 : Int32) from fun q => by have q := Int32.lt_iff_toInt_lt.mp q; rw [nIi (by omega)] at q; have e : (0 : Int32).toInt = 0 := rfl; omega), l9, xI_l, xi2l_s (by omega), show (313 : Int32) = nI 313 from rfl, e3, xhb_s, u99]
    unfold f_Names_addLet f_Names_know
    have f1 : mv_i (mv_sa (mv_sa g9 14 y 3) 15 y (nI l)) 13 7 = nI n := n99
    have f2 : mv_i (mv_sa (mv_sa (mv_sa g9 14 y 3) 15 y (nI l)) 19 n (nI y)) 13 7 = nI n := n99
    have f3 : mv_i (mv_si (mv_sa (mv_sa (mv_sa g9 14 y 3) 15 y (nI l)) 19 n (nI y)) 13 7 (nI (n + 1))) 13 9 = nI l := l99
    have f4 : mv_i (mv_sa (mv_si (mv_sa (mv_sa (mv_sa g9 14 y 3) 15 y (nI l)) 19 n (nI y)) 13 7 (nI (n + 1))) 20 l (nI w)) 13 9 = nI l := l99
    rw [xvi_n hy (by decide), cond_true, cln (by omega), xk_s, cond_true, l99, xk_s, xhv_s, f1, xvi_n (show n < 64 by omega) (by decide), cond_true, cln (by omega), xk_s, f2, nI1 (by omega), xk_s, f3, xvi_n hl (by decide), cond_true, cln (by omega), xk_s, f4, nI1 (by omega), xk_s, xhv_s]
  have p14 : ¬ 14 = P + 9 ∧ ¬ 15 = P + 9 ∧ ¬ 19 = P + 9 ∧ ¬ 20 = P + 9 := by omega
  have kk : KC9 P g9 (mv_si (mv_sa (mv_si (mv_sa (mv_sa (mv_sa g9 14 y 3) 15 y (nI l)) 19 n (nI y)) 13 7 (nI (n + 1))) 20 l (nI w)) 13 9 (nI (l + 1))) := (((((KC9.sa g9 _ p14.1).tr (KC9.sa _ _ p14.2.1)).tr (KC9.sa _ _ p14.2.2.1)).tr (KC9.si _ _ (by omega))).tr (KC9.sa _ _ p14.2.2.2)).tr (KC9.si _ _ (by omega))
  have aa : ∀ o, ¬ (o = 14 ∨ o = 15 ∨ o = 19 ∨ o = 20) → mv_a (mv_si (mv_sa (mv_si (mv_sa (mv_sa (mv_sa g9 14 y 3) 15 y (nI l)) 19 n (nI y)) 13 7 (nI (n + 1))) 20 l (nI w)) 13 9 (nI (l + 1))) o = mv_a g9 o := fun o q => by
    funext i
    show mv_u (mv_u (mv_u (mv_u (mv_a g9) 14 y 3) 15 y (nI l)) 19 n (nI y)) 20 l (nI w) o i = _
    rw [mv_u_ne _ _ (by omega), mv_u_ne _ _ (by omega), mv_u_ne _ _ (by omega), mv_u_ne _ _ (by omega)]
  have at2 : mv_i (mv_si (mv_sa (mv_si (mv_sa (mv_sa (mv_sa g9 14 y 3) 15 y (nI l)) 19 n (nI y)) 13 7 (nI (n + 1))) 20 l (nI w)) 13 9 (nI (l + 1))) 3 7 = nI (j + 1) := t99
  have ok2 : mv_i (mv_si (mv_sa (mv_si (mv_sa (mv_sa (mv_sa g9 14 y 3) 15 y (nI l)) 19 n (nI y)) 13 7 (nI (n + 1))) 20 l (nI w)) 13 9 (nI (l + 1))) 3 9 < 0 := by
    show mv_i g9 3 9 < 0
    rw [o99]; decide
  have xx : mv_i (mv_si (mv_sa (mv_si (mv_sa (mv_sa (mv_sa g9 14 y 3) 15 y (nI l)) 19 n (nI y)) 13 7 (nI (n + 1))) 20 l (nI w)) 13 9 (nI (l + 1))) 2 10 = mv_i h 2 10 := x99
  rw [e4, xhv_s]
  revert kk aa at2 ok2 xx
  generalize mv_si (mv_sa (mv_si (mv_sa (mv_sa (mv_sa g9 14 y 3) 15 y (nI l)) 19 n (nI y)) 13 7 (nI (n + 1))) 20 l (nI w)) 13 9 (nI (l + 1)) = gA
  intro kk aa at2 ok2 xx
  unfold f_Weaver_finish_115
  have e5 := take_c at2 (by omega) ok2 (nI 59)
  rw [aa 4 (by omega), a9 4 (by omega), (C.tb.k j C.jJ).1, if_pos (show nI (X.kd j) = nI 59 by rw [k5])] at e5
  rw [show (59 : Int32) = nI 59 from rfl, e5, xhb_s]
  exact ⟨_, rfl, (R2.kc kk).kc (KC9.si _ _ (by omega)), (aa 29 (by omega)).trans (a9 29 (by omega)), (aa 30 (by omega)).trans (a9 30 (by omega)), xx⟩
end FIK2
