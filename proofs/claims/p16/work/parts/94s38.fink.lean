/-! finish, on good roads: the code and the blocks' rows -/
section FIK
variable {X : TX} {J P : Nat} {fs : Nat → Nat} {h : mv_H} {j d w : Nat}
/-- blocks' rows and the exits of the if at hand stand -/
def BRq (h h' : mv_H) : Prop := mv_a h' 29 = mv_a h 29 ∧ mv_a h' 30 = mv_a h 30 ∧ mv_i h' 2 10 = mv_i h 2 10
theorem fin1_K (C : CXq X J P h j (d + 1) [] [w]) (hJ : X.kd J = 1 ∨ X.kd J = 2) (eg : mv_i h 2 7 = 1) (k9 : X.kd j = 93) (k6 : X.kd (j + 1) = 61) : ∃ h', f_Weaver_finish P h = some h' ∧ KC9 P h h' ∧ BRq h h' := by
  have hpp := C.pp
  have hb := C.jb
  obtain ⟨e1, C1, w1, w2, w3⟩ := C.rel (by show 0 < 1024; omega)
  have hj1 := nxJ hJ C.jJ (by omega) (by omega)
  obtain ⟨e2, C2⟩ := C1.clK k9 hj1
  have e3 := C2.tk k6
  unfold f_Weaver_finish f_Weaver_beginExpr f_Exprs_begin
  rw [e1, xhb_s, if_pos (show mv_i (mv_si h 22 10 (nI ([] : List Nat).length)) 2 7 = 1 from eg), show (93 : Int32) = nI 93 from rfl, e2, xhb_s, show (61 : Int32) = nI 61 from rfl, e3, xhb_s, xk_s, xk_s, xk_s, xk_s, xhv_s, xk_s, xhv_s]
  exact ⟨_, rfl, ((((((((KC9.si h _ (by omega)).tr (KC9.si _ _ (by omega))).tr (KC9.si _ _ (by omega))).tr (KC9.si _ _ (by omega))).tr (KC9.si _ _ (by omega))).tr (KC9.si _ _ (by omega))).tr (KC9.si _ _ (by omega))).tr (KC9.si _ _ (by omega))).tr (KC9.si _ _ (by omega)), rfl, rfl, rfl⟩
theorem fin2_K {L : CDq} {z g u : Nat} (C : CXq X J P h j d [] [w]) (hJ : X.kd J = 1 ∨ X.kd J = 2) (R : CRw P fs h L z) (hz : z < 32768) (hg : g = 2 ∨ g = 3) (eg : mv_i h 2 7 = nI g) (eu : mv_i h 2 9 = nI u) (hu : u < 64) (ew : mv_a h (P + 1) u = nI w) (k5 : X.kd j = 59) : ∃ h', f_Weaver_finish P h = some h' ∧ CRw P fs h' (uL L z (if g = 2 then 314 else 315, nJ u)) (z + 1) ∧ BRq h h' := by
  have hpp := C.pp
  have hb := C.jb
  obtain ⟨e1, C1, w1, w2, w3⟩ := C.rel (by show 0 < 1024; omega)
  have k0 : KC9 P h (mv_si (mv_si h 22 10 (nI ([] : List Nat).length)) 2 6 1) := (KC9.si h _ (by omega)).tr (KC9.si _ _ (by omega))
  have R1 := R.kc k0
  have t8 : mv_i (mv_si (mv_si h 22 10 (nI ([] : List Nat).length)) 2 6 1) 3 7 = nI (j + 1) := C.at'
  have k8 : mv_a (mv_si (mv_si h 22 10 (nI ([] : List Nat).length)) 2 6 1) = mv_a h := rfl
  have o8 : mv_i (mv_si (mv_si h 22 10 (nI ([] : List Nat).length)) 2 6 1) 3 9 = -1 := C.ok
  have g7 : mv_i (mv_si (mv_si h 22 10 (nI ([] : List Nat).length)) 2 6 1) 2 7 = nI g := eg
  have u9 : mv_i (mv_si (mv_si h 22 10 (nI ([] : List Nat).length)) 2 6 1) 2 9 = nI u := eu
  have x10 : mv_i (mv_si (mv_si h 22 10 (nI ([] : List Nat).length)) 2 6 1) 2 10 = mv_i h 2 10 := rfl
  have g6 : mv_i (mv_si h 22 10 (nI ([] : List Nat).length)) 2 7 = nI g := eg
  unfold f_Weaver_finish
  rw [e1, xhb_s, g6, if_neg (show ¬ nI g = (1 : Int32) from fun q => by have := (nIinj (b := 1) (by omega) (by omega)).mp q; omega), xk_s, g7, if_neg (show ¬ nI g = (4 : Int32) from fun q => by have := (nIinj (b := 4) (by omega) (by omega)).mp q; omega), if_neg (show ¬ nI g = (0 : Int32) from fun q => by have := (nIinj (b := 0) (by omega) (by omega)).mp q; omega)]
  revert R1 t8 k8 o8 g7 u9 x10
  generalize mv_si (mv_si h 22 10 (nI ([] : List Nat).length)) 2 6 1 = g8
  intro R1 t8 k8 o8 g7 u9 x10
  have e4 : f_Weaver_assign P g8 (nI w) = some (emH P z (nI (if g = 2 then 314 else 315)) (nJ u) g8) := by
    have e42 : f_Weaver_assign_42 P g8 = some (emH P z (nI (if g = 2 then 314 else 315)) (nJ u) g8) := by
      unfold f_Weaver_assign_42 f_Weaver_assign_63
      rw [g7, u9, xI_l, xi2l_s (by omega)]
      rcases hg with e | e
      · subst e
        rw [if_pos (show nI 2 = (2 : Int32) from rfl), show (314 : Int32) = nI 314 from rfl, em_e R1.1 hz, xhb_s]
        rfl
      · subst e
        rw [if_neg (show ¬ nI 3 = (2 : Int32) by decide), show (315 : Int32) = nI 315 from rfl, em_e R1.1 hz, xhb_s]
        rfl
    unfold f_Weaver_assign
    rw [u9, if_neg (show ¬ nI u < (0 : Int32) from fun q => by have q := Int32.lt_iff_toInt_lt.mp q; rw [nIi (by omega)] at q; have e : (0 : Int32).toInt = 0 := rfl; omega), xvi_n hu (by decide), cond_true, cln (by omega), k8, ew, e42]
    by_cases c1 : nI w ≤ (0 : Int32)
    · rw [if_pos c1]
    · rw [if_neg c1, if_neg c1, if_pos rfl]
  have R2 := R1.em (k := if g = 2 then 314 else 315) (a := nJ u) (y := nJ u) hz (by split <;> omega) (by rw [if_neg (by split <;> omega)])
  have at2 : mv_i (emH P z (nI (if g = 2 then 314 else 315)) (nJ u) g8) 3 7 = nI (j + 1) := (emH_i (by omega)).trans t8
  have ok2 : mv_i (emH P z (nI (if g = 2 then 314 else 315)) (nJ u) g8) 3 9 < 0 := by rw [emH_i (by omega), o8]; decide
  have a4 : mv_a (emH P z (nI (if g = 2 then 314 else 315)) (nJ u) g8) 4 = mv_a h 4 := (emH_a (by omega)).trans (congrFun k8 4)
  have a29 : mv_a (emH P z (nI (if g = 2 then 314 else 315)) (nJ u) g8) 29 = mv_a h 29 := (emH_a (by omega)).trans (congrFun k8 29)
  have a30 : mv_a (emH P z (nI (if g = 2 then 314 else 315)) (nJ u) g8) 30 = mv_a h 30 := (emH_a (by omega)).trans (congrFun k8 30)
  have i10 : mv_i (emH P z (nI (if g = 2 then 314 else 315)) (nJ u) g8) 2 10 = mv_i h 2 10 := (emH_i (by omega)).trans x10
  rw [e4, xhv_s]
  unfold f_Weaver_finish_115
  have e5 := take_c at2 (by omega) ok2 (nI 59)
  rw [a4, (C.tb.k j C.jJ).1, if_pos (show nI (X.kd j) = nI 59 by rw [k5])] at e5
  rw [show (59 : Int32) = nI 59 from rfl, e5, xhb_s]
  exact ⟨_, rfl, R2.kc (KC9.si _ _ (by omega)), a29, a30, i10⟩
end FIK
