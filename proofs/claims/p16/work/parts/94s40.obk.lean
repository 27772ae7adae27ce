/-! an if's block opens -/
section OBK
theorem obK {g : mv_H} {a d b : Nat} (ha : mv_i g 3 7 = nI a) (ha2 : a < 32770) (hr : mv_i g 3 9 < 0) (hd : mv_i g 3 8 = nI d) (hd6 : d < 60) (hk : mv_a g 4 a = nI 123) (eb : mv_i g 2 15 = nI b) (hb : b ≤ 60) (a0 a1 a2 : Int32) : f_Weaver_openBlock g a0 a1 a2 = some (OBk (mv_si (mv_si g 3 8 (nI (d + 1))) 3 7 (nI (a + 1))) b a0 a1 a2) := by
  have e8 : mv_i g 3 8 + 1 = nI (d + 1) := by rw [hd, nI1 (by omega)]
  have e1 := open_c ha ha2 hr (nI 123) (by rw [hd]; exact fun z => by have := (nIinj (b := 60) (by omega) (by omega)).mp z; omega)
  rw [hk, if_pos rfl, e8] at e1
  have e2 : f_Tokens_right (mv_si (mv_si g 3 8 (nI (d + 1))) 3 7 (nI (a + 1))) = some (1, mv_si (mv_si g 3 8 (nI (d + 1))) 3 7 (nI (a + 1))) := by
    unfold f_Tokens_right
    rw [if_neg (show ¬ (0 : Int32) ≤ mv_i (mv_si (mv_si g 3 8 (nI (d + 1))) 3 7 (nI (a + 1))) 3 9 from fun q => by
      have q : (0 : Int32) ≤ mv_i g 3 9 := q
      have q1 := Int32.le_iff_toInt_le.mp q
      have q2 := Int32.lt_iff_toInt_lt.mp hr
      omega)]
    rfl
  have eb2 : mv_i (mv_si (mv_si g 3 8 (nI (d + 1))) 3 7 (nI (a + 1))) 2 15 = nI b := eb
  unfold f_Weaver_openBlock
  rw [show (123 : Int32) = nI 123 from rfl, e1, xhb_s, e2, xhb_s, if_neg (by decide)]
  revert eb2
  generalize mv_si (mv_si g 3 8 (nI (d + 1))) 3 7 (nI (a + 1)) = g1
  intro eb2
  simp only [xk_s, rw_ia]
  rw [eb2, xvi_n (by omega) (by decide), cln (by omega), nI1 (by omega)]
  rfl
theorem OBk.kc {P : Nat} (hpp : P = 32 ∨ P = 48) (g : mv_H) (b : Nat) (a0 a1 a2 : Int32) : KC9 P g (OBk g b a0 a1 a2) := (((((KC9.sa g _ (by omega)).tr (KC9.sa _ _ (by omega))).tr (KC9.sa _ _ (by omega))).tr (KC9.sa _ _ (by omega))).tr (KC9.si _ _ (by omega))).tr (KC9.si _ _ (by omega))
theorem OBk.r29 (g : mv_H) (b : Nat) (a0 a1 a2 : Int32) (i : Nat) : mv_a (OBk g b a0 a1 a2) 29 i = if i = b then a1 else mv_a g 29 i := by
  show mv_u (mv_u (mv_u (mv_u (mv_a g) 28 b a0) 29 b a1) 30 b a2) 31 b (mv_i g 13 7) 29 i = _
  rw [mv_u_ne _ _ (by omega), mv_u_ne _ _ (by omega)]
  by_cases c : i = b
  · rw [if_pos c, c, mv_u_same]
  · rw [if_neg c, mv_u_ne _ _ (by omega), mv_u_ne _ _ (by omega)]
theorem OBk.r30 (g : mv_H) (b : Nat) (a0 a1 a2 : Int32) (i : Nat) : mv_a (OBk g b a0 a1 a2) 30 i = if i = b then a2 else mv_a g 30 i := by
  show mv_u (mv_u (mv_u (mv_u (mv_a g) 28 b a0) 29 b a1) 30 b a2) 31 b (mv_i g 13 7) 30 i = _
  rw [mv_u_ne _ _ (by omega)]
  by_cases c : i = b
  · rw [if_pos c, c, mv_u_same]
  · rw [if_neg c, mv_u_ne _ _ (by omega), mv_u_ne _ _ (by omega), mv_u_ne _ _ (by omega)]
variable {X : TX} {J P : Nat} {fs : Nat → Nat} {h : mv_H} {j d w : Nat}
theorem fin4_K {L : CDq} {z b : Nat} (C : CXq X J P h j d [] [1]) (R : CRw P fs h L z) (hz : z < 32768) (eg : mv_i h 2 7 = 4) (eb : mv_i h 2 15 = nI b) (hb : b ≤ 60) (hd : d < 60) (k1 : X.kd j = 123) : ∃ h', f_Weaver_finish P h = some h' ∧ CRw P fs h' (uL L z (312, 0)) (z + 1) ∧ mv_a h' 29 b = nI z ∧ mv_a h' 30 b = mv_i h 2 10 ∧ ∀ i, ¬ i = b → mv_a h' 29 i = mv_a h 29 i ∧ mv_a h' 30 i = mv_a h 30 i := by
  have hpp := C.pp
  have hjb := C.jb
  obtain ⟨e1, C1, w1, w2, w3⟩ := C.rel (by show 0 < 1024; omega)
  have R1 := R.kc ((KC9.si h (o := 22) (k := 10) (nI ([] : List Nat).length) (by omega)).tr (KC9.si _ (o := 2) (k := 6) 1 (by omega)))
  have t8 : mv_i (mv_si (mv_si h 22 10 (nI ([] : List Nat).length)) 2 6 1) 3 7 = nI (j + 1) := C.at'
  have k8 : mv_a (mv_si (mv_si h 22 10 (nI ([] : List Nat).length)) 2 6 1) = mv_a h := rfl
  have o8 : mv_i (mv_si (mv_si h 22 10 (nI ([] : List Nat).length)) 2 6 1) 3 9 = -1 := C.ok
  have d8 : mv_i (mv_si (mv_si h 22 10 (nI ([] : List Nat).length)) 2 6 1) 3 8 = nI d := C.dp
  have b8 : mv_i (mv_si (mv_si h 22 10 (nI ([] : List Nat).length)) 2 6 1) 2 15 = nI b := eb
  have g7 : mv_i (mv_si (mv_si h 22 10 (nI ([] : List Nat).length)) 2 6 1) 2 7 = 4 := eg
  have x10 : mv_i (mv_si (mv_si h 22 10 (nI ([] : List Nat).length)) 2 6 1) 2 10 = mv_i h 2 10 := rfl
  have g6 : mv_i (mv_si h 22 10 (nI ([] : List Nat).length)) 2 7 = 4 := eg
  unfold f_Weaver_finish
  rw [e1, xhb_s, g6, if_neg (show ¬ (4 : Int32) = (1 : Int32) by decide), xk_s, g7, if_pos rfl, if_pos (show nI 1 ≤ (1 : Int32) by decide)]
  revert R1 t8 k8 o8 g7 x10 d8 b8
  generalize mv_si (mv_si h 22 10 (nI ([] : List Nat).length)) 2 6 1 = g8
  intro R1 t8 k8 o8 d8 b8 g7 x10
  have R2 := R1.em (k := 312) (a := 0) (y := 0) hz (by omega) (if_neg (by decide)).symm
  have i9 : ∀ o k, ¬ (o = P ∧ k = 17) → mv_i (emH P z (nI 312) 0 g8) o k = mv_i g8 o k := fun o k q => emH_i q
  have a9 : ∀ o, ¬ o = P + 9 → mv_a (emH P z (nI 312) 0 g8) o = mv_a h o := fun o q => (emH_a q).trans (congrFun k8 o)
  have e3 := em_e R1.1 hz (nI 312) 0
  unfold f_Weaver_finish_72
  rw [show (312 : Int32) = nI 312 from rfl, e3, xhb_s]
  revert R2 i9 a9
  generalize emH P z (nI 312) 0 g8 = g9
  intro R2 i9 a9
  have e4 := obK (g := g9) (a := j + 1) (d := d) (b := b) ((i9 3 7 (by omega)).trans t8) (by omega) (by rw [i9 3 9 (by omega), o8]; decide) ((i9 3 8 (by omega)).trans d8) hd (by rw [a9 4 (by omega), (C.tb.k j C.jJ).1, k1]) ((i9 2 15 (by omega)).trans b8) hb 209 (nI z) (mv_i g9 2 10)
  rw [e4, xhv_s]
  have x9 : mv_i g9 2 10 = mv_i h 2 10 := (i9 2 10 (by omega)).trans x10
  refine ⟨_, rfl, ((R2.kc (KC9.si g9 _ (by omega))).kc (KC9.si _ _ (by omega))).kc (OBk.kc hpp _ _ _ _ _), ?_, ?_, fun i hi => ⟨?_, ?_⟩⟩
  · rw [OBk.r29, if_pos rfl]
  · rw [OBk.r30, if_pos rfl, x9]
  · rw [OBk.r29, if_neg hi]
    exact congrFun (a9 29 (by omega)) i
  · rw [OBk.r30, if_neg hi]
    exact congrFun (a9 30 (by omega)) i
end OBK
