/-! a block closes: the tails -/
section CLT
variable {X : TX} {J P : Nat} {fs : Nat → Nat} {g : mv_H} {j d b z : Nat} {L : CDq}
theorem clT_6 {n : Nat} {sg : Nat → Nat} (hpp : P = 32 ∨ P = 48) (R : CRw P fs g L z) (hz : z < 32768) (eb : mv_i g 2 15 = nI b) (hb : b < 60) (a28 : mv_a g 28 b = 206) (sc : mv_i g 13 7 = nI n) (n2 : n ≤ 64) (ss : ∀ i, i < n → mv_a g 19 i = nI (sg i) ∧ sg i < 16448) : ∃ h', clT P g = some h' ∧ CRw P fs h' (uL L z (317, 0)) (z + 1) := by
  have R1 := R.em (k := 317) (a := 0) (y := 0) hz (by omega) (if_neg (by decide)).symm
  have e1 := em_e R.1 hz (nI 317) 0
  have p13 : ¬ (13 = P ∧ 7 = 17) := by omega
  have p19 : ¬ 19 = P + 9 := by omega
  obtain ⟨h2, e2, V⟩ := lv_e n2 sg (emH P z (nI 317) 0 g) ((emH_i p13).trans sc) (fun i hi => by rw [emH_a p19]; exact ss i hi)
  have kv : KC9 P (emH P z (nI 317) 0 g) h2 := ⟨V.i P 17 (by omega), V.a (P + 9) (by omega) (by omega), V.b (P + 10) (by omega)⟩
  refine ⟨mv_si h2 2 6 0, ?_, (R1.kc kv).kc (KC9.si _ _ (by omega))⟩
  unfold clT
  rw [eb, xvi_n (show b < 61 by omega) (by decide), cond_true, cln (by omega), a28, if_pos rfl, show (317 : Int32) = nI 317 from rfl, e1, xhb_s, e2, xhv_s, xk_s]
theorem clT_9 (T : TB X J g) (ha : mv_i g 3 7 = nI (j + 1)) (hj : j ≤ J) (ho : mv_i g 3 9 < 0) (eb : mv_i g 2 15 = nI b) (hb : b < 60) (a28 : mv_a g 28 b = 209) (k0 : ¬ X.kd j = 210) : clT P g = f_Weaver_closeBlock_181 P g := by
  have hjb := T.jb
  have ek := kind_c ha (by omega) ho
  have hk := (T.k j hj).2
  rw [(T.k j hj).1] at ek
  unfold clT
  rw [eb, xvi_n (show b < 61 by omega) (by decide), cond_true, cln (by omega), a28, if_neg (by decide), if_pos rfl, ek, xhb_s, if_neg (show ¬ nI (X.kd j) = (210 : Int32) from fun q => k0 ((nIinj (b := 210) (by omega) (by omega)).mp q))]
theorem clT_0 (eb : mv_i g 2 15 = nI b) (hb : b < 60) (a28 : mv_a g 28 b = 210) : clT P g = f_Weaver_closeBlock_181 P g := by
  unfold clT
  rw [eb, xvi_n (show b < 61 by omega) (by decide), cond_true, cln (by omega), a28, if_neg (by decide), if_neg (by decide)]
theorem clT_e {y : Nat} (hpp : P = 32 ∨ P = 48) (T : TB X J g) (ha : mv_i g 3 7 = nI (j + 1)) (hj : j + 1 ≤ J) (ho : mv_i g 3 9 < 0) (hd : mv_i g 3 8 = nI d) (hd6 : d < 60) (R : CRw P fs g L z) (hz : z < 32767) (eb : mv_i g 2 15 = nI b) (hb : b < 60) (a28 : mv_a g 28 b = 209) (a29 : mv_a g 29 b = nI y) (hy : y < z) (hL : L y = (312, 0)) (k0 : X.kd j = 210) (k1 : X.kd (j + 1) = 209 ∨ X.kd (j + 1) = 123) : ∃ h', clT P g = some h' ∧ CRw P fs h' (uL (uL L z (311, (mv_a g 30 b).toInt64)) y (312, nJ (z + 1))) (z + 1) ∧ (X.kd (j + 1) = 209 → mv_a h' 29 = mv_a g 29 ∧ mv_a h' 30 = mv_a g 30 ∧ mv_i h' 2 10 = nI z) ∧ (¬ X.kd (j + 1) = 209 → (∀ i, mv_a h' 29 i = if i = b then -1 else mv_a g 29 i) ∧ ∀ i, mv_a h' 30 i = if i = b then nI z else mv_a g 30 i) := by
  have hjb := T.jb
  have ek := kind_c ha (by omega) ho
  have hk1 := (T.k (j + 1) hj).2
  rw [(T.k j (by omega)).1, k0] at ek
  have e1 := tkh ha (by omega) ho ((T.k j (by omega)).1.trans (by rw [k0]))
  have R0 := R.kc (KC9.si g (o := 3) (k := 7) (nI (j + 1 + 1)) (by omega))
  have e2 := em_e R0.1 (show z < 32768 by omega) (nI 311) (mv_a g 30 b).toInt64
  have R1 := R0.em (k := 311) (a := (mv_a g 30 b).toInt64) (y := (mv_a g 30 b).toInt64) (by omega) (by omega) (if_neg (by decide)).symm
  have e3 := aim_e2 (y := y) R1.1 (by omega) (by omega)
  have R2 := R1.am (y := y) (k := 312) (w := 0) (by omega) ((uL_n L _ (by omega)).trans hL) (by decide) (nJ (z + 1))
  have i9 : ∀ o k, ¬ (o = P ∧ k = 17) → mv_i (emH P z (nI 311) (mv_a g 30 b).toInt64 (mv_si g 3 7 (nI (j + 1 + 1)))) o k = mv_i (mv_si g 3 7 (nI (j + 1 + 1))) o k := fun o k q => emH_i q
  have a9 : ∀ o, ¬ o = P + 9 → mv_a (emH P z (nI 311) (mv_a g 30 b).toInt64 (mv_si g 3 7 (nI (j + 1 + 1)))) o = mv_a g o := fun o q => emH_a q
  have eb1 : mv_i (mv_si g 3 7 (nI (j + 1 + 1))) 2 15 = nI b := eb
  have e30 : mv_a (mv_si g 3 7 (nI (j + 1 + 1))) 30 b = mv_a g 30 b := rfl
  have b9 : ∀ o, ¬ o = P + 10 → mv_b (emH P z (nI 311) (mv_a g 30 b).toInt64 (mv_si g 3 7 (nI (j + 1 + 1)))) o = mv_b g o := fun o q => funext fun i => mv_u_ne (mv_b g) _ (fun w => q w.1)
  have e0 : clT P g = xhb (f_Tokens_kind (mv_sb (emH P z (nI 311) (mv_a g 30 b).toInt64 (mv_si g 3 7 (nI (j + 1 + 1)))) (P + 10) y (nJ (z + 1)))) fun v21 g20 => if v21 = (209 : Int32) then (xhv (f_Weaver_beginIf g20 (nI z)) fun g23 => some g23) else (xhv (f_Weaver_openBlock g20 (210 : Int32) (-1 : Int32) (nI z)) fun g22 => some g22) := by
    unfold clT
    rw [eb, xvi_n (show b < 61 by omega) (by decide), cond_true, cln (by omega), a28, if_neg (by decide), if_pos rfl, ek, xhb_s, if_pos (show nI 210 = (210 : Int32) from rfl), show (210 : Int32) = nI 210 from rfl, e1, xhb_s, eb1, xvi_n (show b < 61 by omega) (by decide), cond_true, cln (by omega), e30, show (311 : Int32) = nI 311 from rfl, e2, xhb_s, i9 2 15 (by omega), eb1, xvi_n (show b < 61 by omega) (by decide), cond_true, cln (by omega), a9 29 (by omega), a29, e3, xhv_s]
  rw [e0]
  have t1 : mv_i (mv_sb (emH P z (nI 311) (mv_a g 30 b).toInt64 (mv_si g 3 7 (nI (j + 1 + 1)))) (P + 10) y (nJ (z + 1))) 3 7 = nI (j + 1 + 1) := (i9 3 7 (by omega)).trans (mv_si_s _ _ _ _)
  have t2 : mv_i (mv_sb (emH P z (nI 311) (mv_a g 30 b).toInt64 (mv_si g 3 7 (nI (j + 1 + 1)))) (P + 10) y (nJ (z + 1))) 3 9 < 0 := by
    show mv_i (emH P z (nI 311) (mv_a g 30 b).toInt64 (mv_si g 3 7 (nI (j + 1 + 1)))) 3 9 < 0
    rw [i9 3 9 (by omega)]; exact ho
  have t3 : mv_i (mv_sb (emH P z (nI 311) (mv_a g 30 b).toInt64 (mv_si g 3 7 (nI (j + 1 + 1)))) (P + 10) y (nJ (z + 1))) 3 8 = nI d := (i9 3 8 (by omega)).trans hd
  have t4 : mv_i (mv_sb (emH P z (nI 311) (mv_a g 30 b).toInt64 (mv_si g 3 7 (nI (j + 1 + 1)))) (P + 10) y (nJ (z + 1))) 2 15 = nI b := (i9 2 15 (by omega)).trans eb1
  have t5 : ∀ o, ¬ o = P + 9 → mv_a (mv_sb (emH P z (nI 311) (mv_a g 30 b).toInt64 (mv_si g 3 7 (nI (j + 1 + 1)))) (P + 10) y (nJ (z + 1))) o = mv_a g o := a9
  have T2 : TB X J (mv_sb (emH P z (nI 311) (mv_a g 30 b).toInt64 (mv_si g 3 7 (nI (j + 1 + 1)))) (P + 10) y (nJ (z + 1))) := T.fr (t5 4 (by omega)) (t5 5 (by omega)) ((sbn (by omega)).trans (b9 6 (by omega)))
  revert R2 t1 t2 t3 t4 t5 T2
  generalize mv_sb (emH P z (nI 311) (mv_a g 30 b).toInt64 (mv_si g 3 7 (nI (j + 1 + 1)))) (P + 10) y (nJ (z + 1)) = gA
  intro R2 t1 t2 t3 t4 t5 T2
  have ek2 := kind_c t1 (by omega) t2
  rw [(T2.k (j + 1) hj).1] at ek2
  rw [ek2, xhb_s]
  by_cases c9 : X.kd (j + 1) = 209
  · rw [if_pos (show nI (X.kd (j + 1)) = (209 : Int32) by rw [c9]; rfl)]
    obtain ⟨h', e4, k4, a4, i4⟩ := ifb_K (a0 := nI z) hpp T2 t1 hj t2 c9
    rw [e4, xhv_s]
    exact ⟨h', rfl, R2.kc k4, fun _ => ⟨by rw [a4]; exact t5 29 (by omega), by rw [a4]; exact t5 30 (by omega), i4⟩, fun q => absurd c9 q⟩
  · rw [if_neg (show ¬ nI (X.kd (j + 1)) = (209 : Int32) from fun q => c9 ((nIinj (b := 209) (by omega) (by omega)).mp q))]
    have e4 := obK (g := gA) (a := j + 1 + 1) t1 (by omega) t2 t3 hd6 ((T2.k (j + 1) hj).1.trans (by rw [show X.kd (j + 1) = 123 by omega])) t4 (by omega) 210 (-1) (nI z)
    rw [e4, xhv_s]
    refine ⟨_, rfl, ((R2.kc (KC9.si gA _ (by omega))).kc (KC9.si _ _ (by omega))).kc (OBk.kc hpp _ _ _ _ _), fun q => absurd q c9, fun _ => ⟨fun i => ?_, fun i => ?_⟩⟩
    · rw [OBk.r29]
      by_cases q : i = b
      · rw [if_pos q, if_pos q]
      · rw [if_neg q, if_neg q]
        exact congrFun (t5 29 (by omega)) i
    · rw [OBk.r30]
      by_cases q : i = b
      · rw [if_pos q, if_pos q]
      · rw [if_neg q, if_neg q]
        exact congrFun (t5 30 (by omega)) i
end CLT
