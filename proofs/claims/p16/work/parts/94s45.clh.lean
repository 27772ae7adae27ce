/-! a block closes: the head -/
def clT (P : Nat) (g9 : mv_H) : Option mv_H := bif xvi (mv_i g9 2 15) 61 then if (mv_a g9 28 ((mv_i g9 2 15)).toNatClampNeg) = (206 : Int32) then (xhb (f_Program_emit P g9 (317 : Int32) (0 : Int64)) fun v25 g24 => xhv (f_Names_leaveOp g24) fun g26 => xk (mv_si g26 2 6 (0 : Int32)) fun g27 => some g27) else (if (mv_a g9 28 ((mv_i g9 2 15)).toNatClampNeg) = (209 : Int32) then (xhb (f_Tokens_kind g9) fun v12 g11 => if v12 = (210 : Int32) then (xhb (f_Tokens_take g11 (210 : Int32)) fun v14 g13 => bif xvi (mv_i g13 2 15) 61 then xhb (f_Program_emit P g13 (311 : Int32) (((mv_a g13 30 ((mv_i g13 2 15)).toNatClampNeg)).toInt64)) fun v17 g16 => bif xvi (mv_i g16 2 15) 61 then xhv (f_Program_aim P g16 (mv_a g16 29 ((mv_i g16 2 15)).toNatClampNeg)) fun g19 => xhb (f_Tokens_kind g19) fun v21 g20 => if v21 = (209 : Int32) then (xhv (f_Weaver_beginIf g20 v17) fun g23 => some g23) else (xhv (f_Weaver_openBlock g20 (210 : Int32) (-1 : Int32) v17) fun g22 => some g22) else none else none) else (f_Weaver_closeBlock_181 P  g11)) else (f_Weaver_closeBlock_181 P  g9)) else none
theorem cl_e (P : Nat) (h : mv_H) : f_Weaver_closeBlock P h = xhb (f_Tokens_close h (125 : Int32)) fun v6 g5 => xk (mv_si g5 2 15 ((mv_i g5 2 15) - (1 : Int32))) fun g7 => bif xvi (mv_i g7 2 15) 61 then xhv (f_Names_forget g7 (mv_a g7 31 ((mv_i g7 2 15)).toNatClampNeg)) fun g9 =>  clT P g9 else none := rfl
section CLK
variable {X : TX} {J P : Nat} {fs : Nat → Nat} {h : mv_H} {j d b kk n : Nat} {sg : Nat → Nat}
theorem clh_K (hpp : P = 32 ∨ P = 48) (T : PT X J h h j d) (hJ : X.kd J = 1 ∨ X.kd J = 2) (hk : X.kd j = 125) (hd0 : 0 < d) (hb : mv_i h 2 15 = nI (b + 1)) (hb2 : b < 60) (sc : mv_i h 13 7 = nI n) (n2 : n ≤ 64) (k1 : mv_a h 31 b = nI kk) (k2 : kk ≤ n) (ss : ∀ i, i < n → mv_a h 19 i = nI (sg i) ∧ sg i < 16448) : ∃ g, f_Weaver_closeBlock P h = clT P g ∧ KC9 P h g ∧ (∀ r, ¬ r = 14 → mv_a g r = mv_a h r) ∧ mv_b g = mv_b h ∧ mv_i g 2 15 = nI b ∧ TB X J g ∧ mv_i g 3 7 = nI (j + 1 + 1) ∧ mv_i g 3 8 = nI (d - 1) ∧ mv_i g 3 9 < 0 ∧ mv_i g 13 7 = nI kk ∧ (∀ i, i < n → mv_a g 19 i = nI (sg i)) ∧ mv_i g 2 10 = mv_i h 2 10 := by
  rcases T.cl hJ (k := 125) (by omega) (by omega) hd0 with ⟨q0, g5, e5, T5, n5⟩ | ⟨q0, -⟩
  rotate_left
  · exact absurd hk q0
  obtain ⟨g7, eg7⟩ : ∃ g7, g7 = mv_si g5 2 15 (nI b) := ⟨_, rfl⟩
  have e15 : mv_i g5 2 15 - 1 = nI b := by
    rw [T5.sm.i 2 15 (by omega) (by omega), hb]; exact nIsub (a := b + 1) (b := 1) (by omega) (by omega)
  have f15 : mv_i g7 2 15 = nI b := by rw [eg7]; rfl
  have fi : ∀ o k, ¬ (o = 2 ∧ k = 15) → mv_i g7 o k = mv_i g5 o k := fun o k q => by rw [eg7]; exact mv_u_ne (mv_i g5) _ q
  have fa : mv_a g7 = mv_a h := by rw [eg7]; exact T5.sm.a
  have fb : mv_b g7 = mv_b h := by rw [eg7]; exact T5.sm.b
  obtain ⟨g9, e9, F⟩ := fg_e n2 k2 sg g7 (by rw [fi 13 7 (by omega), T5.sm.i 13 7 (by omega) (by omega)]; exact sc) (fun i hi => by rw [fa]; exact ss i hi)
  have a31 : mv_a g7 31 b = nI kk := by rw [fa]; exact k1
  have p17 : ¬ (P = 13 ∧ 17 = 7) := by omega
  have p2 : ¬ (P = 2 ∧ 17 = 15) := by omega
  have p3 : ¬ (P = 3 ∧ 7 ≤ 17 ∧ 17 ≤ 9) := by omega
  have p21 : ¬ P = 21 := by omega
  have p9 : ¬ P + 9 = 14 := by omega
  refine ⟨g9, ?_, ⟨?_, ?_, ?_⟩, fun r q => by rw [F.a r q, fa], by rw [F.b, fb], by rw [F.i 2 15 (by omega)]; exact f15, T5.tb.fr ?_ ?_ ?_, ?_, ?_, ?_, F.sc, fun i hi => by rw [F.a 19 (by omega), fa]; exact (ss i hi).1, ?_⟩
  · rw [cl_e, show (125 : Int32) = nI 125 from rfl, e5, xhb_s, e15, xk_s, ← eg7, f15, xvi_n (show b < 61 by omega) (by decide), cond_true, cln (by omega), a31, e9, xhv_s]
  · rw [F.i P 17 p17, fi P 17 p2, T5.sm.i P 17 p3 p21]
  · rw [F.a (P + 9) p9, fa]
  · rw [F.b, fb]
  · rw [F.a 4 (by omega), fa, T5.sm.a]
  · rw [F.a 5 (by omega), fa, T5.sm.a]
  · rw [F.b, fb, T5.sm.b]
  · rw [F.i 3 7 (by omega), fi 3 7 (by omega)]; exact T5.at'
  · rw [F.i 3 8 (by omega), fi 3 8 (by omega)]; exact T5.dp
  · rw [F.i 3 9 (by omega), fi 3 9 (by omega)]; exact T5.lt
  · rw [F.i 2 10 (by omega), fi 2 10 (by omega), T5.sm.i 2 10 (by omega) (by omega)]
end CLK
