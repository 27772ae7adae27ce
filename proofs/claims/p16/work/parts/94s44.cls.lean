/-! the end of a block -/
theorem JL.len {L : CDq} : ∀ {Js : List Nat} {x : Int32} {z : Nat}, JL L x Js → (∀ j, j ∈ Js → j < z) → Js.length ≤ z := by
  intro Js
  induction Js with
  | nil => intro x z _ _; exact Nat.zero_le _
  | cons j Js ih =>
    intro x z h hz
    obtain ⟨-, h2, x', -, h4⟩ := h
    have := ih h4 h2
    have := hz j (List.mem_cons_self ..)
    rw [List.length_cons]
    omega
theorem aimn {P : Nat} {h : mv_H} : f_Program_aim P h (-1) = some h := by
  unfold f_Program_aim
  rw [if_pos (by decide)]
section C181
variable {P : Nat} {fs : Nat → Nat} {g : mv_H} {L : CDq} {z b : Nat} {Js : List Nat}
theorem aall_K (R : CRw P fs g L z) {x : Int32} (hJ : JL L x Js) (hj : ∀ j, j ∈ Js → j < z) : ∃ h', f_Program_aimAll P g x = some h' ∧ CRw P fs h' (aiL L z Js) z ∧ mv_i h' = mv_i g ∧ mv_a h' = mv_a g := by
  have hz := R.2.1
  have hl := hJ.len hj
  obtain ⟨h', e, R1, i1, a1, -, -⟩ := ama_K Js 200000 0 x g L R hJ (fun j q => by have := hj j q; omega) (by omega) (by omega)
  exact ⟨h', e, R1, i1, a1⟩
/-- an if's block, no else -/
theorem c181_9 {y : Nat} (hpp : P = 32 ∨ P = 48) (R : CRw P fs g L z) (eb : mv_i g 2 15 = nI b) (hb : b ≤ 60) (e29 : mv_a g 29 b = nI y) (hy : y < z) (hL : L y = (312, 0)) (hJ : JL (uL L y (312, nJ z)) (mv_a g 30 b) Js) (hj : ∀ j, j ∈ Js → j < z) : ∃ h', f_Weaver_closeBlock_181 P g = some h' ∧ CRw P fs h' (aiL (uL L y (312, nJ z)) z Js) z ∧ mv_i h' = mv_i g ∧ mv_a h' = mv_a g := by
  have hz := R.2.1
  have R1 := R.am hy hL (by decide) (nJ z)
  have e1 := aim_e2 (y := y) R.1 (by omega) (by omega)
  obtain ⟨h', e2, R2, i2, a2⟩ := aall_K R1 hJ hj
  refine ⟨h', ?_, R2, i2, a2⟩
  have eb2 : mv_i (mv_sb g (P + 10) y (nJ z)) 2 15 = nI b := eb
  have a30 : mv_a (mv_sb g (P + 10) y (nJ z)) 30 b = mv_a g 30 b := rfl
  unfold f_Weaver_closeBlock_181
  rw [eb, xvi_n (show b < 61 by omega) (by decide), cond_true, cln (by omega), e29, e1, xhv_s, eb2, xvi_n (show b < 61 by omega) (by decide), cond_true, cln (by omega), a30, e2, xhv_s]
/-- an else's block -/
theorem c181_0 (R : CRw P fs g L z) (eb : mv_i g 2 15 = nI b) (hb : b ≤ 60) (e29 : mv_a g 29 b = -1) (hJ : JL L (mv_a g 30 b) Js) (hj : ∀ j, j ∈ Js → j < z) : ∃ h', f_Weaver_closeBlock_181 P g = some h' ∧ CRw P fs h' (aiL L z Js) z ∧ mv_i h' = mv_i g ∧ mv_a h' = mv_a g := by
  obtain ⟨h', e2, R2, i2, a2⟩ := aall_K R hJ hj
  refine ⟨h', ?_, R2, i2, a2⟩
  unfold f_Weaver_closeBlock_181
  rw [eb, xvi_n (show b < 61 by omega) (by decide), cond_true, cln (by omega), e29, aimn, xhv_s, eb, xvi_n (show b < 61 by omega) (by decide), cond_true, cln (by omega), e2, xhv_s]
end C181
