/-! a FIELD fits -/
theorem rk_mk {f : Nat → Bool} {L : Nat} (hL : L ≤ 64) : rk (nJ (mkN f L)).toBitVec 64 = cnF f L := by
  have hb : ∀ i, i < 64 → (nJ (mkN f L)).toBitVec.getLsbD i = (decide (i < L) && f (L - 1 - i)) := fun i hi => by
    have e : (nJ (mkN f L)).toBitVec = BitVec.ofNat 64 (mkN f L) := rfl
    rw [e, BitVec.getLsbD_ofNat, mkN_t, decide_eq_true hi, Bool.true_and]
  have h1 : ∀ k, k ≤ L → rk (nJ (mkN f L)).toBitVec k + cnF f (L - k) = cnF f L := by
    intro k
    induction k with
    | zero => intro _; show 0 + cnF f (L - 0) = _; rw [Nat.zero_add, Nat.sub_zero]
    | succ k ih =>
      intro hk
      have I := ih (by omega)
      have e1 : L - k = (L - (k + 1)) + 1 := by omega
      rw [e1] at I
      have e2 : cnF f (L - (k + 1) + 1) = cnF f (L - (k + 1)) + (if f (L - (k + 1)) = true then 1 else 0) := rfl
      rw [e2] at I
      show rk (nJ (mkN f L)).toBitVec k + (if (nJ (mkN f L)).toBitVec.getLsbD k = true then 1 else 0) + _ = _
      rw [hb k (by omega), decide_eq_true (show k < L by omega), Bool.true_and, show L - 1 - k = L - (k + 1) by omega]
      omega
  have h2 : ∀ j, L + j ≤ 64 → rk (nJ (mkN f L)).toBitVec (L + j) = cnF f L := by
    intro j
    induction j with
    | zero =>
      intro _
      have := h1 L (Nat.le_refl _)
      rw [Nat.sub_self] at this
      exact this
    | succ j ih =>
      intro hj
      show rk (nJ (mkN f L)).toBitVec (L + j) + (if (nJ (mkN f L)).toBitVec.getLsbD (L + j) = true then 1 else 0) = _
      rw [hb (L + j) (by omega), decide_eq_false (show ¬ L + j < L by omega), Bool.false_and, if_neg (by decide), ih (by omega), Nat.add_zero]
  have := h2 (64 - L) (by omega)
  rw [show L + (64 - L) = 64 by omega] at this
  exact this
theorem rk_C {C : List Nat} (c : Nat) (hC : C.length ≤ 64) : rk (nJ (mskC C c)).toBitVec 64 = cntL c C := by
  unfold mskC
  rw [rk_mk hC]
  have e : (fun i => decide (C.getD i 0 = c)) = fun i => (fun x => Nat.beq x c) (C.getD i 0) := by
    funext i
    show decide (C.getD i 0 = c) = Nat.beq (C.getD i 0) c
    by_cases q : C.getD i 0 = c
    · rw [decide_eq_true q, q, Nat.beq_refl]
    · rw [decide_eq_false q, nbq q]
  rw [e]
  exact cnF_l (fun x => Nat.beq x c) C
theorem fld_ft {C : List Nat} (c : Nat) (hC : C.length ≤ 64) (w : Int64) : FTq (cntL c C) (gatV w (nJ (mskC C c))) := by
  have := (ga_GA w (nJ (mskC C c))).lt
  rw [rk_C c hC] at this
  exact this
