/-! the reference's peek and poke -/
theorem th_n {B : Nat} {s : SI} {h : mv_H} {t i : Int32} (S : SRt B s h) (hl : s.tl.length ≤ 64) (hc : ∀ t, t < s.tl.length → (s.tl.getD t (0, 0, false)).2.1 ≤ 65536) (h11 : mv_i h 70 11 = 0) (q : THq B h t i) : ∃ tn n, t = nI tn ∧ i = nI n ∧ tn < s.tl.length ∧ n < ncT (s.tl.getD tn (0, 0, false)) := by
  obtain ⟨q1, q2, q3, q4⟩ := q
  unfold thM at q2
  rw [if_pos h11, S.2.1, nIi (by omega)] at q2
  have et : t = nI t.toInt.toNat := nI_o2 (by omega)
  have ei : i = nI i.toInt.toNat := nI_o2 (by omega)
  have ht : t.toInt.toNat < s.tl.length := by omega
  obtain ⟨-, -, w3, w4⟩ := S.2.2.2.2.2.2 _ ht
  have ec : t.toNatClampNeg = t.toInt.toNat := by have := i32_cl q1; omega
  have hb := hc _ ht
  refine ⟨_, _, et, ei, ht, ?_⟩
  unfold thN at q4
  rw [if_pos h11, ec] at q4
  unfold ncT
  by_cases z : (s.tl.getD t.toInt.toNat (0, 0, false)).2.1 = 0
  · rw [if_pos z]
    rw [if_pos (w4.mpr z)] at q4
    rcases q4 with ⟨-, q4⟩ | ⟨q4, -⟩
    · rw [q4]; decide
    · exact absurd rfl q4
  · rw [if_neg z]
    rw [if_neg (fun y => z (w4.mp y)), w3] at q4
    rcases q4 with ⟨q4, -⟩ | ⟨-, q4⟩
    · have := congrArg Int32.toInt q4
      rw [nIi (by omega)] at this
      have : ((s.tl.getD t.toInt.toNat (0, 0, false)).2.1 : Int) = 0 := this
      omega
    · rw [nIi (by omega)] at q4
      omega
section PKM
variable {B : Nat} {r : SI × LZ × List DnS} {h : mv_H} {R : Nat → Nat → Int64} {t i : Int32}
theorem RWb.tn (W : RWb B r h) (h11 : mv_i h 70 11 = 0) (q : THq B h t i) : ∃ tn n, t = nI tn ∧ i = nI n ∧ tn < r.1.tl.length ∧ n < ncT (r.1.tl.getD tn (0, 0, false)) := th_n W.1 W.2.2.2.1.2.2.1.2.2 (fun t ht => by have := W.2.2.2.1.c ht; omega) h11 q
theorem RWb.h17 (W : RWb B r h) : mv_i h 70 11 = 0 → (mv_i h B 17).toInt ≤ 4000 := fun _ => by
  have := W.2.2.2.1.2.2.1.2.2
  rw [W.1.2.1, nIi (by omega)]
  omega
/-- peek, of a book -/
theorem mpe_b (hB : B = 74 ∨ B = 108) (W : RWb B r h) (V : BVr B r h R) (h11 : mv_i h 70 11 = 0) : (¬ THq B h t i ∧ f_Model_peek B h t i = some (0, mv_si h 70 2 1)) ∨ (THq B h t i ∧ ∃ tn n, t = nI tn ∧ i = nI n ∧ tn < r.1.tl.length ∧ n < ncT (r.1.tl.getD tn (0, 0, false)) ∧ f_Model_peek B h t i = some (R tn n, mv_si h 70 2 0)) := by
  obtain ⟨b, e, q⟩ := ther_e (t := t) (i := i) W.h17
  unfold f_Model_peek
  rw [e, xhb_s]
  rcases q with ⟨b1, q⟩ | ⟨b0, q⟩
  · obtain ⟨tn, n, et, ei, ht, hi⟩ := W.tn h11 q
    have W0 : RWb B r (mv_si h 70 2 0) := W.ms hB ((MSf.rf h).si (by omega) 0)
    have V0 : BVr B r (mv_si h 70 2 0) R := fun t i ht hi => V t i ht hi
    refine Or.inr ⟨q, tn, n, et, ei, ht, hi, ?_⟩
    rw [b1, if_neg (by decide)]
    unfold f_Model_peek_15
    rw [xk_s, mv_si_s, if_pos (by decide), if_pos (by rw [mv_si_o h _ (by omega)]; exact h11), et, ei, bpe_e W0 V0 ht hi, xhb_s]
  · refine Or.inl ⟨q, ?_⟩
    rw [b0, if_pos rfl]
    unfold f_Model_peek_15
    rw [xk_s, mv_si_s, if_neg (by decide)]
/-- poke, of a book -/
theorem mpo_b (hB : B = 74 ∨ B = 108) (W : RWb B r h) (V : BVr B r h R) (F : FTr r R) (h11 : mv_i h 70 11 = 0) (v : Int64) : (¬ THq B h t i ∧ f_Model_poke B h t i v = some (mv_si h 70 2 1)) ∨ (THq B h t i ∧ ∃ tn n h', t = nI tn ∧ i = nI n ∧ tn < r.1.tl.length ∧ n < ncT (r.1.tl.getD tn (0, 0, false)) ∧ f_Model_poke B h t i v = some h' ∧ BVr B r h' (wrT (eW r 0) tn n v R) ∧ FTr r (wrT (eW r 0) tn n v R) ∧ QFr B (mv_si h 70 2 0) h') := by
  obtain ⟨b, e, q⟩ := ther_e (t := t) (i := i) W.h17
  unfold f_Model_poke
  rw [e, xhb_s]
  rcases q with ⟨b1, q⟩ | ⟨b0, q⟩
  · obtain ⟨tn, n, et, ei, ht, hi⟩ := W.tn h11 q
    have W0 : RWb B r (mv_si h 70 2 0) := W.ms hB ((MSf.rf h).si (by omega) 0)
    have V0 : BVr B r (mv_si h 70 2 0) R := fun t i ht hi => V t i ht hi
    obtain ⟨h', e2, V2, F2, Q2⟩ := bpk_e W0 V0 F ht hi v
    refine Or.inr ⟨q, tn, n, h', et, ei, ht, hi, ?_, V2, F2, Q2⟩
    rw [b1, if_neg (by decide)]
    unfold f_Model_poke_15
    rw [xk_s, mv_si_s, if_pos (by decide), if_pos (by rw [mv_si_o h _ (by omega)]; exact h11), et, ei, e2, xhv_s]
  · refine Or.inl ⟨q, ?_⟩
    rw [b0, if_pos rfl]
    unfold f_Model_poke_15
    rw [xk_s, mv_si_s, if_neg (by decide)]
end PKM
