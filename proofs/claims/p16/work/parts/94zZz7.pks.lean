/-! the reference's peek and poke of the shipped machine -/
theorem thS {B : Nat} {h : mv_H} {t i : Int32} (h11 : ¬ mv_i h 70 11 = 0) (q : THq B h t i) : (t = 0 ∧ i = 0) ∨ (t = 1 ∧ ∃ n, i = nI n ∧ n < 32) ∨ (t = 2 ∧ ∃ n, i = nI n ∧ n < 32768) := by
  obtain ⟨q1, q2, q3, q4⟩ := q
  unfold thM at q2
  rw [if_neg h11] at q2
  have q2 : t.toInt < 3 := q2
  unfold thN at q4
  rw [if_neg h11] at q4
  have ei : i = nI i.toInt.toNat := nI_o2 (by omega)
  rcases (show t.toInt = 0 ∨ t.toInt = 1 ∨ t.toInt = 2 by omega) with z | z | z
  · have e : t = 0 := Int32.toInt_inj.mp z
    rw [if_pos e] at q4
    rcases q4 with ⟨-, q4⟩ | ⟨q4, -⟩
    · exact Or.inl ⟨e, q4⟩
    · exact absurd rfl q4
  · have e : t = 1 := Int32.toInt_inj.mp z
    rw [e, if_neg (by decide), if_pos rfl] at q4
    rcases q4 with ⟨q4, -⟩ | ⟨-, q4⟩
    · exact absurd q4 (by decide)
    · have q4 : i.toInt < 32 := q4
      exact Or.inr (Or.inl ⟨e, _, ei, by omega⟩)
  · have e : t = 2 := Int32.toInt_inj.mp z
    rw [e, if_neg (by decide), if_neg (by decide)] at q4
    rcases q4 with ⟨q4, -⟩ | ⟨-, q4⟩
    · exact absurd q4 (by decide)
    · have q4 : i.toInt < 32768 := q4
      exact Or.inr (Or.inr ⟨e, _, ei, by omega⟩)
theorem mpe_s {B : Nat} {h : mv_H} {R : Nat → Nat → Int64} {t i : Int32} (L : RLs R h) (h11 : ¬ mv_i h 70 11 = 0) : (¬ THq B h t i ∧ f_Model_peek B h t i = some (0, mv_si h 70 2 1)) ∨ (THq B h t i ∧ ∃ tn n, t = nI tn ∧ i = nI n ∧ tn < rS.1.tl.length ∧ n < ncT (rS.1.tl.getD tn (0, 0, false)) ∧ f_Model_peek B h t i = some (R tn n, mv_si h 70 2 0)) := by
  obtain ⟨b, e, q⟩ := ther_e (B := B) (t := t) (i := i) (fun z => absurd z h11)
  unfold f_Model_peek
  rw [e, xhb_s]
  have i11 : ¬ mv_i (mv_si h 70 2 0) 70 11 = 0 := by rw [mv_si_o h _ (by omega)]; exact h11
  rcases q with ⟨b1, q⟩ | ⟨b0, q⟩
  · refine Or.inr ⟨q, ?_⟩
    rw [b1, if_neg (by decide)]
    unfold f_Model_peek_15
    rw [xk_s, mv_si_s, if_pos (by decide), if_neg i11]
    rcases thS h11 q with ⟨et, ei⟩ | ⟨et, n, ei, hn⟩ | ⟨et, n, ei, hn⟩
    · refine ⟨0, 0, et, ei, by decide, by decide, ?_⟩
      rw [if_pos et, mv_si_o h _ (by omega), pkx_0 L]
    · refine ⟨1, n, et, ei, by decide, hn, ?_⟩
      rw [et, ei, if_neg (by decide), if_pos rfl, xvi_n hn (by decide), cond_true, cln (by omega)]
      show some (((mv_a h 72 n).toInt64 &&& (4294967295 : Int64)), _) = _
      rw [pkx_1 L hn]
    · refine ⟨2, n, et, ei, by decide, hn, ?_⟩
      rw [et, ei, if_neg (by decide), if_neg (by decide), xvi_n hn (by decide), cond_true, cln (by omega)]
      show some ((mv_a h 73 n &&& (255 : Int32)).toInt64, _) = _
      rw [pkx_2 L hn]
  · refine Or.inl ⟨q, ?_⟩
    rw [b0, if_pos rfl]
    unfold f_Model_peek_15
    rw [xk_s, mv_si_s, if_neg (by decide)]
theorem mpo_s {B : Nat} {h : mv_H} {R : Nat → Nat → Int64} {t i : Int32} (L : RLs R h) (h11 : ¬ mv_i h 70 11 = 0) (v : Int64) : (¬ THq B h t i ∧ f_Model_poke B h t i v = some (mv_si h 70 2 1)) ∨ (THq B h t i ∧ ∃ tn n h', t = nI tn ∧ i = nI n ∧ tn < rS.1.tl.length ∧ n < ncT (rS.1.tl.getD tn (0, 0, false)) ∧ f_Model_poke B h t i v = some h' ∧ RLs (wrT (eW rS 0) tn n v R) h' ∧ SFs (mv_si h 70 2 0) h') := by
  obtain ⟨b, e, q⟩ := ther_e (B := B) (t := t) (i := i) (fun z => absurd z h11)
  unfold f_Model_poke
  rw [e, xhb_s]
  have i11 : ¬ mv_i (mv_si h 70 2 0) 70 11 = 0 := by rw [mv_si_o h _ (by omega)]; exact h11
  have L0 : RLs R (mv_si h 70 2 0) := L.si (by decide)
  rcases q with ⟨b1, q⟩ | ⟨b0, q⟩
  · refine Or.inr ⟨q, ?_⟩
    rw [b1, if_neg (by decide)]
    unfold f_Model_poke_15
    rw [xk_s, mv_si_s, if_pos (by decide), if_neg i11]
    rcases thS h11 q with ⟨et, ei⟩ | ⟨et, n, ei, hn⟩ | ⟨et, n, ei, hn⟩
    · refine ⟨0, 0, _, et, ei, by decide, by decide, ?_, pox_0 L0, SFs.pc _ _⟩
      rw [if_pos et, xk_s]
    · obtain ⟨h', e2, L2, F2⟩ := pox_1 (w := 0) (v := v) L0 hn B
      refine ⟨1, n, h', et, ei, by decide, hn, ?_, L2, F2⟩
      rw [et, ei, if_neg (by decide), if_pos rfl, e2, xhv_s]
    · refine ⟨2, n, _, et, ei, by decide, hn, ?_, pox_2 L0 hn, SFs.sa (Or.inr rfl)⟩
      rw [et, ei, if_neg (by decide), if_neg (by decide), xvi_n hn (by decide), cond_true, cln (by omega), xk_s]
  · refine Or.inl ⟨q, ?_⟩
    rw [b0, if_pos rfl]
    unfold f_Model_poke_15
    rw [xk_s, mv_si_s, if_neg (by decide)]
