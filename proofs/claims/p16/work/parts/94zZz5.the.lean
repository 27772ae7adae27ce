/-! whether a place is there -/
theorem th30 {B : Nat} {h : mv_H} : f_Model_there_30 B h = some (0, h) := rfl
theorem th70 {B : Nat} {h : mv_H} {i c : Int32} (h0 : 0 ≤ i.toInt) : ∃ b, f_Model_there_70 B i c h = some (b, h) ∧ ((b = 1 ∧ ((c = 0 ∧ i = 0) ∨ (¬ c = 0 ∧ i.toInt < c.toInt))) ∨ (b = 0 ∧ ¬ ((c = 0 ∧ i = 0) ∨ (¬ c = 0 ∧ i.toInt < c.toInt)))) := by
  unfold f_Model_there_70
  by_cases a : c = 0
  · rw [if_pos a]
    by_cases b : i = 0
    · rw [if_pos b]
      exact ⟨1, rfl, Or.inl ⟨rfl, Or.inl ⟨a, b⟩⟩⟩
    · rw [if_neg b]
      exact ⟨0, rfl, Or.inr ⟨rfl, fun q => q.elim (fun z => b z.2) (fun z => z.1 a)⟩⟩
  · rw [if_neg a]
    by_cases b : c ≤ i
    · rw [if_pos b]
      have b := Int32.le_iff_toInt_le.mp b
      exact ⟨0, rfl, Or.inr ⟨rfl, fun q => q.elim (fun z => a z.1) (fun z => by have := z.2; omega)⟩⟩
    · rw [if_neg b]
      have b := mt Int32.le_iff_toInt_le.mpr b
      exact ⟨1, rfl, Or.inl ⟨rfl, Or.inr ⟨a, by omega⟩⟩⟩
theorem ther_e {B : Nat} {h : mv_H} {t i : Int32} (h17 : mv_i h 70 11 = 0 → (mv_i h B 17).toInt ≤ 4000) : ∃ b, f_Model_there B h t i = some (b, h) ∧ ((b = 1 ∧ THq B h t i) ∨ (b = 0 ∧ ¬ THq B h t i)) := by
  unfold f_Model_there
  by_cases a : t < 0
  · have a' : t.toInt < 0 := Int32.lt_iff_toInt_lt.mp a
    rw [if_pos a, th30]
    exact ⟨0, rfl, Or.inr ⟨rfl, fun q => by have := q.1; omega⟩⟩
  have a' : ¬ t.toInt < 0 := fun q => a (Int32.lt_iff_toInt_lt.mpr q)
  have key : ∀ n : Int32, thM B h = n → ∃ b, f_Model_there_23 B t i n t h = some (b, h) ∧ ((b = 1 ∧ THq B h t i) ∨ (b = 0 ∧ ¬ THq B h t i)) := fun n hn => by
    unfold f_Model_there_23
    by_cases b : n ≤ t
    · have b' := Int32.le_iff_toInt_le.mp b
      rw [if_pos b, th30]
      exact ⟨0, rfl, Or.inr ⟨rfl, fun q => by have := q.2.1; rw [hn] at this; omega⟩⟩
    have b' : ¬ n.toInt ≤ t.toInt := fun q => b (Int32.le_iff_toInt_le.mpr q)
    rw [if_neg b]
    by_cases c : (0 : Int32) ≤ i
    rotate_left
    · have c' : ¬ (0 : Int) ≤ i.toInt := fun q => c (Int32.le_iff_toInt_le.mpr q)
      rw [if_neg c, th30]
      exact ⟨0, rfl, Or.inr ⟨rfl, fun q => c' q.2.2.1⟩⟩
    have c' : (0 : Int) ≤ i.toInt := Int32.le_iff_toInt_le.mp c
    rw [if_pos c]
    have fin : ∀ m : Int32, thN B h t = m → ∃ b, f_Model_there_70 B i m h = some (b, h) ∧ ((b = 1 ∧ THq B h t i) ∨ (b = 0 ∧ ¬ THq B h t i)) := fun m hm => by
      obtain ⟨b, e, q⟩ := th70 (B := B) (h := h) (i := i) (c := m) c'
      refine ⟨b, e, q.imp (fun z => ⟨z.1, ?_⟩) (fun z => ⟨z.1, fun y => ?_⟩)⟩
      · unfold THq HSq
        rw [hn, hm]
        exact ⟨by omega, by omega, c', z.2⟩
      · unfold THq HSq at y
        rw [hm] at y
        exact z.2 y.2.2.2
    by_cases d : mv_i h 70 11 = 0
    · rw [if_pos d]
      have d17 := h17 d
      have e17 : n = mv_i h B 17 := by
        rw [← hn]
        unfold thM
        rw [if_pos d]
      have tc := i32_cl (x := t) (by omega)
      have xv : xvi t 4100 = true := xvi_in.mpr (i32_in (by omega) (by rw [e17] at b'; omega))
      unfold f_Book_cellsOf
      rw [xv, cond_true]
      by_cases y : mv_a h (B + 6) t.toNatClampNeg = 0
      · rw [if_pos y, xhb_s]
        exact fin 0 (by unfold thN; rw [if_pos d, if_pos y])
      · rw [if_neg y, cond_true, xhb_s]
        exact fin _ (by unfold thN; rw [if_pos d, if_neg y])
    · rw [if_neg d]
      by_cases y : t = 0
      · rw [if_pos y]
        exact fin 0 (by unfold thN; rw [if_neg d, if_pos y])
      · rw [if_neg y]
        by_cases y1 : t = 1
        · rw [if_pos y1]
          exact fin 32 (by unfold thN; rw [if_neg d, if_neg y, if_pos y1])
        · rw [if_neg y1]
          exact fin 32768 (by unfold thN; rw [if_neg d, if_neg y, if_neg y1])
  rw [if_neg a]
  by_cases d : mv_i h 70 11 = 0
  · rw [if_pos d]
    exact key _ (by unfold thM; rw [if_pos d])
  · rw [if_neg d]
    exact key 3 (by unfold thM; rw [if_neg d])
