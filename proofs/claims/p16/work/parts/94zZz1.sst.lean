/-! a STEP of the shipped machine -/
theorem dcv_S {σ : mv_H} (h : SHP σ) (h48 : mv_i σ 145 10 = 48) (w : Int64) : dcV rS.1 w = sOv w.toInt32 ∧ DCs rS.1 w (sOv w.toInt32) := by
  have sp := h.sp h48
  have ex : ∃ v, DCs rS.1 w v := by
    by_cases c : ∃ a, a < rS.1.ops.length ∧ MtS rS.1 w a
    · obtain ⟨a, a1, a2⟩ := c
      exact ⟨nI a, Or.inr ⟨a, a1, rfl, a2⟩⟩
    · exact ⟨-1, Or.inl ⟨rfl, fun a ha hm => c ⟨a, ha, hm⟩⟩⟩
  have d : DCs rS.1 w (dcV rS.1 w) := Classical.epsilon_spec (p := fun v => DCs rS.1 w v) ex
  have e : (mv_i σ 145 10).toInt = rS.1.ops.length := by
    rw [h48]
    show (48 : Int) = (opS.length : Int)
    rw [opS_48]
    rfl
  have q : DCq 145 σ w (dcV rS.1 w) := by
    rcases d with ⟨d1, d2⟩ | ⟨a, a1, a2, a3⟩
    · exact Or.inl ⟨d1, fun a ha hm => d2 a (by omega) ((MtO.s sp (by omega)).mp hm)⟩
    · exact Or.inr ⟨a, by omega, a2, (MtO.s sp a1).mpr a3⟩
  have r := sh_dc h.2.1.1.2.1 h48 q
  exact ⟨r, by rw [← r]; exact d⟩
theorem RLs.si {R : Nat → Nat → Int64} {h : mv_H} {k : Nat} {x : Int32} (L : RLs R h) (hk : ¬ k = 6) : RLs R (mv_si h 70 k x) := by
  obtain ⟨l1, l2, l3, l4⟩ := L
  exact ⟨by rw [mv_si_o h x (by omega)]; exact l1, l2, l3, l4⟩
/-- what a STEP of the shipped machine may change -/
def SMw (h h' : mv_H) : Prop := mv_l h' = mv_l h ∧ mv_r h' = mv_r h ∧ (∀ o k, ¬ (o = 70 ∧ (k = 2 ∨ k = 6 ∨ k = 12 ∨ k = 13 ∨ k = 14)) → mv_i h' o k = mv_i h o k) ∧ (∀ o, ¬ (o = 72 ∨ o = 73) → mv_a h' o = mv_a h o) ∧ mv_b h' = mv_b h
theorem SMw.rf (h : mv_H) : SMw h h := ⟨rfl, rfl, fun _ _ _ => rfl, fun _ _ => rfl, rfl⟩
theorem SMw.tr {h g f : mv_H} (a : SMw h g) (b : SMw g f) : SMw h f := ⟨b.1.trans a.1, b.2.1.trans a.2.1, fun o k q => (b.2.2.1 o k q).trans (a.2.2.1 o k q), fun o q => (b.2.2.2.1 o q).trans (a.2.2.2.1 o q), b.2.2.2.2.trans a.2.2.2.2⟩
theorem SFs.w {h g : mv_H} (a : SFs h g) : SMw h g := ⟨a.1, a.2.1, fun o k q => a.2.2.1 o k (by omega), a.2.2.2.1, a.2.2.2.2⟩
theorem SMw.si {h g : mv_H} {k : Nat} (a : SMw h g) (x : Int32) (hk : k = 2 ∨ k = 6 ∨ k = 12 ∨ k = 13 ∨ k = 14) : SMw h (mv_si g 70 k x) := a.tr ⟨rfl, rfl, fun o k' q => mv_si_o g x (by omega), fun _ _ => rfl, rfl⟩
/-- the reference has been told x -/
def TDq (x : Int32) (h h' : mv_H) : Prop := mv_i h' 70 14 = x ∧ mv_i h' 70 12 = (if x = 0 then mv_i h 70 12 + 1 else mv_i h 70 12) ∧ mv_i h' 70 13 = (if x = 0 then mv_i h 70 13 else mv_i h 70 13 + 1) ∧ mv_i h' 70 2 = mv_i h 70 2
theorem tod_e {B : Nat} {R : Nat → Nat → Int64} {h : mv_H} (x : Int32) (L : RLs R h) : ∃ h', f_Model_told B h x = some h' ∧ SMw h h' ∧ RLs R h' ∧ TDq x h h' := by
  unfold f_Model_told
  rw [xk_s]
  by_cases c : x = 0
  · rw [if_pos c, xk_s]
    refine ⟨_, rfl, ((SMw.rf h).si _ (by omega)).si _ (by omega), (L.si (by decide)).si (by decide), ?_, ?_, ?_, ?_⟩
    · exact (mv_si_o _ _ (by omega)).trans (mv_si_s _ _ _ _)
    · rw [if_pos c, mv_si_s, mv_si_o _ _ (by omega)]
    · rw [if_pos c, mv_si_o _ _ (by omega), mv_si_o _ _ (by omega)]
    · rw [mv_si_o _ _ (by omega), mv_si_o _ _ (by omega)]
  · rw [if_neg c, xk_s]
    refine ⟨_, rfl, ((SMw.rf h).si _ (by omega)).si _ (by omega), (L.si (by decide)).si (by decide), ?_, ?_, ?_, ?_⟩
    · exact (mv_si_o _ _ (by omega)).trans (mv_si_s _ _ _ _)
    · rw [if_neg c, mv_si_o _ _ (by omega), mv_si_o _ _ (by omega)]
    · rw [if_neg c, mv_si_s, mv_si_o _ _ (by omega)]
    · rw [mv_si_o _ _ (by omega), mv_si_o _ _ (by omega)]
/-- whatever the word is -/
theorem ssx_e {P : Nat} {R : Nat → Nat → Int64} {h : mv_H} {w : Int64} (L : RLs R h) (hd : dcV rS.1 w = sOv w.toInt32) (hD : DCs rS.1 w (sOv w.toInt32)) : SSx P w h (stF rS w R).1 (stF rS w R).2 := by
  rcases hD with ⟨q, -⟩ | ⟨k, k1, k2, -⟩
  · have e := stF_n (R := R) (hd.trans q) (by decide)
    rw [e]
    have l1 : WNd w 15 5 < 32 := WNd_lt w 15 5
    have l2 : WNd w 20 5 < 32 := WNd_lt w 20 5
    refine ⟨h, ?_, L, SFs.rf h⟩
    unfold f_Model_shippedStep
    rw [so_ok, xhb_s, pie_11_7, xhb_s, pie_19_15, xhb_s, xvi_n l1 (by decide), cond_true, pie_24_20, xhb_s, xvi_n l2 (by decide), cond_true, q, if_neg (by decide)]
  · have k1 : k < opS.length := k1
    rw [opS_48] at k1
    exact opSx k k1 P L k2 (hd.trans k2)
theorem sst_e {B : Nat} {R : Nat → Nat → Int64} {h : mv_H} {w : Int64} (L : RLs R h) (hd : dcV rS.1 w = sOv w.toInt32) (hD : DCs rS.1 w (sOv w.toInt32)) (h11 : ¬ mv_i h 70 11 = 0) : ∃ h', f_Model_step B h w = some ((stF rS w R).1, h') ∧ SMw h h' ∧ RLs (stF rS w R).2 h' ∧ TDq (stF rS w R).1 (mv_si h 70 2 0) h' := by
  have L0 : RLs R (mv_si (mv_si h 70 2 0) 70 2 0) := (L.si (by decide)).si (by decide)
  obtain ⟨g, e, Lg, F⟩ := ssx_e (P := B) L0 hd hD
  obtain ⟨h', e2, F2, L2, T2⟩ := tod_e (B := B) (stF rS w R).1 Lg
  have i11 : ¬ mv_i (mv_si (mv_si h 70 2 0) 70 2 0) 70 11 = 0 := by rw [mv_si_o _ _ (by omega), mv_si_o _ _ (by omega)]; exact h11
  have gi : ∀ k, ¬ k = 6 → mv_i g 70 k = mv_i (mv_si h 70 2 0) 70 k := fun k hk => by
    rw [F.2.2.1 70 k (by omega)]
    by_cases c : k = 2
    · rw [c, mv_si_s, mv_si_s]
    · rw [mv_si_o _ _ (by omega)]
  refine ⟨h', ?_, (((SMw.rf h).si _ (by omega)).si _ (by omega)).tr (F.w.tr F2), L2, ?_⟩
  · unfold f_Model_step f_Model_decode f_Model_step_36
    rw [xk_s, xk_s, if_neg i11, so_ok, xhb_s, xhb_s, if_neg i11, e, xhb_s, e2, xhv_s, T2.1]
    by_cases c : (0 : Int32) ≤ sOv w.toInt32
    · rw [if_pos c]
    · rw [if_neg c, stF_n (R := R) hd (Int32.not_le.mp c)]
  · obtain ⟨t1, t2, t3, t4⟩ := T2
    exact ⟨t1, by rw [t2, gi 12 (by decide)], by rw [t3, gi 13 (by decide)], by rw [t4, gi 2 (by decide)]⟩
