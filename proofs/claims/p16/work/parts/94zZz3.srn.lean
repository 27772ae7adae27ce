/-! run, peek, poke of the shipped machine -/
/-- what a run leaves -/
def SRr (N : Nat) (R : Nat → Nat → Int64) (h h' : mv_H) (v : Int32) : Prop := v = nI (rnF rS N R).1 ∧ mv_i h' 70 14 = (rnF rS N R).2.1 ∧ RLs (rnF rS N R).2.2 h' ∧ mv_i h' 70 12 = mv_i h 70 12 + nI (rnF rS N R).1 ∧ mv_i h' 70 13 = (if (rnF rS N R).2.1 = 0 then mv_i h 70 13 else mv_i h 70 13 + 1)
theorem srun_lp {B N : Nat} {h0 : mv_H} {R0 : Nat → Nat → Int64} (hA : DAq) (hN : N ≤ 500) : ∀ (m j nn : Nat) (h : mv_H) (R : Nat → Nat → Int64), j + m = N → m < nn → SMw h0 h → RLs R h → ¬ mv_i h 70 11 = 0 → mv_i h 70 14 = 0 → mv_i h 70 12 = mv_i h0 70 12 + nI j → mv_i h 70 13 = mv_i h0 70 13 → mv_i h 70 2 = 0 → rnF rS N R0 = (j + (rnF rS m R).1, (rnF rS m R).2) → ∃ v h', f_Model_run_58 B nn (nI N) (nI j) h = some (v, h') ∧ SMw h0 h' ∧ SRr N R0 h0 h' v ∧ mv_i h' 70 2 = 0 := by
  intro m
  induction m with
  | zero =>
    intro j nn h R hj hn f L h11 h14 h12 h13 h2 e
    obtain ⟨nn, rfl⟩ : ∃ q, nn = q + 1 := ⟨nn - 1, by omega⟩
    obtain rfl : j = N := by omega
    show ∃ v h', fF_Model_run_58 B (f_Model_run_58 B nn) (nI j) (nI j) h = some (v, h') ∧ _
    unfold fF_Model_run_58
    rw [if_pos (Int32.le_refl _)]
    have e : rnF rS j R0 = (j, 0, R) := e
    refine ⟨_, h, rfl, f, ?_, h2⟩
    unfold SRr
    rw [e]
    exact ⟨rfl, h14, L, h12, by rw [if_pos rfl]; exact h13⟩
  | succ m ih =>
    intro j nn h R hj hn f L h11 h14 h12 h13 h2 e
    obtain ⟨nn, rfl⟩ : ∃ q, nn = q + 1 := ⟨nn - 1, by omega⟩
    show ∃ v h', fF_Model_run_58 B (f_Model_run_58 B nn) (nI N) (nI j) h = some (v, h') ∧ _
    unfold fF_Model_run_58
    obtain ⟨g, eg, fg, q⟩ := son_e (B := B) hA L h11
    rw [if_neg (fun z => by have := (nIle (by omega) (by omega)).mp z; omega), eg, xhv_s]
    rcases q with ⟨q1, q2, q3, q4, q5, q6⟩ | ⟨w, q1, q2, q3, q4, q5, q6⟩
    · rw [if_neg (by rw [q3]; decide)]
      rw [rnF_n q1] at e
      have e : rnF rS N R0 = (j, -1, R) := e
      refine ⟨_, g, rfl, f.tr fg, ?_, q6.trans h2⟩
      unfold SRr
      rw [e]
      rw [if_neg (show ¬ (-1 : Int32) = 0 by decide)] at q4 q5
      exact ⟨rfl, q3, q2, by rw [q4, h12], by rw [if_neg (show ¬ (-1 : Int32) = 0 by decide), q5, h13]⟩
    · rw [rnF_s q1] at e
      by_cases c : (stF rS w R).1 = 0
      · rw [if_pos c] at e q4 q5
        rw [if_pos (q3.trans c), nI1 (by omega)]
        refine ih (j + 1) nn g (stF rS w R).2 (by omega) (by omega) (f.tr fg) q2 (by rw [fg.2.2.1 70 11 (by omega)]; exact h11) (q3.trans c) ?_ (q5.trans h13) (q6.trans h2) ?_
        · rw [q4, h12, Int32.add_assoc, show (1 : Int32) = nI 1 from rfl, nIad (by omega)]
        · rw [e, show j + 1 + (rnF rS m (stF rS w R).2).1 = j + ((rnF rS m (stF rS w R).2).1 + 1) by omega]
      · rw [if_neg c] at e q4 q5
        rw [if_neg (fun z => c (q3.symm.trans z))]
        have e : rnF rS N R0 = (j, (stF rS w R).1, (stF rS w R).2) := e
        refine ⟨_, g, rfl, f.tr fg, ?_, q6.trans h2⟩
        unfold SRr
        rw [e]
        exact ⟨rfl, q3, q2, by rw [q4, h12], by rw [if_neg c, q5, h13]⟩
theorem srun_e {B N : Nat} {R : Nat → Nat → Int64} {h : mv_H} (hA : DAq) (L : RLs R h) (h11 : ¬ mv_i h 70 11 = 0) (hN : 0 < N) (hN5 : N ≤ 500) : ∃ v h', f_Model_run B h (nI N) = some (v, h') ∧ SMw h h' ∧ SRr N R h h' v ∧ mv_i h' 70 2 = 0 := by
  have f1 : SMw h (mv_si (mv_si h 70 2 0) 70 14 0) := ((SMw.rf h).si 0 (by omega)).si 0 (by omega)
  have i9 : ∀ k, ¬ k = 2 → ¬ k = 14 → mv_i (mv_si (mv_si h 70 2 0) 70 14 0) 70 k = mv_i h 70 k := fun k a b => (mv_si_o _ _ (by omega)).trans (mv_si_o _ _ (by omega))
  obtain ⟨v, h', e, q1, q2, q3⟩ := srun_lp (B := B) (h0 := h) (R0 := R) hA hN5 N 0 200000 (mv_si (mv_si h 70 2 0) 70 14 0) R (by omega) (by omega) f1 ((L.si (by decide)).si (by decide)) (by rw [i9 11 (by omega) (by omega)]; exact h11) (mv_si_s _ _ _ _) (by rw [i9 12 (by omega) (by omega), show nI 0 = (0 : Int32) from rfl, Int32.add_zero]) (i9 13 (by omega) (by omega)) ((mv_si_o _ _ (by omega)).trans (mv_si_s _ _ _ _)) (by rw [Nat.zero_add])
  refine ⟨v, h', ?_, q1, q2, q3⟩
  unfold f_Model_run f_Model_run_38 f_Model_run_39
  rw [if_neg (fun z => by have := (nIlt (a := N) (b := 1) (by omega) (by omega)).mp z; omega), if_pos (show nI N ≤ (500 : Int32) from (nIle (a := N) (b := 500) (by omega) (by omega)).mpr hN5), if_neg h11, xk_s, show mv_i (mv_si h 70 2 0) 70 2 = 0 from mv_si_s _ _ _ _, if_pos (by decide), xk_s]
  exact e
