/-! poke and peek -/
/-- only the values change -/
def F6v (σ τ : mv_H) : Prop := mv_i τ = mv_i σ ∧ mv_l τ = mv_l σ ∧ mv_r τ = mv_r σ ∧ mv_a τ = mv_a σ ∧ ∀ o, ¬ o = 65 → mv_b τ o = mv_b σ o
theorem F6v.rf {σ : mv_H} : F6v σ σ := ⟨rfl, rfl, rfl, rfl, fun _ _ => rfl⟩
theorem F6v.sb {σ : mv_H} {k : Nat} {v : Int64} : F6v σ (mv_sb σ 65 k v) := ⟨rfl, rfl, rfl, rfl, fun o q => sbn q⟩
theorem put_V {P : Nat} {r : SI × LZ × List DnS} {σ : mv_H} {R : Nat → Nat → Int64} {t i : Nat} (K : KOx P r σ) (S : SPq P r.1 σ) (V : VLr r σ R) (ht : t < r.1.tl.length) (hi : i < ncT (r.1.tl.getD t (0, 0, false))) (v : Int64) : ∃ σ', f_Machine_put P σ (nI t) (nI i) v = some σ' ∧ VLr r σ' (wrT (eW r 0) t i v R) ∧ F6v σ σ' := by
  have B := tbw_K K S 0
  have e := put9 B ht hi v
  have key : ∀ t' i', t' < r.1.tl.length → i' < ncT (r.1.tl.getD t' (0, 0, false)) → (fsL r.1.tl t' + i' = fsL r.1.tl t + i ↔ t' = t ∧ i' = i) := fun t' i' h1 h2 => by
    refine ⟨fun q => ?_, fun q => by rw [q.1, q.2]⟩
    by_cases x1 : t' < t
    · have := (B.2 t' h1).2.2.2.2.2 t x1 ht
      rw [nclT] at this
      omega
    · by_cases x2 : t < t'
      · have := (B.2 t ht).2.2.2.2.2 t' x2 h1
        rw [nclT] at this
        omega
      · obtain rfl : t' = t := by omega
        exact ⟨rfl, by omega⟩
  by_cases z : ((eW r 0).2 t).2.2 = true ∧ i = 0
  · rw [if_pos z] at e
    refine ⟨_, e, ?_, F6v.rf⟩
    unfold wrT
    rw [if_pos z]
    exact V
  · rw [if_neg z] at e
    refine ⟨_, e, fun t' i' h1 h2 => ?_, F6v.sb⟩
    unfold wrT
    rw [if_neg z]
    show mv_b (mv_sb σ 65 (fsL r.1.tl t + i) (v &&& mkI (nI ((eW r 0).2 t).1))) 65 (fsL r.1.tl t' + i') = if t' = t ∧ i' = i then v &&& mkI (nI ((eW r 0).2 t).1) else R t' i'
    by_cases c : t' = t ∧ i' = i
    · rw [if_pos c, c.1, c.2]
      exact mv_u_same (mv_b σ) 65 _ _
    · rw [if_neg c, sbn9 σ _ (fun q => c ((key t' i' h1 h2).mp q.2))]
      exact V t' i' h1 h2
theorem FTr.wr {r : SI × LZ × List DnS} {R : Nat → Nat → Int64} (F : FTr r R) (hw : ∀ t, t < r.1.tl.length → (r.1.tl.getD t (0, 0, false)).1 ≤ 64) (t i : Nat) (v : Int64) : FTr r (wrT (eW r 0) t i v R) := fun t' i' h1 h2 => by
  unfold wrT
  by_cases z : ((eW r 0).2 t).2.2 = true ∧ i = 0
  · rw [if_pos z]; exact F t' i' h1 h2
  · rw [if_neg z]
    show FTq (r.1.tl.getD t' (0, 0, false)).1 (if t' = t ∧ i' = i then v &&& mkI (nI ((eW r 0).2 t).1) else R t' i')
    by_cases c : t' = t ∧ i' = i
    · rw [if_pos c, c.1]
      rw [c.1] at h1
      exact FTq.and v (hw t h1)
    · rw [if_neg c]; exact F t' i' h1 h2
theorem QFr.sb27 {B k : Nat} {h : mv_H} {v : Int64} : QFr B h (mv_sb h (B + 27) k v) := ⟨rfl, fun _ _ _ => rfl, fun _ _ _ => rfl, fun _ _ => rfl, fun o q => sbn (by omega)⟩
theorem QFr.sb28 {B k : Nat} {h : mv_H} {v : Int64} : QFr B h (mv_sb h (B + 28) k v) := ⟨rfl, fun _ _ _ => rfl, fun _ _ _ => rfl, fun _ _ => rfl, fun o q => sbn (by omega)⟩
theorem QFr.rf9 {B : Nat} {h : mv_H} : QFr B h h := ⟨rfl, fun _ _ _ => rfl, fun _ _ _ => rfl, fun _ _ => rfl, fun _ _ => rfl⟩
section BPK
variable {B : Nat} {r : SI × LZ × List DnS} {h : mv_H} {R : Nat → Nat → Int64} {t i : Nat}
theorem bpk_e (W : RWb B r h) (V : BVr B r h R) (F : FTr r R) (ht : t < r.1.tl.length) (hi : i < ncT (r.1.tl.getD t (0, 0, false))) (v : Int64) : ∃ h', f_Book_poke B h (nI t) (nI i) v = some h' ∧ BVr B r h' (wrT (eW r 0) t i v R) ∧ FTr r (wrT (eW r 0) t i v R) ∧ QFr B h h' := by
  obtain ⟨TB9, AT9⟩ := W.tb 0
  have hT := TB9.1
  obtain ⟨c4, c4b, c6, -, ⟨c3, c3b⟩, c7, c8⟩ := TB9.2 t ht
  obtain ⟨a1, a2, -⟩ := AT9 t ht
  have hF := F.wr (fun t h1 => (TB9.2 t h1).2.2.2.2.1.2) t i v
  have row6 : ∀ t', t' < r.1.tl.length → (mv_a h (B + 6) t' = 0 ↔ (r.1.tl.getD t' (0, 0, false)).2.1 = 0) := fun t' h1 => (TB9.2 t' h1).2.2.1
  unfold f_Book_poke
  rw [xvi_n (show t < 4100 by omega) (by decide), cond_true, cln (by omega)]
  by_cases z : (r.1.tl.getD t (0, 0, false)).2.1 = 0
  · have hi0 : i = 0 := by
      unfold ncT at hi
      rw [if_pos z] at hi
      omega
    have nz : ¬ (((eW r 0).2 t).2.2 = true ∧ i = 0) := fun q => by
      rw [c8 z] at q
      exact absurd q.1 (by decide)
    rw [if_pos (c6.mpr z), cond_true, c3, cutW _ _ c3b, xhb_s, cond_true, xk_s]
    refine ⟨_, rfl, fun t' i' h1 h2 => ?_, hF, QFr.sb27⟩
    unfold wrT
    rw [if_neg nz]
    show bsV B (mv_sb h (B + 27) t (v &&& mkI (nI ((eW r 0).2 t).1))) t' i' = if t' = t ∧ i' = i then v &&& mkI (nI ((eW r 0).2 t).1) else R t' i'
    have hv := V t' i' h1 h2
    unfold bsV at hv ⊢
    rw [show mv_a (mv_sb h (B + 27) t (v &&& mkI (nI ((eW r 0).2 t).1))) = mv_a h from rfl, sbn (show ¬ B + 28 = B + 27 by omega)]
    by_cases y : mv_a h (B + 6) t' = 0
    · rw [if_pos y] at hv ⊢
      have i0 : i' = 0 := by
        unfold ncT at h2
        rw [if_pos ((row6 t' h1).mp y)] at h2
        omega
      by_cases c : t' = t
      · rw [if_pos ⟨c, by omega⟩, c]
        exact mv_u_same (mv_b h) (B + 27) t _
      · rw [if_neg (fun q => c q.1), sbn9 h _ (fun q => c q.2)]
        exact hv
    · rw [if_neg y] at hv ⊢
      rw [if_neg (fun q => y (by rw [q.1]; exact c6.mpr z))]
      exact hv
  · have hi0 : i < (r.1.tl.getD t (0, 0, false)).2.1 := by
      unfold ncT at hi
      rw [if_neg z] at hi
      exact hi
    have a2 : atL r.1.tl t + (r.1.tl.getD t (0, 0, false)).2.1 ≤ 65536 := a2
    have e41 : f_Book_poke_41 B (nI t) (nI i) v h = some (mv_sb h (B + 28) (atL r.1.tl t + i) (v &&& mkI (nI ((eW r 0).2 t).1))) := by
      unfold f_Book_poke_41
      rw [xvi_n (show t < 4100 by omega) (by decide), cond_true, cond_true, cln (by omega), c3, cutW _ _ c3b, xhb_s, a1, nIad (by omega), xvi_n (show atL r.1.tl t + i < 65536 by omega) (by decide), cond_true, cln (by omega), xk_s]
    have key : ∀ t' i', t' < r.1.tl.length → i' < (r.1.tl.getD t' (0, 0, false)).2.1 → (atL r.1.tl t' + i' = atL r.1.tl t + i ↔ t' = t ∧ i' = i) := fun t' i' h1 h2 => by
      refine ⟨fun q => ?_, fun q => by rw [q.1, q.2]⟩
      by_cases x1 : t' < t
      · have : atL r.1.tl t' + (r.1.tl.getD t' (0, 0, false)).2.1 ≤ atL r.1.tl t := (AT9 t' h1).2.2 t x1 ht
        omega
      · by_cases x2 : t < t'
        · have : atL r.1.tl t + (r.1.tl.getD t (0, 0, false)).2.1 ≤ atL r.1.tl t' := (AT9 t ht).2.2 t' x2 h1
          omega
        · obtain rfl : t' = t := by omega
          exact ⟨rfl, by omega⟩
    have go : ¬ (((eW r 0).2 t).2.2 = true ∧ i = 0) → ∃ h', f_Book_poke_41 B (nI t) (nI i) v h = some h' ∧ BVr B r h' (wrT (eW r 0) t i v R) ∧ FTr r (wrT (eW r 0) t i v R) ∧ QFr B h h' := fun nz => by
      refine ⟨_, e41, fun t' i' h1 h2 => ?_, hF, QFr.sb28⟩
      unfold wrT
      rw [if_neg nz]
      show bsV B (mv_sb h (B + 28) (atL r.1.tl t + i) (v &&& mkI (nI ((eW r 0).2 t).1))) t' i' = if t' = t ∧ i' = i then v &&& mkI (nI ((eW r 0).2 t).1) else R t' i'
      have hv := V t' i' h1 h2
      unfold bsV at hv ⊢
      rw [show mv_a (mv_sb h (B + 28) (atL r.1.tl t + i) (v &&& mkI (nI ((eW r 0).2 t).1))) = mv_a h from rfl, sbn (show ¬ B + 27 = B + 28 by omega)]
      by_cases y : mv_a h (B + 6) t' = 0
      · rw [if_pos y] at hv ⊢
        rw [if_neg (fun q => z ((row6 t ht).mp (by rw [← q.1]; exact y)))]
        exact hv
      · rw [if_neg y] at hv ⊢
        have h3 : i' < (r.1.tl.getD t' (0, 0, false)).2.1 := by
          unfold ncT at h2
          rw [if_neg (fun q => y ((row6 t' h1).mpr q))] at h2
          exact h2
        rw [(AT9 t' h1).1] at hv ⊢
        have a3 : atL r.1.tl t' + (r.1.tl.getD t' (0, 0, false)).2.1 ≤ 65536 := (AT9 t' h1).2.1
        rw [cln (by omega)] at hv ⊢
        by_cases c : t' = t ∧ i' = i
        · rw [if_pos c, c.1, c.2]
          exact mv_u_same (mv_b h) (B + 28) _ _
        · rw [if_neg c, sbn9 h _ (fun q => c ((key t' i' h1 h3).mp q.2))]
          exact hv
    rw [if_neg (fun q => z (c6.mp q)), cond_true, c7]
    by_cases f : ((eW r 0).2 t).2.2 = true
    · rw [if_neg (by rw [f]; decide)]
      by_cases i0 : i = 0
      · rw [if_pos (show nI i ≤ (0 : Int32) by rw [i0]; decide)]
        refine ⟨h, rfl, ?_, hF, QFr.rf9⟩
        unfold wrT
        rw [if_pos ⟨f, i0⟩]
        exact V
      · rw [if_neg (fun q => by have := (nIle (b := 0) (by omega) (by omega)).mp q; omega)]
        exact go (fun q => i0 q.2)
    · have f' : ((eW r 0).2 t).2.2 = false := Bool.eq_false_iff.mpr f
      rw [if_pos (by rw [f']; rfl)]
      exact go (fun q => f q.1)
theorem bpe_e (W : RWb B r h) (V : BVr B r h R) (ht : t < r.1.tl.length) (hi : i < ncT (r.1.tl.getD t (0, 0, false))) : f_Book_peek B h (nI t) (nI i) = some (R t i, h) := by
  obtain ⟨TB9, AT9⟩ := W.tb 0
  have hT := TB9.1
  have c6 : mv_a h (B + 6) t = 0 ↔ (r.1.tl.getD t (0, 0, false)).2.1 = 0 := (TB9.2 t ht).2.2.1
  obtain ⟨a1, a2, -⟩ := AT9 t ht
  have a2 : atL r.1.tl t + (r.1.tl.getD t (0, 0, false)).2.1 ≤ 65536 := a2
  have hv := V t i ht hi
  unfold bsV at hv
  unfold f_Book_peek
  rw [xvi_n (show t < 4100 by omega) (by decide), cond_true, cln (by omega)]
  by_cases z : mv_a h (B + 6) t = 0
  · rw [if_pos z] at hv ⊢
    rw [cond_true, hv]
  · rw [if_neg z] at hv ⊢
    have hi0 : i < (r.1.tl.getD t (0, 0, false)).2.1 := by
      unfold ncT at hi
      rw [if_neg (fun q => z (c6.mpr q))] at hi
      exact hi
    rw [a1, cln (by omega)] at hv
    rw [cond_true, a1, nIad (by omega), xvi_n (show atL r.1.tl t + i < 65536 by omega) (by decide), cond_true, cln (by omega), hv]
end BPK
