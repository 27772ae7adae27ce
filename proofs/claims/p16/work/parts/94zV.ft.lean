/-! worths fit -/
theorem wPk8 {lo w : Nat} (hl : lo ≤ 64) (hw : w ≤ 64) : ((wPk lo w) >>> ((8 : Int32).toInt64 &&& 63)).toInt32 = nI w := by
  have : ∀ a : Fin 65, ∀ b : Fin 65, ((wPk a.val b.val) >>> ((8 : Int32).toInt64 &&& 63)).toInt32 = nI b.val := by decide +kernel
  exact this ⟨lo, by omega⟩ ⟨w, by omega⟩
theorem u1_ft {k w : Nat} (hw : w ≤ 64) (v : Int64) (hk : k = 305 ∨ k = 306 ∨ k = 307) : FTq w (u1 k (mkI (nI w)) v) := by
  unfold u1
  rcases hk with rfl | rfl | rfl
  · rw [if_pos rfl]; exact FTq.and _ hw
  · rw [if_neg (by decide), if_neg (by decide), if_neg (by decide)]; exact FTq.and _ hw
  · rw [if_neg (by decide), if_neg (by decide), if_neg (by decide)]; exact FTq.and _ hw
theorem u308_ft {lo w : Nat} (hl : lo ≤ 64) (hw : w ≤ 64) (v : Int64) : FTq w (u1 308 (wPk lo w) v) := by
  unfold u1
  rw [if_neg (by decide), if_pos rfl, wPk8 hl hw]; exact FTq.and _ hw
theorem u310_ft {lo w : Nat} (hl : lo ≤ 64) (hw : w ≤ 64) (v : Int64) : FTq w (u1 310 (wPk lo w) v) := by
  unfold u1
  rw [if_neg (by decide), if_neg (by decide), if_pos rfl, wPk8 hl hw]; exact FTq.and _ hw
theorem u309_ft {wl wr : Nat} {x y : Int64} (hl : 0 < wl) (hw : wl + wr ≤ 64) (fx : FTq wl x) (fy : FTq wr y) : FTq (wl + wr) (u2 309 (nJ wr) x y) := by
  unfold u2
  rw [if_pos rfl, nJi (by omega)]
  refine FTq.or ?_ (fy.le (by omega)) hw
  have e := xJ_shl x.toBitVec.toNat wr
  rw [nJ_bv] at e
  rw [e]
  unfold FTq yshl at *
  have e2 : (nJ ((x.toBitVec.toNat <<< (wr % 64)) % 18446744073709551616)).toBitVec.toNat = ((x.toBitVec.toNat <<< (wr % 64)) % 18446744073709551616) % 2 ^ 64 := by
    show (BitVec.ofNat 64 _).toNat = _
    rw [BitVec.toNat_ofNat]
  rw [e2, Nat.mod_eq_of_lt (show wr < 64 by omega), Nat.shiftLeft_eq]
  refine Nat.lt_of_le_of_lt (Nat.mod_le _ _) (Nat.lt_of_le_of_lt (Nat.mod_le _ _) ?_)
  rw [Nat.pow_add]
  exact Nat.mul_lt_mul_of_pos_right fx (Nat.two_pow_pos wr)
theorem ncl_p (e : E0q) (t : Nat) : 0 < ncl e t := by
  unfold ncl
  split <;> omega
theorem ncl_c {e : E0q} {t i : Nat} (h : i < (e.2 t).2.1) : i < ncl e t := by
  unfold ncl
  rw [if_neg (by omega)]
  exact h
/-- values and lets fit -/
def EWq (P : Nat) (h : mv_H) (T : Nat) (C LW : List Nat) (e : E0q) (l : Nat → Int64) (r : Nat → Nat → Int64) : Prop := (∀ t i w, t < T → i < ncl e t → mv_a h (P + 3) t = nI w → w ≤ 64 → FTq w (r t i)) ∧ (∀ i w, LW[i]? = some w → 0 < w → FTq w (l i)) ∧ ∀ c, c < 128 → 0 < cntL c C → FTq (cntL c C) (gatV e.1 (nJ (mskC C c)))
theorem jn_ft {e : E0q} {l : Nat → Int64} {r : Nat → Nat → Int64} : ∀ (L : List (Nat × Nat × DnE)) (w : Nat) (D : DnE) (w' : Nat) (D' : DnE), joinL L w D = (w', D') → w' ≤ 64 → 0 < w → (∀ v, D e l r = some v → FTq w v) → (∀ q, q ∈ L → ∀ v, q.2.2 e l r = some v → FTq q.2.1 v) → w ≤ w' ∧ ∀ v, D' e l r = some v → FTq w' v := by
  intro L
  induction L with
  | nil =>
    intro w D w' D' ej hw h0 hD _
    have ej : (w, D) = (w', D') := ej
    cases ej
    exact ⟨Nat.le_refl _, hD⟩
  | cons p L ih =>
    intro w D w' D' ej hw h0 hD hL
    have ej : joinL L (w + p.2.1) (d2 309 (nJ p.2.1) D p.2.2) = (w', D') := ej
    have hle : w + p.2.1 ≤ w' := by
      have mono : ∀ (M : List (Nat × Nat × DnE)) (a : Nat) (A : DnE), a ≤ (joinL M a A).1 := by
        intro M
        induction M with
        | nil => intro a A; exact Nat.le_refl _
        | cons m M ihM => intro a A; exact Nat.le_trans (Nat.le_add_right a m.2.1) (ihM _ _)
      have := mono L (w + p.2.1) (d2 309 (nJ p.2.1) D p.2.2)
      rw [ej] at this
      exact this
    have st : ∀ v, d2 309 (nJ p.2.1) D p.2.2 e l r = some v → FTq (w + p.2.1) v := fun v hv => by
      unfold d2 at hv
      obtain ⟨a, ha, hv⟩ := obn hv
      obtain ⟨b, hb, hv⟩ := obn hv
      obtain rfl := Option.some.inj hv
      exact u309_ft h0 (by omega) (hD a ha) (hL p (List.mem_cons_self ..) b hb)
    have := ih (w + p.2.1) _ w' D' ej hw (by omega) st (fun q hq => hL q (List.mem_cons_of_mem _ hq))
    exact ⟨by omega, this.2⟩
theorem ND.ft {P : Nat} {h : mv_H} {T lo : Nat} {C LW : List Nat} {e : E0q} {l : Nat → Int64} {r : Nat → Nat → Int64} (E : EWq P h T C LW e l r) : ∀ {n rr x w : Nat} {D : DnE}, ND P h T lo C LW n rr x w D → ∀ v, D e l r = some v → FTq w v := by
  intro n
  induction n with
  | zero => intro rr x w D N; exact N.elim
  | succ n ih =>
    intro rr x w D N v hv
    obtain ⟨⟨n1, n2, n3, n4, n5⟩, N⟩ := N
    rcases N with N | N | N | N | N | N | N | N | N | N | N | N
    · obtain ⟨-, a2, rfl⟩ := N
      obtain rfl := Option.some.inj hv
      exact a2
    · obtain ⟨t, a1, a2, a3, b3, rfl, a5, a6⟩ := N
      obtain rfl := Option.some.inj hv
      exact E.1 t 0 w b3 (ncl_p e t) a5 n3
    · obtain ⟨t, y, wy, Dy, a1, a2, a3, b3, a4, a5, a6, rfl, a8, a9⟩ := N
      unfold dCel at hv
      obtain ⟨i, hi, hv⟩ := obn hv
      by_cases q : i.toBitVec.toNat < (e.2 t).2.1
      · rw [if_pos q] at hv
        obtain rfl := Option.some.inj hv
        exact E.1 t _ w b3 (ncl_c q) a8 n3
      · rw [if_neg q] at hv; cases hv
    · obtain ⟨c, a1, a2, a3, rfl, a5⟩ := N
      obtain rfl := Option.some.inj hv
      rw [a5]
      exact E.2.2 c a3 (by omega)
    · obtain ⟨i, a1, a2, a3, a4, rfl⟩ := N
      obtain rfl := Option.some.inj hv
      exact E.2.1 i w a4 n2
    · obtain ⟨y, Dy, k, a1, a2, a3, a4, a5, a6, rfl⟩ := N
      unfold d1 at hv
      obtain ⟨a, ha, hv⟩ := obn hv
      obtain rfl := Option.some.inj hv
      refine u1_ft n3 a ?_
      unfold sgK
      split
      · omega
      · split <;> omega
    · obtain ⟨y, z, wy, wz, Dy, Dz, ko, k, a1, a2, a3, a4, a5, a6, a7, a8, a9, a10, rfl⟩ := N
      unfold d2 at hv
      obtain ⟨a, ha, hv⟩ := obn hv
      obtain ⟨b, hb, hv⟩ := obn hv
      obtain rfl := Option.some.inj hv
      have hy : 0 < wy ∧ wy ≤ 64 := by
        cases n with
        | zero => exact a8.elim
        | succ n => exact ⟨a8.1.2.1, a8.1.2.2.1⟩
      obtain ⟨-, -, u, -, -, f⟩ := two_c 74 hZ a5 hy.1 hy.2 a10 (ih a8 a ha) (ih a9 b hb)
      exact f
    · obtain ⟨y, wy, Dy, hi, l0, a1, a2, a3, a4, a5, a6, a7, a8, rfl⟩ := N
      have hy : wy ≤ 64 := by
        cases n with
        | zero => exact a8.elim
        | succ n => exact a8.1.2.2.1
      unfold d1 at hv
      obtain ⟨a, ha, hv⟩ := obn hv
      obtain rfl := Option.some.inj hv
      exact u308_ft (by omega) n3 a
    · obtain ⟨y, z, u, Dy, Dz, Du, a1, a2, a3, a4, a5, a6, a7, a8, a9, a10, rfl⟩ := N
      unfold dCh at hv
      obtain ⟨c, hc, hv⟩ := obn hv
      by_cases q : c = 0
      · rw [if_pos q] at hv; exact ih a10 v hv
      · rw [if_neg q] at hv; exact ih a9 v hv
    · obtain ⟨p, L, a1, a2, a3, a4, a5⟩ := N
      have hp := (a4 p (List.mem_cons_self ..)).2
      have h0 : 0 < p.2.1 := by
        cases n with
        | zero => exact hp.elim
        | succ n => exact hp.1.2.1
      exact (jn_ft L p.2.1 p.2.2 w D a5 n3 h0 (fun v hv => ih hp v hv) (fun q hq v hv => ih (a4 q (List.mem_cons_of_mem _ hq)).2 v hv)).2 v hv
    · obtain ⟨y, wy, Dy, a1, a2, a3, a4, a5, rfl⟩ := N
      unfold d1 at hv
      obtain ⟨a, ha, hv⟩ := obn hv
      obtain rfl := Option.some.inj hv
      exact u310_ft (by omega) n3 a
    · obtain ⟨y, wy, a1, a2, a3, a4, a5⟩ := N
      exact (ih a5 v hv).le a4
