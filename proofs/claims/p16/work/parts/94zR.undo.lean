/-! what was assigned is undone; the fetch register goes forth -/
/-- only row 65 of values has changed -/
def VFr (h h' : mv_H) : Prop := (∀ o k, mv_i h' o k = mv_i h o k) ∧ (∀ o, mv_a h' o = mv_a h o) ∧ (∀ o, ¬ o = 65 → mv_b h' o = mv_b h o) ∧ h'.2.1 = h.2.1 ∧ mv_r h' = mv_r h
theorem VFr.refl (h : mv_H) : VFr h h := ⟨fun _ _ => rfl, fun _ => rfl, fun _ _ => rfl, rfl, rfl⟩
theorem VFr.sb (h : mv_H) (k : Nat) (x : Int64) : VFr h (mv_sb h 65 k x) := ⟨fun _ _ => rfl, fun _ => rfl, fun o q => sbn q, rfl, rfl⟩
theorem VFr.trans {h g k : mv_H} (a : VFr h g) (b : VFr g k) : VFr h k := ⟨fun o i => (b.1 o i).trans (a.1 o i), fun o => (b.2.1 o).trans (a.2.1 o), fun o q => (b.2.2.1 o q).trans (a.2.2.1 o q), b.2.2.2.1.trans a.2.2.2.1, b.2.2.2.2.trans a.2.2.2.2⟩
theorem VFr.m {h h' : mv_H} (a : VFr h h') : MFw h h' := ⟨fun o i _ => a.1 o i, fun o _ => a.2.1 o, fun o q => a.2.2.1 o (fun z => q (Or.inl z)), a.2.2.2.1, a.2.2.2.2⟩
theorem und9 {P : Nat} : ∀ (u nn : Nat) (h : mv_H), u ≤ 8193 → u < nn → (∀ j, j < u → ∃ k, mv_a h 68 j = nI k ∧ k < 65600) → ∃ h', f_Machine_undo_7 P nn (nI u - 1) h = some h' ∧ mv_b h' 65 = rstV (mv_a h 68) (mv_b h 69) u (mv_b h 65) ∧ VFr h h' := by
  intro u
  induction u with
  | zero =>
    intro nn h _ hn _
    obtain ⟨nn, rfl⟩ : ∃ q, nn = q + 1 := ⟨nn - 1, by omega⟩
    refine ⟨h, ?_, rfl, VFr.refl h⟩
    show fF_Machine_undo_7 P (f_Machine_undo_7 P nn) (nI 0 - 1) h = _
    unfold fF_Machine_undo_7
    rw [if_pos (by decide)]
  | succ u ih =>
    intro nn h hu hn hs
    obtain ⟨nn, rfl⟩ : ∃ q, nn = q + 1 := ⟨nn - 1, by omega⟩
    obtain ⟨k, ek, hk⟩ := hs u (Nat.lt_succ_self _)
    obtain ⟨h', e1, e2, e3⟩ := ih nn (mv_sb h 65 k (mv_b h 69 u)) (by omega) (by omega) (fun j hj => hs j (by omega))
    refine ⟨h', ?_, ?_, (VFr.sb h k _).trans e3⟩
    · show fF_Machine_undo_7 P (f_Machine_undo_7 P nn) (nI (u + 1) - 1) h = _
      have e0 : nI (u + 1) - 1 = nI u := nIsub (a := u + 1) (b := 1) (by omega) (by omega)
      have n0 : ¬ nI u < 0 := fun q => by
        have := Int32.lt_iff_toInt_lt.mp q
        rw [nIi (by omega)] at this
        have : (u : Int) < 0 := this
        omega
      unfold fF_Machine_undo_7
      rw [e0, if_neg n0, xvi_n (by omega) (by decide), cln (by omega), ek, xvi_m hk (by decide), cln (by omega), nI_m1q]
      simp only [cond_true]
      rw [xk_s]
      exact e1
    · rw [e2]
      show rstV (mv_a h 68) (mv_b (mv_sb h 65 k (mv_b h 69 u)) 69) u (mv_b (mv_sb h 65 k (mv_b h 69 u)) 65) = rstV (mv_a h 68) (mv_b h 69) u (fun x => if x = (mv_a h 68 u).toNatClampNeg then mv_b h 69 u else mv_b h 65 x)
      have ea : mv_b (mv_sb h 65 k (mv_b h 69 u)) 69 = mv_b h 69 := sbn (by decide)
      have eb : mv_b (mv_sb h 65 k (mv_b h 69 u)) 65 = fun x => if x = (mv_a h 68 u).toNatClampNeg then mv_b h 69 u else mv_b h 65 x := by
        funext x
        rw [ek, cln (by omega)]
        by_cases q : x = k
        · rw [if_pos q, q]; exact mv_u_same (mv_b h) 65 k _
        · rw [if_neg q]; exact mv_u_ne (mv_b h) _ (fun y => q y.2)
      rw [ea, eb]
theorem undo9 {P : Nat} {h : mv_H} {v0 : Nat → Int64} {u : Nat} (U : UNw h v0 u) (hu : u ≤ 8193) : ∃ h', f_Machine_undo P h = some h' ∧ mv_b h' 65 = v0 ∧ VFr h h' := by
  obtain ⟨h', e1, e2, e3⟩ := und9 (P := P) u 200000 h hu (by omega) U.2.1
  refine ⟨h', ?_, e2.trans U.2.2, e3⟩
  unfold f_Machine_undo
  rw [U.1]
  exact e1
/-- the values behind a STEP without a TRAP: the fetch register goes forth, unless it was assigned -/
def gfT (e : E0q) (bits : Nat) (fr : Option Nat) (s : STq) : Nat → Nat → Int64 := match fr with
  | none => s.2.1
  | some t => if s.2.2 t = true then s.2.1 else wrT e t 0 (s.2.1 t 0 + nJ (bits / 8)) s.2.1
theorem gof9 {P : Nat} {fs : Nat → Nat} {e : E0q} {T : Nat} {h : mv_H} {s : STq} (B : TBw P fs e T h) (V : VLw fs e T h s) (A : ASw P h s) {bits : Nat} (hb : mv_i h P 0 = nI bits) (hb2 : bits ≤ 64) {fr : Option Nat} (hf : (fr = none ∧ mv_i h P 8 < 0) ∨ ∃ t, fr = some t ∧ t < T ∧ mv_i h P 8 = nI t) : ∃ h', f_Machine_goForth P h = some h' ∧ VFr h h' ∧ ∀ t i, t < T → i < ncl e t → mv_b h' 65 (fs t + i) = gfT e bits fr s t i := by
  unfold f_Machine_goForth
  have hT := B.1
  rcases hf with ⟨f1, f2⟩ | ⟨t, f1, f2, f3⟩
  · rw [if_pos f2, f1]
    exact ⟨h, rfl, VFr.refl h, V.1⟩
  · have n0 : ¬ mv_i h P 8 < 0 := fun q => by
      rw [f3] at q
      have := Int32.lt_iff_toInt_lt.mp q
      rw [nIi (by omega)] at this
      have : (t : Int) < 0 := this
      omega
    have h1c : 0 < ncl e t := by unfold ncl; split <;> omega
    obtain ⟨-, -, b3, -, b5, -⟩ := B.2 t f2
    rw [if_neg n0]
    by_cases a8 : mv_i h 64 8 = 0
    · have nt : ¬ s.2.2 t = true := fun q => by
        have := A.2.mpr ⟨t, by omega, f3, q⟩
        rw [a8] at this
        exact absurd this (by decide)
      have e8 : (nI bits / (8 : Int32)).toInt64 = nJ (bits / 8) := by
        have : ∀ k : Fin 65, (nI k.val / (8 : Int32)).toInt64 = nJ (k.val / 8) := by decide +kernel
        exact this ⟨bits, by omega⟩
      have ep := put9 B f2 h1c (s.2.1 t 0 + nJ (bits / 8))
      have hv : mv_b h 65 (fs t) = s.2.1 t 0 := V.1 t 0 f2 h1c
      rw [if_pos a8, f3, xvi_n (by omega) (by decide), cln (by omega), b3, xvi_m (by omega) (by decide), cln (by omega), hv, hb, e8]
      simp only [cond_true]
      rw [show (0 : Int32) = nI 0 from rfl, ep, xhv_s]
      have key : ∀ t' i', t' < T → i' < ncl e t' → (fs t' + i' = fs t + 0 ↔ t' = t ∧ i' = 0) := fun t' i' h1 h2 => by
        refine ⟨fun q => ?_, fun q => by rw [q.1, q.2]⟩
        by_cases x1 : t' < t
        · have := (B.2 t' h1).2.2.2.2.2 t x1 f2; omega
        · by_cases x2 : t < t'
          · have := (B.2 t f2).2.2.2.2.2 t' x2 h1; omega
          · have : t' = t := by omega
            subst this
            exact ⟨rfl, by omega⟩
      have eg : gfT e bits fr s = wrT e t 0 (s.2.1 t 0 + nJ (bits / 8)) s.2.1 := by
        unfold gfT
        rw [f1]
        show (if s.2.2 t = true then _ else _) = _
        rw [if_neg nt]
      rw [eg]
      unfold wrT
      by_cases z : (e.2 t).2.2 = true ∧ (0 : Nat) = 0
      · rw [if_pos z, if_pos z]
        exact ⟨h, rfl, VFr.refl h, V.1⟩
      · rw [if_neg z, if_neg z]
        refine ⟨_, rfl, VFr.sb h _ _, fun t' i' h1 h2 => ?_⟩
        by_cases q : t' = t ∧ i' = 0
        · rw [if_pos q, q.1, q.2]; exact mv_u_same (mv_b h) 65 _ _
        · rw [if_neg q]
          exact (mv_u_ne (mv_b h) _ (fun y => q ((key t' i' h1 h2).mp y.2))).trans (V.1 t' i' h1 h2)
    · rw [if_neg a8]
      obtain ⟨u9, x1, x2, x3⟩ := A.2.mp (A.1.resolve_left a8)
      have : u9 = t := by
        rw [f3] at x2
        exact ((nIinj (by omega) (by omega)).mp x2).symm
      rw [this] at x3
      have eg : gfT e bits fr s = s.2.1 := by
        unfold gfT
        rw [f1]
        show (if s.2.2 t = true then _ else _) = _
        rw [if_pos x3]
      rw [eg]
      exact ⟨h, rfl, VFr.refl h, V.1⟩
