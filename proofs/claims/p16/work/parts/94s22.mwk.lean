/-! the class's machine at work -/
theorem xvi_m {p N : Nat} (h : p < N) (hN : N ≤ 1000000) : xvi (nI p) N = true := xvi_in.mpr (i32_in (by rw [nIi (by omega)]; omega) (by rw [nIi (by omega)]; omega))
/-- cells of a THING, a register being one -/
def ncl (e : E0q) (t : Nat) : Nat := if (e.2 t).2.1 = 0 then 1 else (e.2 t).2.1
def TBw (P : Nat) (fs : Nat → Nat) (e : E0q) (T : Nat) (h : mv_H) : Prop := T ≤ 64 ∧ ∀ t, t < T → (mv_a h (P + 1) t = nI (e.2 t).1 ∧ (e.2 t).1 ≤ 64) ∧ (mv_a h (P + 2) t = nI (e.2 t).2.1 ∧ (e.2 t).2.1 ≤ 65536) ∧ mv_a h (P + 3) t = nI (fs t) ∧ mv_a h (P + 4) t = b01 (e.2 t).2.2 ∧ fs t + ncl e t ≤ 65600 ∧ ∀ t', t < t' → t' < T → fs t + ncl e t ≤ fs t'
def VLw (fs : Nat → Nat) (e : E0q) (T : Nat) (h : mv_H) (s : STq) : Prop := (∀ t i, t < T → i < ncl e t → mv_b h 65 (fs t + i) = s.2.1 t i) ∧ ∀ k, k < 64 → mv_b h 66 k = s.1 k
def ASw (P : Nat) (h : mv_H) (s : STq) : Prop := (mv_i h 64 8 = 0 ∨ mv_i h 64 8 = 1) ∧ (mv_i h 64 8 = 1 ↔ ∃ u, u < 64 ∧ mv_i h P 8 = nI u ∧ s.2.2 u = true)
/-- u things undone, the latest first -/
def rstV (sl : Nat → Int32) (vl : Nat → Int64) : Nat → (Nat → Int64) → (Nat → Int64)
  | 0, r => r
  | u + 1, r => rstV sl vl u (fun k => if k = (sl u).toNatClampNeg then vl u else r k)
theorem rstV_cg {sl sl' : Nat → Int32} {vl vl' : Nat → Int64} : ∀ (u : Nat) (r : Nat → Int64), (∀ j, j < u → sl' j = sl j ∧ vl' j = vl j) → rstV sl' vl' u r = rstV sl vl u r := by
  intro u
  induction u with
  | zero => intro r _; rfl
  | succ u ih =>
    intro r h
    show rstV sl' vl' u _ = rstV sl vl u _
    rw [(h u (Nat.lt_succ_self _)).1, (h u (Nat.lt_succ_self _)).2]
    exact ih _ (fun j hj => h j (Nat.lt_succ_of_lt hj))
def UNw (h : mv_H) (v0 : Nat → Int64) (u : Nat) : Prop := mv_i h 64 7 = nI u ∧ (∀ j, j < u → ∃ k, mv_a h 68 j = nI k ∧ k < 65600) ∧ rstV (mv_a h 68) (mv_b h 69) u (mv_b h 65) = v0
/-- what the machine may change -/
def MFw (h h' : mv_H) : Prop := (∀ o k, ¬ (o = 64 ∧ (k = 4 ∨ k = 7 ∨ k = 8)) → mv_i h' o k = mv_i h o k) ∧ (∀ o, ¬ o = 68 → mv_a h' o = mv_a h o) ∧ (∀ o, ¬ (o = 65 ∨ o = 66 ∨ o = 67 ∨ o = 69) → mv_b h' o = mv_b h o) ∧ h'.2.1 = h.2.1 ∧ mv_r h' = mv_r h
theorem MFw.refl (h : mv_H) : MFw h h := ⟨fun _ _ _ => rfl, fun _ _ => rfl, fun _ _ => rfl, rfl, rfl⟩
theorem MFw.trans {h g k : mv_H} (a : MFw h g) (b : MFw g k) : MFw h k := ⟨fun o i q => (b.1 o i q).trans (a.1 o i q), fun o q => (b.2.1 o q).trans (a.2.1 o q), fun o q => (b.2.2.1 o q).trans (a.2.2.1 o q), b.2.2.2.1.trans a.2.2.2.1, b.2.2.2.2.trans a.2.2.2.2⟩
theorem TFr.m {h h' : mv_H} (a : TFr h h') : MFw h h' := ⟨fun o i q => a.1 o i (fun z => q ⟨z.1, Or.inl z.2⟩), fun o _ => a.2.1 o, fun o q => a.2.2.1 o (fun z => q (Or.inr (Or.inr (Or.inl z)))), a.2.2.2.1, a.2.2.2.2⟩
theorem TBw.fr {P : Nat} {fs : Nat → Nat} {e : E0q} {T : Nat} {h h' : mv_H} (a : TBw P fs e T h) (hP : P = 32 ∨ P = 48 ∨ P = 145) (f : MFw h h') : TBw P fs e T h' := by
  refine ⟨a.1, fun t ht => ?_⟩
  rw [f.2.1 (P + 1) (by omega), f.2.1 (P + 2) (by omega), f.2.1 (P + 3) (by omega), f.2.1 (P + 4) (by omega)]
  exact a.2 t ht
theorem VLw.st {fs : Nat → Nat} {e : E0q} {T : Nat} {h h' : mv_H} {s : STq} (a : VLw fs e T h s) (f : TFr h h') : VLw fs e T h' s := by
  unfold VLw
  rw [f.2.2.1 65 (by omega), f.2.2.1 66 (by omega)]
  exact a
theorem ASw.st {P : Nat} {h h' : mv_H} {s : STq} (a : ASw P h s) (hP : P = 32 ∨ P = 48 ∨ P = 145) (f : TFr h h') : ASw P h' s := by
  unfold ASw
  rw [f.1 64 8 (by omega), f.1 P 8 (by omega)]
  exact a
theorem UNw.st {h h' : mv_H} {v0 : Nat → Int64} {u : Nat} (a : UNw h v0 u) (f : TFr h h') : UNw h' v0 u := by
  unfold UNw
  rw [f.1 64 7 (by omega), f.2.1 68, f.2.2.1 69 (by omega), f.2.2.1 65 (by omega)]
  exact a
theorem sbn {h : mv_H} {o k : Nat} {x : Int64} {o' : Nat} (q : ¬ o' = o) : mv_b (mv_sb h o k x) o' = mv_b h o' := funext fun i => mv_u_ne (mv_b h) x (fun y => q y.1)
/-- put -/
theorem put9 {P : Nat} {fs : Nat → Nat} {e : E0q} {T : Nat} {h : mv_H} (B : TBw P fs e T h) {t i : Nat} (ht : t < T) (hi : i < ncl e t) (v : Int64) : f_Machine_put P h (nI t) (nI i) v = some (if (e.2 t).2.2 = true ∧ i = 0 then h else mv_sb h 65 (fs t + i) (v &&& mkI (nI (e.2 t).1))) := by
  obtain ⟨⟨b1, b2⟩, -, b3, b4, b5, -⟩ := B.2 t ht
  have hT := B.1
  have e16 : f_Machine_put_16 P (nI t) (nI i) v h = some (mv_sb h 65 (fs t + i) (v &&& mkI (nI (e.2 t).1))) := by
    unfold f_Machine_put_16
    rw [xvi_n (by omega) (by decide), cond_true, cond_true, cln (by omega), b1, bm_e, xhb_s, b3, nIadd (by omega), xvi_m (by omega) (by decide), cond_true, cln (by omega), xk_s]
  unfold f_Machine_put
  by_cases z : i = 0
  · rw [if_neg (show ¬ (0 : Int32) < nI i by rw [z]; decide), xvi_n (by omega) (by decide), cond_true, cln (by omega), b4]
    cases q : (e.2 t).2.2 with
    | true => rw [if_neg (show ¬ b01 true = 0 by decide), if_pos ⟨rfl, z⟩]
    | false => rw [if_pos (show b01 false = 0 from rfl), if_neg (fun y => by cases y.1), e16]
  · have q : (0 : Int32) < nI i := Int32.lt_iff_toInt_lt.mpr (by
      have hi2 : i < 65600 := by omega
      rw [nIi (by omega)]
      show (0 : Int) < i
      omega)
    rw [if_pos q, if_neg (fun y => z y.2), e16]
/-- assign -/
theorem asg9 {P : Nat} {fs : Nat → Nat} {e : E0q} {T : Nat} {h : mv_H} (hP : P = 32 ∨ P = 48 ∨ P = 145) (B : TBw P fs e T h) {s : STq} (V : VLw fs e T h s) {v0 : Nat → Int64} {u : Nat} (U : UNw h v0 u) (hu : u < 8193) {t i : Nat} (ht : t < T) (hi : i < ncl e t) (v : Int64) (g : Nat → Bool) : ∃ h', f_Machine_assign P h (nI t) (nI i) v = some h' ∧ MFw h h' ∧ UNw h' v0 (u + 1) ∧ VLw fs e T h' (s.1, wrT e t i v s.2.1, g) ∧ (∀ o k, ¬ (o = 64 ∧ k = 7) → mv_i h' o k = mv_i h o k) ∧ mv_b h' 67 = mv_b h 67 := by
  obtain ⟨⟨b1, b2⟩, -, b3, b4, b5, -⟩ := B.2 t ht
  have hT := B.1
  obtain ⟨u1, u2, u3⟩ := U
  have hs : fs t + i < 65600 := by omega
  have B1 : TBw P fs e T (mv_si (mv_sb (mv_sa h 68 u (nI (fs t + i))) 69 u (mv_b h 65 (fs t + i))) 64 7 (nI (u + 1))) := by
    refine ⟨hT, fun t' h' => ?_⟩
    have ea : ∀ o, ¬ o = 68 → mv_a (mv_si (mv_sb (mv_sa h 68 u (nI (fs t + i))) 69 u (mv_b h 65 (fs t + i))) 64 7 (nI (u + 1))) o = mv_a h o := fun o q => funext fun k => mv_u_ne (mv_a h) _ (fun y => q y.1)
    rw [ea (P + 1) (by omega), ea (P + 2) (by omega), ea (P + 3) (by omega), ea (P + 4) (by omega)]
    exact B.2 t' h'
  have ep := put9 B1 ht hi v
  have e1 : f_Machine_assign P h (nI t) (nI i) v = xhv (f_Machine_put P (mv_si (mv_sb (mv_sa h 68 u (nI (fs t + i))) 69 u (mv_b h 65 (fs t + i))) 64 7 (nI (u + 1))) (nI t) (nI i) v) fun g8 => some g8 := by
    unfold f_Machine_assign
    have y1 : mv_i (mv_sa h 68 u (nI (fs t + i))) 64 7 = nI u := u1
    have y2 : mv_i (mv_sb (mv_sa h 68 u (nI (fs t + i))) 69 u (mv_b (mv_sa h 68 u (nI (fs t + i))) 65 (fs t + i))) 64 7 = nI u := u1
    rw [xvi_n (by omega) (by decide), cond_true, u1, xvi_n hu (by decide), cond_true, cln (by omega), cln (by omega), b3, nIadd (by omega), xk_s, xvi_m hs (by decide), cond_true, y1, xvi_n hu (by decide), cond_true, cln (by omega), cln (by omega), xk_s, y2, nI1 (by omega), xk_s]
    rfl
  rw [e1, ep, xhv_s]
  have hb68 : ∀ j, mv_a (mv_sa h 68 u (nI (fs t + i))) 68 j = if j = u then nI (fs t + i) else mv_a h 68 j := fun j => by
    by_cases q : j = u
    · rw [if_pos q, q]; exact mv_u_same (mv_a h) 68 u _
    · rw [if_neg q]; exact mv_u_ne (mv_a h) _ (fun y => q y.2)
  have hb69 : ∀ j, mv_b (mv_sb (mv_sa h 68 u (nI (fs t + i))) 69 u (mv_b h 65 (fs t + i))) 69 j = if j = u then mv_b h 65 (fs t + i) else mv_b h 69 j := fun j => by
    by_cases q : j = u
    · rw [if_pos q, q]; exact mv_u_same (mv_b h) 69 u _
    · rw [if_neg q]; exact mv_u_ne (mv_b h) _ (fun y => q y.2)
  have ud : ∀ r : Nat → Int64, (∀ k, ¬ k = fs t + i → r k = mv_b h 65 k) → rstV (mv_a (mv_sa h 68 u (nI (fs t + i))) 68) (mv_b (mv_sb (mv_sa h 68 u (nI (fs t + i))) 69 u (mv_b h 65 (fs t + i))) 69) (u + 1) r = v0 := fun r hr => by
    show rstV _ _ u (fun k => if k = (mv_a (mv_sa h 68 u (nI (fs t + i))) 68 u).toNatClampNeg then mv_b (mv_sb (mv_sa h 68 u (nI (fs t + i))) 69 u (mv_b h 65 (fs t + i))) 69 u else r k) = v0
    rw [rstV_cg (sl := mv_a h 68) (vl := mv_b h 69) u _ (fun j hj => ⟨by rw [hb68, if_neg (by omega)], by rw [hb69, if_neg (by omega)]⟩)]
    have er : (fun k => if k = (mv_a (mv_sa h 68 u (nI (fs t + i))) 68 u).toNatClampNeg then mv_b (mv_sb (mv_sa h 68 u (nI (fs t + i))) 69 u (mv_b h 65 (fs t + i))) 69 u else r k) = mv_b h 65 := by
      funext k
      rw [hb68, if_pos rfl, hb69, if_pos rfl, cln (by omega)]
      by_cases q : k = fs t + i
      · rw [if_pos q, q]
      · rw [if_neg q]; exact hr k q
    rw [er]; exact u3
  have sl : ∀ j, j < u + 1 → ∃ k, mv_a (mv_sa h 68 u (nI (fs t + i))) 68 j = nI k ∧ k < 65600 := fun j hj => by
    rw [hb68]
    by_cases q : j = u
    · rw [if_pos q]; exact ⟨_, rfl, hs⟩
    · rw [if_neg q]; exact u2 j (by omega)
  have key : ∀ t' i', t' < T → i' < ncl e t' → (fs t' + i' = fs t + i ↔ t' = t ∧ i' = i) := fun t' i' h1 h2 => by
    refine ⟨fun q => ?_, fun q => by rw [q.1, q.2]⟩
    by_cases x1 : t' < t
    · have := (B.2 t' h1).2.2.2.2.2 t x1 ht; omega
    · by_cases x2 : t < t'
      · have := (B.2 t ht).2.2.2.2.2 t' x2 h1; omega
      · have : t' = t := by omega
        subst this
        exact ⟨rfl, by omega⟩
  by_cases z : (e.2 t).2.2 = true ∧ i = 0
  · rw [if_pos z]
    refine ⟨_, rfl, ⟨fun o k q => mv_u_ne (mv_i (mv_sb (mv_sa h 68 u (nI (fs t + i))) 69 u (mv_b h 65 (fs t + i)))) _ (fun y => q ⟨y.1, Or.inr (Or.inl y.2)⟩), fun o q => funext fun k => mv_u_ne (mv_a h) _ (fun y => q y.1), fun o q => funext fun k => mv_u_ne (mv_b h) _ (fun y => q (Or.inr (Or.inr (Or.inr y.1)))), rfl, rfl⟩, ⟨mv_u_same (mv_i (mv_sb (mv_sa h 68 u (nI (fs t + i))) 69 u (mv_b h 65 (fs t + i)))) 64 7 _, sl, ud (mv_b h 65) (fun _ _ => rfl)⟩, ⟨fun t' i' h1 h2 => ?_, V.2⟩, fun o k q => mv_u_ne (mv_i (mv_sb (mv_sa h 68 u (nI (fs t + i))) 69 u (mv_b h 65 (fs t + i)))) _ q, (sbn (h := h) (o := 69) (k := u) (x := mv_b h 65 (fs t + i)) (o' := 67) (by decide))⟩
    show mv_b h 65 (fs t' + i') = (wrT e t i v s.2.1) t' i'
    unfold wrT
    rw [if_pos z]
    exact V.1 t' i' h1 h2
  · rw [if_neg z]
    refine ⟨_, rfl, ⟨fun o k q => mv_u_ne (mv_i (mv_sb (mv_sa h 68 u (nI (fs t + i))) 69 u (mv_b h 65 (fs t + i)))) _ (fun y => q ⟨y.1, Or.inr (Or.inl y.2)⟩), fun o q => funext fun k => mv_u_ne (mv_a h) _ (fun y => q y.1), fun o q => funext fun k => ?_, rfl, rfl⟩, ⟨mv_u_same (mv_i (mv_sb (mv_sa h 68 u (nI (fs t + i))) 69 u (mv_b h 65 (fs t + i)))) 64 7 _, sl, ?_⟩, ⟨fun t' i' h1 h2 => ?_, fun k hk => ?_⟩, fun o k q => mv_u_ne (mv_i (mv_sb (mv_sa h 68 u (nI (fs t + i))) 69 u (mv_b h 65 (fs t + i)))) _ q, funext fun k => ?_⟩
    · exact (mv_u_ne (mv_b (mv_sb h 69 u (mv_b h 65 (fs t + i)))) _ (fun y => q (Or.inl y.1))).trans (mv_u_ne (mv_b h) _ (fun y => q (Or.inr (Or.inr (Or.inr y.1)))))
    · have e65 : ∀ k, mv_b (mv_sb (mv_sb h 69 u (mv_b h 65 (fs t + i))) 65 (fs t + i) (v &&& mkI (nI (e.2 t).1))) 65 k = if k = fs t + i then v &&& mkI (nI (e.2 t).1) else mv_b h 65 k := fun k => by
        by_cases q : k = fs t + i
        · rw [if_pos q, q]; exact mv_u_same (mv_b (mv_sb h 69 u (mv_b h 65 (fs t + i)))) 65 _ _
        · rw [if_neg q]
          exact (mv_u_ne (mv_b (mv_sb h 69 u (mv_b h 65 (fs t + i)))) _ (fun y => q y.2)).trans (congrFun (sbn (h := h) (o := 69) (k := u) (x := mv_b h 65 (fs t + i)) (o' := 65) (by decide)) k)
      have e69 : mv_b (mv_sb (mv_sb h 69 u (mv_b h 65 (fs t + i))) 65 (fs t + i) (v &&& mkI (nI (e.2 t).1))) 69 = mv_b (mv_sb h 69 u (mv_b h 65 (fs t + i))) 69 := sbn (by decide)
      have := ud (mv_b (mv_sb (mv_sb h 69 u (mv_b h 65 (fs t + i))) 65 (fs t + i) (v &&& mkI (nI (e.2 t).1))) 65) (fun k q => by rw [e65, if_neg q])
      show rstV (mv_a (mv_sa h 68 u (nI (fs t + i))) 68) (mv_b (mv_sb (mv_sb h 69 u (mv_b h 65 (fs t + i))) 65 (fs t + i) (v &&& mkI (nI (e.2 t).1))) 69) (u + 1) _ = v0
      rw [e69]
      exact this
    · show mv_b (mv_sb (mv_sb h 69 u (mv_b h 65 (fs t + i))) 65 (fs t + i) (v &&& mkI (nI (e.2 t).1))) 65 (fs t' + i') = (wrT e t i v s.2.1) t' i'
      unfold wrT
      rw [if_neg z]
      by_cases q : t' = t ∧ i' = i
      · rw [if_pos q, q.1, q.2]
        exact mv_u_same (mv_b (mv_sb h 69 u (mv_b h 65 (fs t + i)))) 65 _ _
      · rw [if_neg q]
        refine (mv_u_ne (mv_b (mv_sb h 69 u (mv_b h 65 (fs t + i)))) _ (fun y => q ((key t' i' h1 h2).mp y.2))).trans ((congrFun (sbn (h := h) (o := 69) (k := u) (x := mv_b h 65 (fs t + i)) (o' := 65) (by decide)) (fs t' + i')).trans (V.1 t' i' h1 h2))
    · exact (congrFun (sbn (h := mv_sb h 69 u (mv_b h 65 (fs t + i))) (o := 65) (k := fs t + i) (x := v &&& mkI (nI (e.2 t).1)) (o' := 66) (by decide)) k).trans ((congrFun (sbn (h := h) (o := 69) (k := u) (x := mv_b h 65 (fs t + i)) (o' := 66) (by decide)) k).trans (V.2 k hk))
    · exact (congrFun (sbn (h := mv_sb h 69 u (mv_b h 65 (fs t + i))) (o := 65) (k := fs t + i) (x := v &&& mkI (nI (e.2 t).1)) (o' := 67) (by decide)) k).trans (congrFun (sbn (h := h) (o := 69) (k := u) (x := mv_b h 65 (fs t + i)) (o' := 67) (by decide)) k)
