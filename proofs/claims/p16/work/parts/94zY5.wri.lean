/-! the reference at work: what is written waits -/
theorem san9 (h : mv_H) {o k o' k' : Nat} (x : Int32) (q : ¬ (o' = o ∧ k' = k)) : mv_a (mv_sa h o k x) o' k' = mv_a h o' k' := mv_u_ne (mv_a h) x q
theorem sbn9 (h : mv_H) {o k o' k' : Nat} (x : Int64) (q : ¬ (o' = o ∧ k' = k)) : mv_b (mv_sb h o k x) o' k' = mv_b h o' k' := mv_u_ne (mv_b h) x q
def wrH (P n t i : Nat) (v : Int64) (h : mv_H) : mv_H := mv_si (mv_sb (mv_sa (mv_sa h (P + 29) n (nI t)) (P + 30) n (nI i)) (P + 32) n v) P 61 (nI (n + 1))
theorem wr_a {P n t i : Nat} {v : Int64} {h : mv_H} (o k : Nat) (q : ¬ ((o = P + 29 ∨ o = P + 30) ∧ k = n)) : mv_a (wrH P n t i v h) o k = mv_a h o k := by
  show mv_a (mv_sa (mv_sa h (P + 29) n (nI t)) (P + 30) n (nI i)) o k = _
  rw [san9 _ _ (fun z => q ⟨Or.inr z.1, z.2⟩), san9 _ _ (fun z => q ⟨Or.inl z.1, z.2⟩)]
theorem wr_29 {P n t i : Nat} {v : Int64} {h : mv_H} : mv_a (wrH P n t i v h) (P + 29) n = nI t := by
  show mv_a (mv_sa (mv_sa h (P + 29) n (nI t)) (P + 30) n (nI i)) (P + 29) n = _
  rw [san9 _ _ (by omega)]
  exact mv_u_same _ _ _ _
theorem wr_30 {P n t i : Nat} {v : Int64} {h : mv_H} : mv_a (wrH P n t i v h) (P + 30) n = nI i := mv_u_same _ _ _ _
theorem wr_b {P n t i : Nat} {v : Int64} {h : mv_H} (o k : Nat) (q : ¬ (o = P + 32 ∧ k = n)) : mv_b (wrH P n t i v h) o k = mv_b h o k := mv_u_ne (mv_b h) _ q
theorem wr_32 {P n t i : Nat} {v : Int64} {h : mv_H} : mv_b (wrH P n t i v h) (P + 32) n = v := mv_u_same _ _ _ _
theorem wr_i {P n t i : Nat} {v : Int64} {h : mv_H} (o k : Nat) (q : ¬ (o = P ∧ k = 61)) : mv_i (wrH P n t i v h) o k = mv_i h o k := mv_u_ne (mv_i h) _ q
theorem wr_61 {P n t i : Nat} {v : Int64} {h : mv_H} : mv_i (wrH P n t i v h) P 61 = nI (n + 1) := mv_u_same _ _ _ _
theorem wr_f {P n t i : Nat} {v : Int64} {h : mv_H} : RFr P h (wrH P n t i v h) := ⟨rfl, rfl, fun o k q => wr_i o k (fun z => q ⟨z.1, Or.inr z.2⟩), fun o q => funext fun k => wr_a o k (by omega), fun o q => funext fun k => wr_b o k (by omega)⟩
theorem wri_V {P T : Nat} {e : E0q} {h : mv_H} (B : TBr P e T h) {t n : Nat} (i : Nat) (ht : t < T) (hn : mv_i h P 61 = nI n) (hn2 : n < 12000) (hi : i < 65536) (v : Int64) : f_Book_write P h (nI t) (nI i) v = some (if (e.2 t).2.2 = true ∧ i = 0 then h else wrH P n t i (v &&& mkI (nI (e.2 t).1)) h) := by
  have hT := B.1
  obtain ⟨-, -, -, -, ⟨b1, b2⟩, b3, -⟩ := B.2 t ht
  have e14 : f_Book_write_14 P (nI t) (nI i) v h = some (wrH P n t i (v &&& mkI (nI (e.2 t).1)) h) := by
    have hv : xvi (nI n) 12000 = true := xvi_n hn2 (by decide)
    have i2 : mv_i (mv_sa h (P + 29) n (nI t)) P 61 = nI n := hn
    have i3 : mv_i (mv_sa (mv_sa h (P + 29) n (nI t)) (P + 30) n (nI i)) P 61 = nI n := hn
    have i4 : mv_i (mv_sb (mv_sa (mv_sa h (P + 29) n (nI t)) (P + 30) n (nI i)) (P + 32) n (v &&& mkI (nI (e.2 t).1))) P 61 = nI n := hn
    have a3 : mv_a (mv_sa (mv_sa h (P + 29) n (nI t)) (P + 30) n (nI i)) (P + 3) t = nI (e.2 t).1 := by
      rw [san9 _ _ (by omega), san9 _ _ (by omega)]; exact b1
    unfold f_Book_write_14
    rw [hn, hv, cond_true, cln (by omega), xk_s, i2, hv, cond_true, cln (by omega), xk_s, xvi_n (show t < 4100 by omega) (by decide), cond_true, cln (by omega), a3, cutW _ _ b2, xhb_s, i3, hv, cond_true, cln (by omega), xk_s, i4, xk_s, nI1 (by omega)]
    rfl
  unfold f_Book_write
  rw [xvi_n (show t < 4100 by omega) (by decide), cond_true, cln (by omega), b3, e14]
  cases q : (e.2 t).2.2 with
  | false =>
    rw [if_pos (show b01 false = 0 from rfl), if_neg (fun y => by cases y.1)]
  | true =>
    rw [if_neg (show ¬ b01 true = 0 by decide)]
    by_cases z : i = 0
    · rw [if_pos (show nI i = 0 by rw [z]; rfl), if_pos ⟨rfl, z⟩]
    · rw [if_neg (show ¬ nI i = (0 : Int32) from fun y => z ((nIinj (a := i) (b := 0) (by omega) (by omega)).mp y)), if_neg (fun y => z y.2)]
theorem rdP_cg {wt wi wt' wi' : Nat → Int32} {wv wv' : Nat → Int64} {base : Nat → Nat → Int64} : ∀ (n t i : Nat), (∀ k, k < n → wt' k = wt k ∧ wi' k = wi k ∧ wv' k = wv k) → rdP wt' wi' wv' base n t i = rdP wt wi wv base n t i := by
  intro n
  induction n with
  | zero => intro t i _; rfl
  | succ n ih =>
    intro t i q
    show (if wt' n = nI t ∧ wi' n = nI i then wv' n else rdP wt' wi' wv' base n t i) = if wt n = nI t ∧ wi n = nI i then wv n else rdP wt wi wv base n t i
    obtain ⟨q1, q2, q3⟩ := q n (by omega)
    rw [q1, q2, q3, ih t i (fun k hk => q k (by omega))]
theorem rd_wr {P n t i : Nat} {v : Int64} {h : mv_H} (hn : mv_i h P 61 = nI n) (hn2 : n < 12000) {a b : Nat} (ht : t < 64) (hi : i < 65536) (ha : a < 64) (hb : b < 65536) : rdV P (wrH P n t i v h) a b = if a = t ∧ b = i then v else rdV P h a b := by
  have eb : bsV P (wrH P n t i v h) = bsV P h := by
    funext x y
    unfold bsV
    rw [wr_a (P + 6) x (by omega), wr_a (P + 5) x (by omega), wr_b (P + 27) x (by omega), wr_b (P + 28) _ (by omega)]
  unfold rdV
  rw [eb, wr_61, cln (by omega), hn, cln (by omega)]
  show (if mv_a (wrH P n t i v h) (P + 29) n = nI a ∧ mv_a (wrH P n t i v h) (P + 30) n = nI b then mv_b (wrH P n t i v h) (P + 32) n else rdP _ _ _ _ n a b) = _
  rw [wr_29, wr_30, wr_32, rdP_cg (wt := mv_a h (P + 29)) (wi := mv_a h (P + 30)) (wv := mv_b h (P + 32)) n a b (fun k hk => ⟨wr_a _ _ (by omega), wr_a _ _ (by omega), wr_b _ _ (by omega)⟩)]
  by_cases q : a = t ∧ b = i
  · rw [if_pos q, if_pos ⟨by rw [q.1], by rw [q.2]⟩]
  · rw [if_neg q, if_neg (fun y => q ⟨((nIinj (by omega) (by omega)).mp y.1).symm, ((nIinj (by omega) (by omega)).mp y.2).symm⟩)]
/-! the state -/
def WVq (P T : Nat) (e : E0q) (h : mv_H) (n : Nat) : Prop := ∀ k, k < n → ∃ t i, mv_a h (P + 29) k = nI t ∧ t < T ∧ mv_a h (P + 30) k = nI i ∧ i < ncl e t
def ASr (P T : Nat) (e : E0q) (a : Nat → Bool) (h : mv_H) (n : Nat) : Prop := ∀ t, t < T → (e.2 t).2.1 = 0 → (a t = true ↔ ∃ k, k < n ∧ mv_a h (P + 29) k = nI t)
def SSq (P T : Nat) (C LW : List Nat) (e : E0q) (s : STq) (h : mv_H) (n : Nat) : Prop := ENq P T C LW e s.1 s.2.1 h ∧ mv_i h P 62 = 0 ∧ (mv_i h P 61 = nI n ∧ n ≤ 12000) ∧ WVq P T e h n ∧ ASr P T e s.2.2 h n
theorem SSq.ef {P T : Nat} {C LW : List Nat} {e : E0q} {s : STq} {h h' : mv_H} {n k : Nat} (S : SSq P T C LW e s h n) (f : EFr P k h h') : SSq P T C LW e s h' n := by
  obtain ⟨s1, s2, s3, s4, s5⟩ := S
  have e29 : mv_a h' (P + 29) = mv_a h (P + 29) := funext fun j => f.2.2.2.2 (P + 29) j (by omega)
  have e30 : mv_a h' (P + 30) = mv_a h (P + 30) := funext fun j => f.2.2.2.2 (P + 30) j (by omega)
  refine ⟨s1.fr f.w, by rw [f.2.2.2.1 P 62 (by omega)]; exact s2, by rw [f.2.2.2.1 P 61 (by omega)]; exact s3, ?_, ?_⟩
  · unfold WVq; rw [e29, e30]; exact s4
  · unfold ASr; rw [e29]; exact s5
theorem SSq.pad {P T : Nat} {C LW LW' : List Nat} {e : E0q} {s : STq} {h : mv_H} {n : Nat} (S : SSq P T C LW e s h n) (q : ∀ (i w : Nat), LW'[i]? = some w → LW[i]? = some w ∨ w = 0) : SSq P T C LW' e s h n := ⟨S.1.pad q, S.2⟩
theorem ncl_le {P T : Nat} {e : E0q} {h : mv_H} (B : TBr P e T h) {t : Nat} (ht : t < T) : ncl e t ≤ 65536 := by
  have := (B.2 t ht).2.1
  unfold ncl
  split <;> omega
theorem EVq.rf {P T : Nat} {C : List Nat} {e : E0q} {l l' : Nat → Int64} {r r' : Nat → Nat → Int64} {h h' : mv_H} (E : EVq P h T C e l r) (f : RFr P h h') (hl : ∀ i, i < 64 → mv_b h' (P + 26) i = l' i) (hn : ∃ n, mv_i h' P 61 = nI n ∧ n ≤ 12000) (hr : ∀ t i, t < T → i < ncl e t → rdV P h' t i = r' t i) : EVq P h' T C e l' r' := by
  obtain ⟨e1, e2, e3, ⟨e4, e5⟩, e6, ⟨e7, e8, o, cb, c1, c2, c3, c4, c5⟩⟩ := E
  refine ⟨?_, hl, hn, ⟨e4, ?_⟩, hr, ⟨e7, ?_, o, cb, c1, ?_, ?_, c4, ?_⟩⟩
  · have : mv_l h' P 52 = mv_l h P 52 := by show h'.2.1 P 52 = h.2.1 P 52; rw [f.1]
    rw [this]; exact e1
  · unfold AtQ; rw [f.2.2.2.1 (P + 4) (by omega), f.2.2.2.1 (P + 5) (by omega), f.2.2.2.1 (P + 6) (by omega), f.2.2.2.1 (P + 3) (by omega), f.2.2.2.1 (P + 7) (by omega)]; exact e5
  · rw [f.2.2.1 P 20 (by omega)]; exact e8
  · rw [f.2.2.1 P 63 (by omega)]; exact c2
  · rw [f.2.2.2.1 (P + 10) (by omega)]; exact c3
  · rw [f.2.2.2.1 (P + 13) (by omega)]; exact c5
/-- a write -/
theorem wri_S {P T : Nat} {C LW : List Nat} {e : E0q} {s : STq} {h : mv_H} {n : Nat} (S : SSq P T C LW e s h n) {t i : Nat} (ht : t < T) (hi : i < ncl e t) (hn : n < 12000) (v : Int64) : ∃ h', f_Book_write P h (nI t) (nI i) v = some h' ∧ RFr P h h' ∧ mv_i h' P 53 = mv_i h P 53 ∧ ∃ n', n' ≤ n + 1 ∧ SSq P T C LW e (s.1, wrT e t i v s.2.1, if (e.2 t).2.1 = 0 then (fun k => if k = t then true else s.2.2 k) else s.2.2) h' n' := by
  obtain ⟨⟨V, w1, w2, w3⟩, s2, ⟨s3, s3'⟩, s4, s5⟩ := S
  have v4 := V.2.2.2.1
  have hT := v4.1
  have hc := ncl_le v4 ht
  have ew := wri_V v4 i ht s3 hn (by omega) v
  have hz := (v4.2 t ht).2.2.2.2.2.2
  obtain ⟨hw3, hw4⟩ := (v4.2 t ht).2.2.2.2.1
  by_cases z : (e.2 t).2.2 = true ∧ i = 0
  · rw [if_pos z] at ew
    have hc0 : ¬ (e.2 t).2.1 = 0 := fun q => by rw [hz q] at z; cases z.1
    refine ⟨h, ew, RFr.refl _ _, rfl, n, by omega, ?_⟩
    have er : wrT e t i v s.2.1 = s.2.1 := by unfold wrT; rw [if_pos z]
    rw [er, if_neg hc0]
    exact ⟨⟨V, w1, w2, w3⟩, s2, ⟨s3, s3'⟩, s4, s5⟩
  · rw [if_neg z] at ew
    have er : wrT e t i v s.2.1 = fun a b => if a = t ∧ b = i then v &&& mkI (nI (e.2 t).1) else s.2.1 a b := by unfold wrT; rw [if_neg z]
    refine ⟨wrH P n t i (v &&& mkI (nI (e.2 t).1)) h, ew, wr_f, wr_i P 53 (by omega), n + 1, by omega, ?_⟩
    rw [er]
    have fv := FTq.and v hw4
    generalize v &&& mkI (nI (e.2 t).1) = vv at *
    refine ⟨⟨V.rf wr_f (fun k hk => by rw [wr_b (P + 26) k (by omega)]; exact V.2.1 k hk) ⟨n + 1, wr_61, by omega⟩ (fun a b ha hb => ?_), ?_, w2, w3⟩, by rw [wr_i P 62 (by omega)]; exact s2, ⟨wr_61, by omega⟩, ?_, ?_⟩
    · have hcb := ncl_le v4 ha
      rw [rd_wr s3 hn (by omega) (by omega) (by omega) (by omega)]
      show _ = if a = t ∧ b = i then vv else s.2.1 a b
      rw [V.2.2.2.2.1 a b ha hb]
    · intro a b w ha hb hw hw2
      rw [wr_a (P + 3) a (by omega)] at hw
      show FTq w (if a = t ∧ b = i then vv else s.2.1 a b)
      by_cases q : a = t ∧ b = i
      · rw [if_pos q]
        rw [q.1, hw3] at hw
        rw [← (nIinj (by omega) (by omega)).mp hw]
        exact fv
      · rw [if_neg q]
        exact w1 a b w ha hb hw hw2
    · intro k hk
      by_cases q : k = n
      · subst q
        exact ⟨t, i, wr_29, ht, wr_30, hi⟩
      · obtain ⟨a, b, c1, c2, c3, c4⟩ := s4 k (by omega)
        exact ⟨a, b, by rw [wr_a (P + 29) k (by omega)]; exact c1, c2, by rw [wr_a (P + 30) k (by omega)]; exact c3, c4⟩
    · intro a ha hca
      have s5a := s5 a ha hca
      by_cases q : a = t
      · subst q
        show ((if (e.2 a).2.1 = 0 then (fun k => if k = a then true else s.2.2 k) else s.2.2) a = true ↔ _)
        rw [if_pos hca]
        show ((if a = a then true else s.2.2 a) = true ↔ _)
        rw [if_pos rfl]
        exact ⟨fun _ => ⟨n, Nat.lt_succ_self _, wr_29⟩, fun _ => rfl⟩
      · have ea : (if (e.2 t).2.1 = 0 then (fun k => if k = t then true else s.2.2 k) else s.2.2) a = s.2.2 a := by
          split
          · exact if_neg q
          · rfl
        show ((if (e.2 t).2.1 = 0 then (fun k => if k = t then true else s.2.2 k) else s.2.2) a = true ↔ _)
        rw [ea, s5a]
        constructor
        · rintro ⟨k, k1, k2⟩
          exact ⟨k, by omega, by rw [wr_a (P + 29) k (by omega)]; exact k2⟩
        · rintro ⟨k, k1, k2⟩
          by_cases c : k = n
          · subst c
            rw [wr_29] at k2
            exact absurd ((nIinj (by omega) (by omega)).mp k2).symm q
          · exact ⟨k, by omega, by rw [wr_a (P + 29) k (by omega)] at k2; exact k2⟩
/-- a let -/
theorem letS9 {P T : Nat} {C LW : List Nat} {e : E0q} {s : STq} {h : mv_H} {n w : Nat} (S : SSq P T C LW e s h n) {v : Int64} (fv : FTq w v) : SSq P T C (LW ++ [w]) e (fun k => if k = LW.length then v else s.1 k, s.2.1, s.2.2) (mv_sb h (P + 26) LW.length v) n := by
  obtain ⟨⟨V, w1, w2, w3⟩, s2, s3, s4, s5⟩ := S
  have f : RFr P h (mv_sb h (P + 26) LW.length v) := ⟨rfl, rfl, fun _ _ _ => rfl, fun _ _ => rfl, fun o q => sbn (fun z => q (Or.inl z))⟩
  have eb : bsV P (mv_sb h (P + 26) LW.length v) = bsV P h := by
    funext x y
    unfold bsV
    rw [f.2.2.2.2 (P + 27) (by omega), f.2.2.2.2 (P + 28) (by omega)]
    rfl
  have er : ∀ a b, rdV P (mv_sb h (P + 26) LW.length v) a b = rdV P h a b := fun a b => by
    have e32 : mv_b (mv_sb h (P + 26) LW.length v) (P + 32) = mv_b h (P + 32) := sbn (by omega)
    unfold rdV
    rw [eb, e32]
    rfl
  refine ⟨⟨V.rf f (fun k hk => ?_) V.2.2.1 (fun a b ha hb => by rw [er]; exact V.2.2.2.2.1 a b ha hb), w1, ?_, w3⟩, s2, s3, s4, s5⟩
  · show _ = if k = LW.length then v else s.1 k
    by_cases q : k = LW.length
    · rw [if_pos q, q]; exact mv_u_same _ _ _ _
    · rw [if_neg q, sbn9 _ _ (fun z => q z.2)]
      exact V.2.1 k hk
  · intro i u hu hu0
    show FTq u (if i = LW.length then v else s.1 i)
    by_cases q : i < LW.length
    · rw [if_neg (by omega)]
      rw [List.getElem?_append_left q] at hu
      exact w2 i u hu hu0
    · by_cases c : i = LW.length
      · rw [if_pos c]
        rw [c, List.getElem?_append_right (Nat.le_refl _), Nat.sub_self] at hu
        have : w = u := Option.some.inj hu
        rw [← this]
        exact fv
      · rw [List.getElem?_eq_none (by rw [List.length_append]; show LW.length + 1 ≤ i; omega)] at hu
        cases hu
