/-! the reference at work: an EXPR's worth -/
theorem in_cl (g : mv_H) (y : Int64) {w : Nat} (h0 : 0 < w) (hw : w ≤ 65536) : f_Model_in g y (0 : Int64) ((nI w - (1 : Int32)).toInt64) = some (b01 (decide (y.toBitVec.toNat < w)), g) := by
  have hy : y.toBitVec.toNat < 18446744073709551616 := y.toBitVec.isLt
  have := in_S g (x := y.toBitVec.toNat) (lo := 0) (hi := w - 1) hy (by omega) (by omega)
  rw [nJ_bv] at this
  have e : nI w - 1 = nI (w - 1) := nIsub (a := w) (b := 1) (by omega) (by omega)
  rw [e, xI_l, xi2l_s (by omega), show (0 : Int64) = nJ 0 from rfl, this]
  by_cases c : y.toBitVec.toNat < w
  · rw [decide_eq_true c, decide_eq_true (by omega)]
  · rw [decide_eq_false c, decide_eq_false (by omega)]
theorem wPkl {lo w : Nat} (hl : lo ≤ 64) (hw : w ≤ 64) : ((wPk lo w) &&& (255 : Int64)).toInt32 = nI lo := by
  have : ∀ a : Fin 65, ∀ b : Fin 65, ((wPk a.val b.val) &&& (255 : Int64)).toInt32 = nI a.val := by decide +kernel
  exact this ⟨lo, by omega⟩ ⟨w, by omega⟩
/-- what an EXPR's reckoning may change: the spine's row from s on, the TRAP -/
def EFr (P s : Nat) (h h' : mv_H) : Prop := h'.2.1 = h.2.1 ∧ mv_r h' = mv_r h ∧ mv_b h' = mv_b h ∧ (∀ o k, ¬ (o = P ∧ k = 53) → mv_i h' o k = mv_i h o k) ∧ ∀ o k, ¬ (o = P + 31 ∧ s ≤ k) → mv_a h' o k = mv_a h o k
theorem EFr.refl (P s : Nat) (h : mv_H) : EFr P s h h := ⟨rfl, rfl, rfl, fun _ _ _ => rfl, fun _ _ _ => rfl⟩
theorem EFr.trans {P s : Nat} {h g k : mv_H} (a : EFr P s h g) (b : EFr P s g k) : EFr P s h k := ⟨b.1.trans a.1, b.2.1.trans a.2.1, b.2.2.1.trans a.2.2.1, fun o i q => (b.2.2.2.1 o i q).trans (a.2.2.2.1 o i q), fun o i q => (b.2.2.2.2 o i q).trans (a.2.2.2.2 o i q)⟩
/-- the same, the spine's top too -/
def EFw (P : Nat) (h h' : mv_H) : Prop := h'.2.1 = h.2.1 ∧ mv_b h' = mv_b h ∧ (∀ o k, ¬ (o = P ∧ (k = 53 ∨ k = 62)) → mv_i h' o k = mv_i h o k) ∧ ∀ o k, ¬ o = P + 31 → mv_a h' o k = mv_a h o k
theorem EFr.w {P s : Nat} {h h' : mv_H} (f : EFr P s h h') : EFw P h h' := ⟨f.1, f.2.2.1, fun o k q => f.2.2.2.1 o k (fun z => q ⟨z.1, Or.inl z.2⟩), fun o k q => f.2.2.2.2 o k (fun z => q z.1)⟩
theorem EFw.nf {P m : Nat} {h h' : mv_H} (f : EFw P h h') : NFr P 0 m h h' :=
  ⟨fun k _ _ _ => ⟨f.2.2.2 (P + 18) k (by omega), f.2.2.2 (P + 19) k (by omega), f.2.2.2 (P + 20) k (by omega), f.2.2.2 (P + 21) k (by omega), f.2.2.2 (P + 23) k (by omega), by rw [f.2.1]⟩, fun k _ _ _ => f.2.2.2 (P + 22) k (by omega), fun o k q _ => f.2.2.2 o k (by omega)⟩
/-- TRAP before, TRAP behind, what it should be worth, what was answered -/
def TrO (t t' : Int32) (o : Option Int64) (v : Int64) : Prop := (t = 0 → (∀ u, o = some u → v = u ∧ t' = 0) ∧ (o = none → t' = -3)) ∧ (¬ t = 0 → t' = t)
theorem TrO.val (t : Int32) (v : Int64) : TrO t t (some v) v := ⟨fun q => ⟨fun u hu => ⟨Option.some.inj hu, q⟩, fun hu => by cases hu⟩, fun _ => rfl⟩
theorem TrO.one {t t' : Int32} {o : Option Int64} {v : Int64} (F : Int64 → Int64) (a : TrO t t' o v) : TrO t t' (o.bind fun x => some (F x)) (F v) := by
  refine ⟨fun q => ?_, a.2⟩
  have a1 := a.1 q
  cases o with
  | none => exact ⟨fun u hu => (by cases hu), fun _ => a1.2 rfl⟩
  | some x => exact ⟨fun u hu => ⟨by rw [(a1.1 x rfl).1]; exact Option.some.inj hu, (a1.1 x rfl).2⟩, fun hu => by cases hu⟩
theorem m3n : ¬ (-3 : Int32) = 0 := by decide
theorem TrO.bnd {t t' t'' : Int32} {o : Option Int64} {f : Int64 → Option Int64} {v w : Int64} (a : TrO t t' o v) (b : TrO t' t'' (f v) w) : TrO t t'' (o.bind f) w := by
  refine ⟨fun q => ?_, fun q => ?_⟩
  · have a1 := a.1 q
    cases o with
    | none =>
      have e := a1.2 rfl
      refine ⟨fun u hu => (by cases hu), fun _ => ?_⟩
      rw [b.2 (by rw [e]; exact m3n), e]
    | some x =>
      obtain ⟨e1, e2⟩ := a1.1 x rfl
      have b1 := b.1 e2
      rw [e1] at b1
      exact b1
  · have e := a.2 q
    rw [b.2 (by rw [e]; exact q), e]
theorem TrO.two {t t' t'' : Int32} {o p : Option Int64} {v w : Int64} (F : Int64 → Int64 → Int64) (a : TrO t t' o v) (b : TrO t' t'' p w) : TrO t t'' (o.bind fun x => p.bind fun y => some (F x y)) (F v w) := a.bnd (f := fun x => p.bind fun y => some (F x y)) (b.one (F v))
/-- the THINGS' rows -/
def AtQ (P : Nat) (h : mv_H) (t c : Nat) : Prop := ∃ a, mv_a h (P + 5) t = nI a ∧ a + c ≤ 65536
def TBr (P : Nat) (e : E0q) (T : Nat) (h : mv_H) : Prop := T ≤ 64 ∧ ∀ t, t < T → mv_a h (P + 4) t = nI (e.2 t).2.1 ∧ (e.2 t).2.1 ≤ 65536 ∧ (mv_a h (P + 6) t = 0 ↔ (e.2 t).2.1 = 0) ∧ (¬ (e.2 t).2.1 = 0 → AtQ P h t (e.2 t).2.1) ∧ (mv_a h (P + 3) t = nI (e.2 t).1 ∧ (e.2 t).1 ≤ 64) ∧ mv_a h (P + 7) t = b01 (e.2 t).2.2 ∧ ((e.2 t).2.1 = 0 → (e.2 t).2.2 = false)
/-- the code of the op that is done -/
def COr (P : Nat) (C : List Nat) (h : mv_H) : Prop := C.length ≤ 64 ∧ mv_i h P 20 = nI C.length ∧ ∃ o cb, o < 4100 ∧ mv_i h P 63 = nI o ∧ mv_a h (P + 10) o = nI cb ∧ cb + C.length ≤ 32768 ∧ ∀ c k, c < 128 → k < C.length → (mv_a h (P + 13) (cb + k) = nI c ↔ C.getD k 0 = c)
/-- the book at work: its word, lets, THINGS are e, l, r -/
def EVq (P : Nat) (h : mv_H) (T : Nat) (C : List Nat) (e : E0q) (l : Nat → Int64) (r : Nat → Nat → Int64) : Prop := mv_l h P 52 = e.1 ∧ (∀ i, i < 64 → mv_b h (P + 26) i = l i) ∧ (∃ n, mv_i h P 61 = nI n ∧ n ≤ 12000) ∧ TBr P e T h ∧ (∀ t i, t < T → i < ncl e t → rdV P h t i = r t i) ∧ COr P C h
theorem rdV_fr {P : Nat} {h h' : mv_H} (f : EFw P h h') (t i : Nat) : rdV P h' t i = rdV P h t i := by
  have ea : ∀ o, ¬ o = P + 31 → mv_a h' o = mv_a h o := fun o q => funext fun k => f.2.2.2 o k q
  have eb : bsV P h' = bsV P h := by
    funext a b
    unfold bsV
    rw [f.2.1, ea (P + 6) (by omega), ea (P + 5) (by omega)]
  unfold rdV
  rw [eb, f.2.1, ea (P + 29) (by omega), ea (P + 30) (by omega), f.2.2.1 P 61 (by omega)]
theorem EVq.fr {P T : Nat} {h h' : mv_H} {C : List Nat} {e : E0q} {l : Nat → Int64} {r : Nat → Nat → Int64} (E : EVq P h T C e l r) (f : EFw P h h') : EVq P h' T C e l r := by
  obtain ⟨e1, e2, e3, ⟨e4, e5⟩, e6, ⟨e7, e8, o, cb, c1, c2, c3, c4, c5⟩⟩ := E
  have ea : ∀ o, ¬ o = P + 31 → mv_a h' o = mv_a h o := fun o q => funext fun k => f.2.2.2 o k q
  refine ⟨?_, ?_, ?_, ⟨e4, ?_⟩, ?_, ⟨e7, ?_, o, cb, c1, ?_, ?_, c4, ?_⟩⟩
  · have : mv_l h' P 52 = mv_l h P 52 := by show h'.2.1 P 52 = h.2.1 P 52; rw [f.1]
    rw [this]; exact e1
  · rw [f.2.1]; exact e2
  · rw [f.2.2.1 P 61 (by omega)]; exact e3
  · unfold AtQ; rw [ea (P + 4) (by omega), ea (P + 5) (by omega), ea (P + 6) (by omega), ea (P + 3) (by omega), ea (P + 7) (by omega)]; exact e5
  · intro t i ht hi
    rw [rdV_fr f]
    exact e6 t i ht hi
  · rw [f.2.2.1 P 20 (by omega)]; exact e8
  · rw [f.2.2.1 P 63 (by omega)]; exact c2
  · rw [ea (P + 10) (by omega)]; exact c3
  · rw [ea (P + 13) (by omega)]; exact c5
def ENq (P T : Nat) (C LW : List Nat) (e : E0q) (l : Nat → Int64) (r : Nat → Nat → Int64) (h : mv_H) : Prop := EVq P h T C e l r ∧ EWq P h T C LW e l r
theorem ENq.fr {P T : Nat} {C LW : List Nat} {e : E0q} {l : Nat → Int64} {r : Nat → Nat → Int64} {h h' : mv_H} (E : ENq P T C LW e l r h) (f : EFw P h h') : ENq P T C LW e l r h' := by
  refine ⟨E.1.fr f, ?_, E.2.2⟩
  have : mv_a h' (P + 3) = mv_a h (P + 3) := funext fun k => f.2.2.2 (P + 3) k (by omega)
  rw [this]
  exact E.2.1
/-- an answer that is as it should be -/
def EvO (P s w : Nat) (o : Option Int64) (h : mv_H) (t0 : Int32) (res : Option (Int64 × mv_H)) : Prop := ∃ v h', res = some (v, h') ∧ EFr P s h h' ∧ FTq w v ∧ TrO t0 (mv_i h' P 53) o v
/-! a cell -/
theorem cel_V {P T : Nat} {h : mv_H} {C : List Nat} {e : E0q} {l : Nat → Int64} {r : Nat → Nat → Int64} (E : EVq P h T C e l r) {t : Nat} (ht : t < T) (hc : ¬ (e.2 t).2.1 = 0) (i : Int64) : ∃ h', f_Book_cell P h (nI t) i = some (if i.toBitVec.toNat < (e.2 t).2.1 then r t i.toBitVec.toNat else 0, h') ∧ (∀ s, EFr P s h h') ∧ TrO (mv_i h P 53) (mv_i h' P 53) (if i.toBitVec.toNat < (e.2 t).2.1 then some (r t i.toBitVec.toNat) else none) (if i.toBitVec.toNat < (e.2 t).2.1 then r t i.toBitVec.toNat else 0) := by
  obtain ⟨-, -, ⟨n, n1, n2⟩, ⟨t1, t2⟩, rd, -⟩ := E
  obtain ⟨b1, b2, b3, b4, -⟩ := t2 t ht
  obtain ⟨a, a1, a2⟩ := b4 hc
  clear b4
  have e0 : f_Book_cell P h (nI t) i = if b01 (decide (i.toBitVec.toNat < (e.2 t).2.1)) = (0 : Int32) then (if (mv_i h P 53) = (0 : Int32) then some ((0 : Int64), mv_si h P 53 (-3 : Int32)) else some ((0 : Int64), h)) else (xhb (f_Book_read_0 P h (nI t) ((i).toInt32)) fun u6 g5 => some (u6, g5)) := by
    unfold f_Book_cell f_Book_cell_38
    rw [xvi_n (show t < 4100 by omega) (by decide), cond_true, cln (by omega), b1, in_cl h i (by omega) b2, xhb_s]
    rfl
  by_cases q : i.toBitVec.toNat < (e.2 t).2.1
  · have ei : i.toInt32 = nI i.toBitVec.toNat := by
      have := nJi (x := i.toBitVec.toNat) (by omega)
      rw [nJ_bv] at this
      exact this
    refine ⟨h, ?_, fun s => EFr.refl _ _ _, ?_⟩
    · rw [e0, if_pos q, decide_eq_true q, if_neg (by decide), ei, rd_V n1 n2 (by omega) (by omega) (fun _ => ⟨a, a1, by omega⟩), xhb_s, rd t _ ht (ncl_c q)]
    · rw [if_pos q, if_pos q]
      exact TrO.val _ _
  · rw [if_neg q, if_neg q]
    by_cases z : mv_i h P 53 = 0
    · refine ⟨mv_si h P 53 (-3), ?_, fun s => ⟨rfl, rfl, rfl, fun o k y => sin9 h _ y, fun _ _ _ => rfl⟩, ?_⟩
      · rw [e0, decide_eq_false q, if_pos (by decide), if_pos z]
      · rw [mv_si_s]
        exact ⟨fun _ => ⟨fun u hu => (by cases hu), fun _ => rfl⟩, fun y => absurd z y⟩
    · refine ⟨h, ?_, fun s => EFr.refl _ _ _, ⟨fun y => absurd y z, fun _ => rfl⟩⟩
      rw [e0, decide_eq_false q, if_pos (by decide), if_neg z]
/-! what the smaller ones do -/
section EVS
variable (P T : Nat) (C LW : List Nat) (e : E0q) (l : Nat → Int64) (r : Nat → Nat → Int64)
def KOk (kR : Nat → Int32 → mv_H → Option (Int64 × mv_H)) (rr : Nat) : Prop := ∀ (n x w : Nat) (D : DnE) (h : mv_H) (s : Nat), ND P h T 0 C LW n rr x w D → ENq P T C LW e l r h → mv_i h P 62 = nI s → s + x < 33000 → EvO P s w (D e l r) h (mv_i h P 53) (kR 0 (nI x) h)
def KRw (kR : Nat → Int32 → mv_H → Option (Int64 × mv_H)) (rr : Nat) : Prop := ∀ (n : Nat) (p : Nat × Nat × DnE) (L : List (Nat × Nat × DnE)) (w : Nat) (D : DnE) (h : mv_H) (s : Nat), RowOK P h (p :: L) → (∀ q, q ∈ p :: L → s + q.1 < 33000 ∧ ND P h T 0 C LW n rr q.1 q.2.1 q.2.2) → joinL L p.2.1 p.2.2 = (w, D) → w ≤ 64 → ENq P T C LW e l r h → mv_i h P 62 = nI s → EvO P s w (D e l r) h (mv_i h P 53) (kR 2 (nI p.1) h)
def KSm (kR : Nat → Int32 → mv_H → Option (Int64 × mv_H)) (rr : Nat) : Prop := ∀ (n x w : Nat) (D : DnE) (h : mv_H) (s : Nat), ND P h T 0 C LW n rr x w D → ¬ mv_a h (P + 18) x = 7 → ¬ mv_a h (P + 18) x = 8 → ENq P T C LW e l r h → mv_i h P 62 = nI s → s + x < 33000 → EvO P s w (D e l r) h (mv_i h P 53) (kR 1 (nI x) h)
end EVS
