/-! the reference's STEP, whole -/
def QFr (P : Nat) (h h' : mv_H) : Prop := mv_r h' = mv_r h ∧ (∀ o k, ¬ (o = P ∧ k = 52) → mv_l h' o k = mv_l h o k) ∧ (∀ o k, ¬ (o = P ∧ (k = 53 ∨ k = 61 ∨ k = 62)) → mv_i h' o k = mv_i h o k) ∧ (∀ o, ¬ (o = P + 29 ∨ o = P + 30 ∨ o = P + 31) → mv_a h' o = mv_a h o) ∧ ∀ o, ¬ (o = P + 26 ∨ o = P + 27 ∨ o = P + 28 ∨ o = P + 32) → mv_b h' o = mv_b h o
/-- as a STEP begins -/
def stH (P : Nat) (y : Int32) (w : Int64) (h : mv_H) : mv_H := mv_si (mv_si (mv_si (mv_sl h P 52 w) P 53 y) P 61 0) P 62 0
theorem stH_i {P : Nat} {y : Int32} {w : Int64} {h : mv_H} (o k : Nat) (q : ¬ (o = P ∧ (k = 53 ∨ k = 61 ∨ k = 62))) : mv_i (stH P y w h) o k = mv_i h o k := by
  unfold stH
  rw [sin9 _ _ (fun z => q ⟨z.1, Or.inr (Or.inr z.2)⟩), sin9 _ _ (fun z => q ⟨z.1, Or.inr (Or.inl z.2)⟩), sin9 _ _ (fun z => q ⟨z.1, Or.inl z.2⟩)]
  rfl
theorem stH_62 {P : Nat} {y : Int32} {w : Int64} {h : mv_H} : mv_i (stH P y w h) P 62 = 0 := mv_si_s _ _ _ _
theorem stH_61 {P : Nat} {y : Int32} {w : Int64} {h : mv_H} : mv_i (stH P y w h) P 61 = 0 := by
  unfold stH
  rw [sin9 _ _ (by omega)]
  exact mv_si_s _ _ _ _
theorem stH_53 {P : Nat} {y : Int32} {w : Int64} {h : mv_H} : mv_i (stH P y w h) P 53 = y := by
  unfold stH
  rw [sin9 _ _ (by omega), sin9 _ _ (by omega)]
  exact mv_si_s _ _ _ _
theorem stH_l {P : Nat} {y : Int32} {w : Int64} {h : mv_H} : mv_l (stH P y w h) P 52 = w := mv_u_same _ _ _ _
theorem stH_q {P : Nat} {y : Int32} {w : Int64} {h : mv_H} : QFr P h (stH P y w h) := ⟨rfl, fun o k q => mv_u_ne _ _ q, stH_i, fun _ _ => rfl, fun _ _ => rfl⟩
theorem QFr.rf {P : Nat} {h g k : mv_H} (a : QFr P h g) (b : RFr P g k) : QFr P h k := ⟨b.2.1.trans a.1, fun o i q => (congrFun (congrFun b.1 o) i).trans (a.2.1 o i q), fun o i q => (b.2.2.1 o i (fun z => q ⟨z.1, by omega⟩)).trans (a.2.2.1 o i q), fun o q => (b.2.2.2.1 o q).trans (a.2.2.2.1 o q), fun o q => (b.2.2.2.2 o (by omega)).trans (a.2.2.2.2 o q)⟩
theorem QFr.cf {P : Nat} {h g k : mv_H} (a : QFr P h g) (b : CFr P g k) : QFr P h k := ⟨b.2.2.1.trans a.1, fun o i q => (congrFun (congrFun b.2.1 o) i).trans (a.2.1 o i q), fun o i q => (congrFun (congrFun b.1 o) i).trans (a.2.2.1 o i q), fun o q => (congrFun b.2.2.2.1 o).trans (a.2.2.2.1 o q), fun o q => (b.2.2.2.2 o (by omega)).trans (a.2.2.2.2 o q)⟩
theorem bsV_r {P : Nat} {h h' : mv_H} (f : RFr P h h') : bsV P h' = bsV P h := by
  funext a b
  unfold bsV
  rw [f.2.2.2.1 (P + 6) (by omega), f.2.2.2.1 (P + 5) (by omega), f.2.2.2.2 (P + 27) (by omega), f.2.2.2.2 (P + 28) (by omega)]
theorem stp_N {P : Nat} {h : mv_H} (w : Int64) (ho : mv_i h P 63 < 0) : ∃ h', f_Book_step P h w = some (-2, h') ∧ QFr P h h' ∧ bsV P h' = bsV P h := by
  refine ⟨stH P (-2) w h, ?_, stH_q, rfl⟩
  have n0 : ¬ (0 : Int32) ≤ mv_i (mv_sl h P 52 w) P 63 := fun q => by
    have q : (0 : Int32) ≤ mv_i h P 63 := q
    have a := Int32.le_iff_toInt_le.mp q
    have b := Int32.lt_iff_toInt_lt.mp ho
    omega
  unfold f_Book_step f_Book_step_19 f_Book_step_52
  rw [xk_s, if_neg n0, xk_s, xk_s, xk_s]
  show (if mv_i (stH P (-2) w h) P 53 = (0 : Int32) then (bif xvi (mv_i (stH P (-2) w h) P 63) 4100 then xhv (f_BookU P 126 0 (mv_a (stH P (-2) w h) (P + 11) ((mv_i (stH P (-2) w h) P 63)).toNatClampNeg) (stH P (-2) w h)) fun g24 => (if (mv_i g24 P 53) = (0 : Int32) then (f_Book_step_69 P 200000 (0 : Int32) (0 : Int32) g24) else (some ((mv_i g24 P 53), g24))) else none) else (if (mv_i (stH P (-2) w h) P 53) = (0 : Int32) then (f_Book_step_69 P 200000 (0 : Int32) (0 : Int32) (stH P (-2) w h)) else (some ((mv_i (stH P (-2) w h) P 53), (stH P (-2) w h))))) = _
  rw [stH_53, if_neg (by decide), if_neg (by decide)]
theorem gfT_ft {e : E0q} {T bits : Nat} {fr : Option Nat} {s : STq} (hw : ∀ t, t < T → (e.2 t).1 ≤ 64) (F : ∀ t i, t < T → i < ncl e t → FTq (e.2 t).1 (s.2.1 t i)) : ∀ t i, t < T → i < ncl e t → FTq (e.2 t).1 (gfT e bits fr s t i) := by
  intro t i ht hi
  unfold gfT
  cases fr with
  | none => exact F t i ht hi
  | some u =>
    show FTq (e.2 t).1 ((if s.2.2 u = true then s.2.1 else wrT e u 0 (s.2.1 u 0 + nJ (bits / 8)) s.2.1) t i)
    by_cases c : s.2.2 u = true
    · rw [if_pos c]; exact F t i ht hi
    · rw [if_neg c]
      unfold wrT
      by_cases c2 : (e.2 u).2.2 = true ∧ 0 = 0
      · rw [if_pos c2]; exact F t i ht hi
      · rw [if_neg c2]
        show FTq (e.2 t).1 (if t = u ∧ i = 0 then _ else s.2.1 t i)
        by_cases c3 : t = u ∧ i = 0
        · rw [if_pos c3, c3.1]
          exact FTq.and _ (hw u (by rw [← c3.1]; exact ht))
        · rw [if_neg c3]; exact F t i ht hi
theorem stp_V {P T n u lo hi : Nat} {C LW' : List Nat} {e : E0q} {D : DnS} {at9 : Nat → Nat} {fr : Option Nat} {h : mv_H} {o : Nat} {r : Nat → Nat → Int64} (B : TBr P e T h) (A : ATr P e T at9 h) (CO : COr P C h) (ho : mv_i h P 63 = nI o) (ho2 : o < 4100) (FR : FRr P T e fr h) (V : ∀ t i, t < T → i < ncl e t → bsV P h t i = r t i) (F : ∀ t i, t < T → i < ncl e t → FTq (e.2 t).1 (r t i)) (BK : BKq P h (SN P h T C n u) [] lo (mv_a h (P + 11) o) D LW' hi) (hhi : hi ≤ 12000) (hu : u ≤ 61) : ∃ h', f_Book_step P h e.1 = some ((D e (mv_b h (P + 26), r, fun _ => false)).1, h') ∧ QFr P h h' ∧ (∀ t i, t < T → i < ncl e t → bsV P h' t i = if (D e (mv_b h (P + 26), r, fun _ => false)).1 = 0 then gfT e C.length fr (D e (mv_b h (P + 26), r, fun _ => false)).2 t i else r t i) ∧ ((D e (mv_b h (P + 26), r, fun _ => false)).1 = 0 → ∀ t i, t < T → i < ncl e t → FTq (e.2 t).1 (gfT e C.length fr (D e (mv_b h (P + 26), r, fun _ => false)).2 t i)) := by
  generalize hs0 : ((mv_b h (P + 26), r, fun _ => false) : STq) = s0
  have p0 : (0 : Int32) ≤ mv_i (mv_sl h P 52 e.1) P 63 := by
    show (0 : Int32) ≤ mv_i h P 63
    rw [ho]
    exact (nIle (a := 0) (by omega) (by omega)).mpr (by omega)
  have h63 : mv_i (stH P 0 e.1 h) P 63 = nI o := by rw [stH_i P 63 (by omega)]; exact ho
  have e0 : f_Book_step P h e.1 = xhv (f_BookU P 126 0 (mv_a h (P + 11) o) (stH P 0 e.1 h)) fun g24 => (if (mv_i g24 P 53) = (0 : Int32) then (f_Book_step_69 P 200000 (0 : Int32) (0 : Int32) g24) else (some ((mv_i g24 P 53), g24))) := by
    unfold f_Book_step f_Book_step_19 f_Book_step_52
    rw [xk_s, if_pos p0, xk_s, xk_s, xk_s]
    show (if mv_i (stH P 0 e.1 h) P 53 = (0 : Int32) then (bif xvi (mv_i (stH P 0 e.1 h) P 63) 4100 then xhv (f_BookU P 126 0 (mv_a (stH P 0 e.1 h) (P + 11) ((mv_i (stH P 0 e.1 h) P 63)).toNatClampNeg) (stH P 0 e.1 h)) fun g24 => (if (mv_i g24 P 53) = (0 : Int32) then (f_Book_step_69 P 200000 (0 : Int32) (0 : Int32) g24) else (some ((mv_i g24 P 53), g24))) else none) else (if (mv_i (stH P 0 e.1 h) P 53) = (0 : Int32) then (f_Book_step_69 P 200000 (0 : Int32) (0 : Int32) (stH P 0 e.1 h)) else (some ((mv_i (stH P 0 e.1 h) P 53), (stH P 0 e.1 h))))) = _
    rw [stH_53, if_pos rfl, h63, xvi_n ho2 (by decide), cond_true, cln (by omega)]
    rfl
  have af : AFr P h (stH P 0 e.1 h) := ⟨fun _ _ => rfl, fun _ _ => rfl⟩
  have BKg : BKq P (stH P 0 e.1 h) (SN P (stH P 0 e.1 h) T C n u) [] lo (mv_a h (P + 11) o) D LW' hi := BKq.cg (h := h) (h' := stH P 0 e.1 h) (SN.cg af n u) rfl BK
  have S : SSq P T C [] e s0 (stH P 0 e.1 h) 0 := by
    subst hs0
    refine ⟨⟨⟨stH_l, fun i _ => rfl, ⟨0, stH_61, by omega⟩, B, fun t i ht hi => ?_, ?_⟩, fun t i w ht hi hw hw2 => ?_, fun i w hw => ?_, fun c _ _ => fld_ft c CO.1 e.1⟩, stH_62, ⟨stH_61, by omega⟩, fun k hk => absurd hk (by omega), fun t _ _ => ⟨fun q => (by cases q), fun ⟨k, hk, _⟩ => absurd hk (by omega)⟩⟩
    · unfold rdV
      rw [stH_61]
      exact V t i ht hi
    · unfold COr
      rw [stH_i P 20 (by omega), stH_i P 63 (by omega)]
      exact CO
    · obtain ⟨b1, b2⟩ := (B.2 t ht).2.2.2.2.1
      have hw : mv_a h (P + 3) t = nI w := hw
      rw [b1] at hw
      rw [← (nIinj (by omega) (by omega)).mp hw]
      exact F t i ht hi
    · cases hw
  obtain ⟨h1, x1, f1, r1⟩ := (bdU P T C e 126 u).1 (by omega) n [] lo (mv_a h (P + 11) o) D LW' hi s0 (stH P 0 e.1 h) 0 BKg S (by omega) hhi stH_53
  have q1 : QFr P h h1 := stH_q.rf f1
  rw [e0, x1]
  show ∃ h', (if (mv_i h1 P 53) = (0 : Int32) then (f_Book_step_69 P 200000 (0 : Int32) (0 : Int32) h1) else (some ((mv_i h1 P 53), h1))) = _ ∧ _
  by_cases z : (D e s0).1 = 0
  · obtain ⟨z1, k, hk, S1⟩ := r1.1 z
    rw [if_pos z1]
    obtain ⟨⟨EV, F9, -⟩, -, ⟨k1, k2⟩, WV, AS⟩ := S1
    have B1 := EV.2.2.2.1
    have A1 : ATr P e T at9 h1 := by
      unfold ATr
      rw [f1.2.2.2.1 (P + 5) (by omega)]
      exact A
    obtain ⟨x3, y1, y2⟩ := mv_lp k1 k2 k 0 200000 0 (by omega) (by omega) (Or.inl rfl) ⟨fun _ => fun ⟨j, hj, _⟩ => absurd hj (by omega), fun _ => rfl⟩
    obtain ⟨h2, y3, y4, y5⟩ := cm_lp B1 A1 k1 k2 WV x3 k 0 200000 h1 (by omega) (by omega) (CFr.refl _ _) (fun t i _ _ => rfl)
    have f18 : mv_i h1 P 18 = mv_i h P 18 := q1.2.2.1 P 18 (by omega)
    have FR2 : FRr P T e fr h2 := by
      unfold FRr
      rw [y4.1, f18]
      exact FR
    have B2 : TBr P e T h2 := by
      unfold TBr AtQ
      rw [y4.2.2.2.1]
      exact B1
    obtain ⟨h', w1, w2, w3⟩ := fin_V (s := (D e s0).2) (bits := C.length) (x3 := x3) B2 (by rw [y4.1, q1.2.2.1 P 20 (by omega)]; exact CO.2.1) CO.1 FR2 (fun t ft => by
      rcases FR with ⟨c1, -⟩ | ⟨t', c1, c2, c3, c4⟩
      · rw [c1] at ft; cases ft
      · rw [c1] at ft
        obtain rfl := Option.some.inj ft
        rw [y2, f18, c3, AS t' c2 c4]) (fun t i ht hi => by
      rw [y5 t i ht hi, ← EV.2.2.2.2.1 t i ht hi]
      unfold rdV
      rw [k1, cln (by omega)])
    refine ⟨h', ?_, (q1.cf y4).cf w2, fun t i ht hi => ?_, fun _ => gfT_ft (fun t ht => (B.2 t ht).2.2.2.2.1.2) (fun t i ht hi => F9 t i (e.2 t).1 ht hi ((B1.2 t ht).2.2.2.2.1.1) ((B.2 t ht).2.2.2.2.1.2))⟩
    · rw [show (0 : Int32) = nI 0 from rfl] at y1 ⊢
      rw [y1, y3, w1, z]
    · rw [if_pos z]
      exact w3 t i ht hi
  · have e5 := r1.2 z
    rw [if_neg (by rw [e5]; exact z), e5]
    refine ⟨h1, rfl, q1, fun t i ht hi => ?_, fun w => absurd w z⟩
    rw [if_neg z, bsV_r f1]
    exact V t i ht hi
