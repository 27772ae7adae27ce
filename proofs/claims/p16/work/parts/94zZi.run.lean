/-! the reference's step and run -/
def MSf (B : Nat) (h g : mv_H) : Prop := mv_r g = mv_r h ∧ (∀ o k, ¬ (o = B ∧ (k = 52 ∨ k = 64)) → mv_l g o k = mv_l h o k) ∧ (∀ o k, ¬ (o = 70 ∧ (k = 2 ∨ k = 12 ∨ k = 13 ∨ k = 14)) → ¬ (o = B ∧ (k = 53 ∨ k = 61 ∨ k = 62 ∨ k = 63)) → mv_i g o k = mv_i h o k) ∧ (∀ o, ¬ (o = B + 29 ∨ o = B + 30 ∨ o = B + 31) → mv_a g o = mv_a h o) ∧ ∀ o, ¬ (o = B + 26 ∨ o = B + 27 ∨ o = B + 28 ∨ o = B + 32) → mv_b g o = mv_b h o
theorem MSf.rf {B : Nat} (h : mv_H) : MSf B h h := ⟨rfl, fun _ _ _ => rfl, fun _ _ _ _ => rfl, fun _ _ => rfl, fun _ _ => rfl⟩
theorem MSf.tr {B : Nat} {h g f : mv_H} (a : MSf B h g) (b : MSf B g f) : MSf B h f := ⟨b.1.trans a.1, fun o k q => (b.2.1 o k q).trans (a.2.1 o k q), fun o k q1 q2 => (b.2.2.1 o k q1 q2).trans (a.2.2.1 o k q1 q2), fun o q => (b.2.2.2.1 o q).trans (a.2.2.2.1 o q), fun o q => (b.2.2.2.2 o q).trans (a.2.2.2.2 o q)⟩
theorem MSf.si {B k : Nat} {h g : mv_H} (a : MSf B h g) (hk : k = 2 ∨ k = 12 ∨ k = 13 ∨ k = 14) (x : Int32) : MSf B h (mv_si g 70 k x) := a.tr ⟨rfl, fun _ _ _ => rfl, fun o k' q1 _ => mv_si_o g _ (fun z => q1 ⟨z.1, by rw [z.2]; exact hk⟩), fun _ _ => rfl, fun _ _ => rfl⟩
theorem MSf.d {B : Nat} {h g f : mv_H} (a : MSf B h g) (d : D63 B g f) : MSf B h f := a.tr ⟨by show f.2.2.1 = g.2.2.1; rw [d.1], fun o k _ => by show f.2.1 o k = g.2.1 o k; rw [d.1], fun o k _ q2 => d.2 o k (by omega), fun o _ => by rw [d.a], fun o _ => by rw [d.b]⟩
theorem MSf.q {B : Nat} {h g f : mv_H} (a : MSf B h g) (q : QFr B g f) : MSf B h f := a.tr ⟨q.1, fun o k z => q.2.1 o k (by omega), fun o k _ z => q.2.2.1 o k (by omega), q.2.2.2.1, q.2.2.2.2⟩
theorem RWb.ms {B : Nat} {r : SI × LZ × List DnS} {h g : mv_H} (hB : B = 74 ∨ B = 108) (W : RWb B r h) (f : MSf B h g) : RWb B r g := by
  obtain ⟨S, X, L, I, U⟩ := W
  have fa : ∀ o, ¬ (o = B + 29 ∨ o = B + 30 ∨ o = B + 31) → mv_a g o = mv_a h o := f.2.2.2.1
  refine ⟨?_, X.fr (fun k hk => f.2.2.1 B k (by omega) (by omega)) (fun o k q1 q2 _ => by rw [fa o (by omega)]) (fun k _ => by rw [f.2.2.2.2 (B + 24) (by omega)]) (fun o k q _ => by rw [fa o (by omega)]), fun t ht => by rw [fa (B + 5) (by omega)]; exact L t ht, I, U⟩
  exact S.fr (fun k hk => f.2.2.1 B k (by omega) (by omega)) (fun i _ => by rw [fa (B + 10) (by omega)]) (fun i _ => by rw [fa (B + 13) (by omega)]) (fun o k ho _ => by rw [fa o (by omega)])
/-- what a STEP of the reference leaves -/
def MTr (B : Nat) (r : SI × LZ × List DnS) (w : Int64) (R : Nat → Nat → Int64) (h h' : mv_H) : Prop := BVr B r h' (stF r w R).2 ∧ FTr r (stF r w R).2 ∧ mv_i h' 70 14 = (stF r w R).1 ∧ mv_i h' 70 12 = (if (stF r w R).1 = 0 then mv_i h 70 12 + 1 else mv_i h 70 12) ∧ mv_i h' 70 13 = (if (stF r w R).1 = 0 then mv_i h 70 13 else mv_i h 70 13 + 1)
theorem told_e {B : Nat} (h : mv_H) (x : Int32) : ∃ h', f_Model_told B h x = some h' ∧ MSf B h h' ∧ mv_i h' 70 14 = x ∧ mv_i h' 70 12 = (if x = 0 then mv_i h 70 12 + 1 else mv_i h 70 12) ∧ mv_i h' 70 13 = (if x = 0 then mv_i h 70 13 else mv_i h 70 13 + 1) ∧ mv_i h' 70 2 = mv_i h 70 2 ∧ mv_b h' = mv_b h ∧ mv_a h' = mv_a h := by
  unfold f_Model_told
  rw [xk_s]
  have i12 : mv_i (mv_si h 70 14 x) 70 12 = mv_i h 70 12 := mv_si_o h _ (by omega)
  have i13 : mv_i (mv_si h 70 14 x) 70 13 = mv_i h 70 13 := mv_si_o h _ (by omega)
  by_cases c : x = 0
  · rw [if_pos c, xk_s, if_pos c, if_pos c]
    refine ⟨_, rfl, ((MSf.rf h).si (by omega) _).si (by omega) _, (mv_si_o _ _ (by omega)).trans (mv_si_s _ _ _ _), (mv_si_s _ _ _ _).trans (by rw [i12]), (mv_si_o _ _ (by omega)).trans i13, (mv_si_o _ _ (by omega)).trans (mv_si_o _ _ (by omega)), rfl, rfl⟩
  · rw [if_neg c, xk_s, if_neg c, if_neg c]
    refine ⟨_, rfl, ((MSf.rf h).si (by omega) _).si (by omega) _, (mv_si_o _ _ (by omega)).trans (mv_si_s _ _ _ _), (mv_si_o _ _ (by omega)).trans i12, (mv_si_s _ _ _ _).trans (by rw [i13]), (mv_si_o _ _ (by omega)).trans (mv_si_o _ _ (by omega)), rfl, rfl⟩
section MST
variable {B : Nat} {r : SI × LZ × List DnS} {h : mv_H} {R : Nat → Nat → Int64}
theorem bsV_b {h h' : mv_H} (ea : mv_a h' = mv_a h) (eb : mv_b h' = mv_b h) : bsV B h' = bsV B h := by
  funext a b
  unfold bsV
  rw [ea, eb]
/-- decode of the reference, no shipped machine -/
theorem mdc_e (hB : B = 74 ∨ B = 108) (w : Int64) (W : RWb B r h) (h11 : mv_i h 70 11 = 0) : ∃ v g, f_Model_decode B h w = some (v, g) ∧ MSf B h g ∧ mv_i g B 63 = v ∧ DCs r.1 w v ∧ mv_b g = mv_b h ∧ mv_a g = mv_a h ∧ mv_i g 70 2 = 0 ∧ (∀ k, k = 12 ∨ k = 13 ∨ k = 14 → mv_i g 70 k = mv_i h 70 k) ∧ mv_l g = mv_l h := by
  have hb : r.1.bits ≤ 64 := by have := W.2.2.2.1.2.2.2.1; omega
  have f0 : MSf B h (mv_si h 70 2 0) := (MSf.rf h).si (by omega) 0
  have W0 := W.ms hB f0
  obtain ⟨cnt, g, e, d, D, c1⟩ := dec_e w W0.1 hb W.2.2.2.2
  have i9 : ∀ k, ¬ k = 2 → mv_i g 70 k = mv_i h 70 k := fun k hk => (d.2 70 k (by omega)).trans (mv_si_o h _ (by omega))
  refine ⟨mv_i g B 63, g, ?_, f0.d d, rfl, D, d.b, d.a, (d.2 70 2 (by omega)).trans (mv_si_s _ _ _ _), fun k hk => i9 k (by omega), by show g.2.1 = h.2.1; rw [d.1]; rfl⟩
  unfold f_Model_decode
  rw [xk_s, show mv_i (mv_si h 70 2 0) 70 11 = mv_i h 70 11 from mv_si_o h _ (by omega), if_pos h11, e, xhb_s, if_pos c1]
  rfl
theorem mst_e (hB : B = 74 ∨ B = 108) (w : Int64) (W : RWb B r h) (V : BVr B r h R) (F : FTr r R) (h11 : mv_i h 70 11 = 0) : ∃ h', f_Model_step B h w = some ((stF r w R).1, h') ∧ MSf B h h' ∧ MTr B r w R h h' ∧ mv_i h' 70 2 = 0 := by
  have f0 : MSf B h (mv_si h 70 2 0) := (MSf.rf h).si (by omega) 0
  have W0 := W.ms hB f0
  have e11 : mv_i (mv_si h 70 2 0) 70 11 = 0 := (mv_si_o h _ (by omega)).trans h11
  obtain ⟨v, g, e, f1, gv, D, eb, ea, g2, gk, -⟩ := mdc_e hB w W0 e11
  have f01 := f0.tr f1
  have W1 := W.ms hB f01
  have g11 : mv_i g 70 11 = 0 := (f01.2.2.1 70 11 (by omega) (by omega)).trans h11
  have V1 : BVr B r g R := fun t i ht hi => by rw [bsV_b ea eb]; exact V t i ht hi
  rw [← gv] at D
  obtain ⟨g6, e6, q6, V6, F6⟩ := bst_e W1 V1 F D
  obtain ⟨h', e7, f7, t14, t12, t13, t2, tb, ta⟩ := told_e (B := B) g6 (stF r w R).1
  have i6 : ∀ k, mv_i g6 70 k = mv_i g 70 k := fun k => q6.2.2.1 70 k (by omega)
  have k12 : mv_i g6 70 12 = mv_i h 70 12 := (i6 12).trans ((gk 12 (by omega)).trans (mv_si_o h _ (by omega)))
  have k13 : mv_i g6 70 13 = mv_i h 70 13 := (i6 13).trans ((gk 13 (by omega)).trans (mv_si_o h _ (by omega)))
  refine ⟨h', ?_, (f01.q q6).tr f7, ⟨fun t i ht hi => by rw [bsV_b ta tb]; exact V6 t i ht hi, F6, t14, by rw [t12, k12], by rw [t13, k13]⟩, ?_⟩
  · unfold f_Model_step f_Model_step_36
    rw [xk_s, e, xhb_s, g11, if_pos rfl, e6, xhb_s, e7, xhv_s, t14]
    by_cases c : (0 : Int32) ≤ v
    · rw [if_pos c]
    · rw [if_neg c]
      have hv : v < 0 := Int32.not_le.mp c
      rw [gv] at D
      rw [stF_n (R := R) (dcV_e W.2.2.2.2 D) hv]
  · rw [t2, i6, g2]
/-! fetch -/
/-- only the fetched WORD changes -/
def LFr (B : Nat) (h g : mv_H) : Prop := g.1 = h.1 ∧ g.2.2 = h.2.2 ∧ ∀ o k, ¬ (o = B ∧ k = 64) → mv_l g o k = mv_l h o k
theorem LFr.a {h g : mv_H} (f : LFr B h g) : mv_a g = mv_a h := by
  show g.2.2.2.1 = h.2.2.2.1
  rw [f.2.1]
theorem LFr.b {h g : mv_H} (f : LFr B h g) : mv_b g = mv_b h := by
  show g.2.2.2.2 = h.2.2.2.2
  rw [f.2.1]
theorem LFr.i {h g : mv_H} (f : LFr B h g) : mv_i g = mv_i h := f.1
theorem LFr.ms {h g : mv_H} (f : LFr B h g) : MSf B h g := ⟨by show g.2.2.1 = h.2.2.1; rw [f.2.1], fun o k q => f.2.2 o k (by omega), fun o k _ _ => by rw [f.i], fun o _ => by rw [f.a], fun o _ => by rw [f.b]⟩
theorem fw_lp {a p f : Nat} {x1 : Int64} (hf : f < 4100) (h21 : mv_i h B 21 = nI f) (h5 : mv_a h (B + 5) f = nI a) (hx : x1.toInt32 = nI p) : ∀ (b nn : Nat) (g : mv_H), a + p + b ≤ 65536 → b < nn → LFr B h g → ∃ g', f_Book_fetchWord_50 B nn x1 (nI b - 1) g = some (1, g') ∧ LFr B h g' ∧ mv_l g' B 64 = wdL (fun i => mv_b h (B + 28) (a + p + i)) b (mv_l g B 64) := by
  intro b
  induction b with
  | zero =>
    intro nn g _ hn d
    obtain ⟨nn, rfl⟩ : ∃ q, nn = q + 1 := ⟨nn - 1, by omega⟩
    show ∃ g', fF_Book_fetchWord_50 B (f_Book_fetchWord_50 B nn) x1 (nI 0 - 1) g = some (1, g') ∧ _
    unfold fF_Book_fetchWord_50
    rw [if_pos (show nI 0 - 1 < (0 : Int32) by decide), xzb01.2, cond_true]
    exact ⟨g, rfl, d, rfl⟩
  | succ b ih =>
    intro nn g hs hn d
    obtain ⟨nn, rfl⟩ : ∃ q, nn = q + 1 := ⟨nn - 1, by omega⟩
    show ∃ g', fF_Book_fetchWord_50 B (f_Book_fetchWord_50 B nn) x1 (nI (b + 1) - 1) g = some (1, g') ∧ _
    unfold fF_Book_fetchWord_50
    rw [show nI (b + 1) - (1 : Int32) = nI b from nIsub (a := b + 1) (b := 1) (by omega) (by omega), if_neg (fun q => by have := (nIlt (b := 0) (by omega) (by omega)).mp q; omega), d.i, h21, xvi_n hf (by decide), cond_true, cln (by omega), d.a, h5, hx, nIad (by omega), nIad (by omega), xvi_n (show a + p + b < 65536 by omega) (by decide), cond_true, cln (by omega), xk_s, show nI b + (-1 : Int32) = nI b - 1 from (Int32.sub_eq_add_neg (nI b) 1).symm, d.b]
    obtain ⟨g', e, d', l'⟩ := ih nn (mv_sl g B 64 ((mv_l g B 64 <<< (((8 : Int32)).toInt64 &&& 63)) ||| mv_b h (B + 28) (a + p + b))) (by omega) (by omega) ⟨d.1, d.2.1, fun o k q => (mv_u_ne (mv_l g) _ q).trans (d.2.2 o k q)⟩
    refine ⟨g', e, d', l'.trans ?_⟩
    rw [show mv_l (mv_sl g B 64 ((mv_l g B 64 <<< (((8 : Int32)).toInt64 &&& 63)) ||| mv_b h (B + 28) (a + p + b))) B 64 = (mv_l g B 64 <<< (((8 : Int32)).toInt64 &&& 63)) ||| mv_b h (B + 28) (a + p + b) from mv_u_same (mv_l g) B 64 _]
    rfl
theorem fwd_e {p : List Nat × List Nat} (W : RWb B r h) (V : BVr B r h R) (hp : r.1.fe = some p) : ∃ v g, f_Book_fetchWord B h = some (v, g) ∧ LFr B h g ∧ ((v = 0 ∧ fwF r R = none) ∨ (v = 1 ∧ fwF r R = some (mv_l g B 64))) := by
  obtain ⟨S, X, L, I, U⟩ := W
  have fe := X.2.1
  unfold FEg at fe
  rw [hp] at fe
  have fe : (r.1.lk p.1).1 = 1 ∧ (r.1.lk p.2).1 = 2 ∧ mv_i h B 18 = nI (r.2.1 p.1) ∧ mv_i h B 21 = nI (r.2.1 p.2) := fe
  obtain ⟨u1, u2⟩ := I.1 p.1 fe.1
  obtain ⟨w1, w2, -⟩ := I.2.1 p.2 fe.2.1
  have b8 := I.2.2.2.1
  have t6 := I.2.2.1
  obtain ⟨-, -, -, s6⟩ := S.2.2.2.2.2.2 _ u1
  obtain ⟨-, -, s4, s6'⟩ := S.2.2.2.2.2.2 _ w1
  have hc := I.c w1
  have n6 : ¬ mv_a h (B + 6) (r.2.1 p.2) = 0 := fun q => by have := s6'.mp q; omega
  have eR : mv_b h (B + 27) (r.2.1 p.1) = R (r.2.1 p.1) 0 := by
    have := V (r.2.1 p.1) 0 u1 (ncT_1 _)
    unfold bsV at this
    rw [if_pos (s6.mpr u2)] at this
    exact this
  have eC : nI (r.1.tl.getD (r.2.1 p.2) (0, 0, false)).2.1 - nI r.1.bits / (8 : Int32) = nI (r.1.tl.getD (r.2.1 p.2) (0, 0, false)).2.1 - nI (r.1.bits / 8) := by rw [nId8 (by omega)]
  have iC : ((nI (r.1.tl.getD (r.2.1 p.2) (0, 0, false)).2.1 - nI (r.1.bits / 8)).toInt64).toInt = ((r.1.tl.getD (r.2.1 p.2) (0, 0, false)).2.1 : Int) - (r.1.bits / 8 : Nat) := by
    rw [Int32.toInt_toInt64, i32_sub (by rw [nIi (by omega), nIi (by omega)]; omega) (by rw [nIi (by omega), nIi (by omega)]; omega), nIi (by omega), nIi (by omega)]
  unfold f_Book_fetchWord
  rw [fe.2.2.1, fe.2.2.2, xvi_n (show r.2.1 p.1 < 4100 by omega) (by decide), cond_true, xvi_n (show r.2.1 p.2 < 4100 by omega) (by decide), cond_true, cln (by omega), cln (by omega), eR, s4, S.1, eC, fwF_e hp]
  generalize hx : R (r.2.1 p.1) 0 = x at *
  unfold f_Model_in f_Model_in_17
  by_cases c1 : lg_cmp x 0 < (0 : Int32)
  · rw [if_pos c1, xzb01.1, cond_true, xhb_s, if_pos rfl, cond_true]
    have c1 := (lg_cmp_lt _ _).mp c1
    rw [Int64.lt_iff_toInt_lt] at c1
    simp only [Int64.reduceToInt] at c1
    exact ⟨0, h, rfl, ⟨rfl, rfl, fun _ _ _ => rfl⟩, Or.inl ⟨rfl, if_neg (fun q => by omega)⟩⟩
  rw [if_neg c1]
  have c1 := mt (lg_cmp_lt x 0).mpr c1
  rw [Int64.lt_iff_toInt_lt] at c1
  simp only [Int64.reduceToInt] at c1
  by_cases c2 : (0 : Int32) < lg_cmp x ((nI (r.1.tl.getD (r.2.1 p.2) (0, 0, false)).2.1 - nI (r.1.bits / 8)).toInt64)
  · rw [if_pos c2, xzb01.1, cond_true, xhb_s, if_pos rfl, cond_true]
    have c3 : ¬ lg_cmp x ((nI (r.1.tl.getD (r.2.1 p.2) (0, 0, false)).2.1 - nI (r.1.bits / 8)).toInt64) ≤ 0 := Int32.not_le.mpr c2
    have c3 := mt (lg_cmp_le _ _).mpr c3
    rw [Int64.le_iff_toInt_le, iC] at c3
    exact ⟨0, h, rfl, ⟨rfl, rfl, fun _ _ _ => rfl⟩, Or.inl ⟨rfl, if_neg (fun q => by omega)⟩⟩
  · rw [if_neg c2, xzb01.2, cond_true, xhb_s, if_neg (by decide), xk_s]
    have c3 := (lg_cmp_le _ _).mp (Int32.not_lt.mp c2)
    rw [Int64.le_iff_toInt_le, iC] at c3
    have ex : x.toInt32 = nI x.toInt.toNat := nI_o2 (by rw [l2i_nn (by omega) (by omega)]; omega)
    have d0 : LFr B h (mv_sl h B 64 0) := ⟨rfl, rfl, fun o k q => mv_u_ne (mv_l h) _ q⟩
    obtain ⟨g', e, d', l'⟩ := fw_lp (B := B) (h := h) (a := atL r.1.tl (r.2.1 p.2)) (p := x.toInt.toNat) (f := r.2.1 p.2) (x1 := x) (by omega) fe.2.2.2 (L _ w1) ex (r.1.bits / 8) 200000 (mv_sl h B 64 0) (by omega) (by omega) d0
    rw [nId8 (by omega), e]
    refine ⟨1, g', rfl, d', Or.inr ⟨rfl, ?_⟩⟩
    rw [if_pos (by omega), l', show mv_l (mv_sl h B 64 0) B 64 = 0 from mv_u_same (mv_l h) B 64 0]
    refine congrArg some (wdL_c _ _ (fun i hi => ?_))
    have := V (r.2.1 p.2) (x.toInt.toNat + i) w1 (by unfold ncT; rw [if_neg (by omega)]; omega)
    unfold bsV at this
    rw [if_neg n6, L _ w1, cln (by omega)] at this
    rw [← this, Nat.add_assoc]
theorem mone_e {p : List Nat × List Nat} (hB : B = 74 ∨ B = 108) (W : RWb B r h) (V : BVr B r h R) (F : FTr r R) (h11 : mv_i h 70 11 = 0) (hp : r.1.fe = some p) : ∃ h', f_Model_one B h = some h' ∧ MSf B h h' ∧ ((fwF r R = none ∧ BVr B r h' R ∧ mv_i h' 70 14 = -1 ∧ mv_i h' 70 12 = mv_i h 70 12 ∧ mv_i h' 70 13 = mv_i h 70 13 + 1) ∨ ∃ w, fwF r R = some w ∧ MTr B r w R h h') ∧ (mv_i h 70 2 = 0 → mv_i h' 70 2 = 0) := by
  obtain ⟨v, g, e, d, q⟩ := fwd_e W V hp
  unfold f_Model_one
  rw [if_pos h11, e, xhb_s]
  have fg := d.ms
  rcases q with ⟨q1, q2⟩ | ⟨q1, q2⟩
  · obtain ⟨h', e7, f7, t14, t12, t13, t2, tb, ta⟩ := told_e (B := B) g (-1)
    rw [q1, if_pos rfl, e7, xhv_s]
    rw [if_neg (by decide)] at t12 t13
    refine ⟨h', rfl, fg.tr f7, Or.inl ⟨q2, fun t i ht hi => ?_, t14, by rw [t12, d.i], by rw [t13, d.i]⟩, fun z => by rw [t2, d.i]; exact z⟩
    rw [bsV_b (ta.trans d.a) (tb.trans d.b)]
    exact V t i ht hi
  · rw [q1, if_neg (by decide)]
    have W1 := W.ms hB fg
    obtain ⟨v8, g7, e7, f7, gv, D, eb, ea, g2, gk, gl⟩ := mdc_e hB (mv_l g B 64) W1 (by rw [d.i]; exact h11)
    unfold f_Book_fetched
    rw [xhb_s, e7, xhb_s]
    have W2 := W1.ms hB f7
    have V2 : BVr B r g7 R := fun t i ht hi => by rw [bsV_b (ea.trans d.a) (eb.trans d.b)]; exact V t i ht hi
    have k12 : ∀ k, k = 12 ∨ k = 13 ∨ k = 14 → mv_i g7 70 k = mv_i h 70 k := fun k hk => (gk k hk).trans (by rw [d.i])
    by_cases c : (0 : Int32) ≤ v8
    · rw [← gv] at D
      obtain ⟨g6, e6, q6, V6, F6⟩ := bst_e W2 V2 F D
      obtain ⟨h', e8, f8, t14, t12, t13, t2, tb, ta⟩ := told_e (B := B) g6 (stF r (mv_l g B 64) R).1
      have i6 : ∀ k, mv_i g6 70 k = mv_i g7 70 k := fun k => q6.2.2.1 70 k (by omega)
      unfold f_Model_one_153
      rw [if_pos c, xhb_s, gl, e6, xhb_s, e8, xhv_s]
      exact ⟨h', rfl, ((fg.tr f7).q q6).tr f8, Or.inr ⟨_, q2, fun t i ht hi => by rw [bsV_b ta tb]; exact V6 t i ht hi, F6, t14, by rw [t12, i6, k12 12 (by omega)], by rw [t13, i6, k12 13 (by omega)]⟩, fun _ => by rw [t2, i6, g2]⟩
    · have hv : v8 < 0 := Int32.not_le.mp c
      have sf := stF_n (R := R) (dcV_e W.2.2.2.2 D) hv
      obtain ⟨h', e8, f8, t14, t12, t13, t2, tb, ta⟩ := told_e (B := B) g7 (-2)
      unfold f_Model_one_153
      rw [if_neg c, e8, xhv_s]
      refine ⟨h', rfl, (fg.tr f7).tr f8, Or.inr ⟨_, q2, ?_, ?_, ?_, ?_, ?_⟩, fun _ => by rw [t2, g2]⟩
      · rw [sf]
        exact fun t i ht hi => by rw [bsV_b ta tb]; exact V2 t i ht hi
      · rw [sf]; exact F
      · rw [sf]; exact t14
      · rw [sf, t12, if_neg (by decide), k12 12 (by omega)]
        exact (if_neg (show ¬ (-2 : Int32) = 0 by decide)).symm
      · rw [sf, t13, if_neg (by decide), k12 13 (by omega)]
        exact (if_neg (show ¬ (-2 : Int32) = 0 by decide)).symm
/-- what a run of the reference leaves -/
def RMr (B : Nat) (r : SI × LZ × List DnS) (N : Nat) (R : Nat → Nat → Int64) (h h' : mv_H) (v : Int32) : Prop := v = nI (rnF r N R).1 ∧ mv_i h' 70 14 = (rnF r N R).2.1 ∧ BVr B r h' (rnF r N R).2.2 ∧ FTr r (rnF r N R).2.2 ∧ mv_i h' 70 12 = mv_i h 70 12 + nI (rnF r N R).1 ∧ mv_i h' 70 13 = (if (rnF r N R).2.1 = 0 then mv_i h 70 13 else mv_i h 70 13 + 1)
theorem mrun_lp {p : List Nat × List Nat} {N : Nat} {h0 : mv_H} {R0 : Nat → Nat → Int64} (hB : B = 74 ∨ B = 108) (hp : r.1.fe = some p) (hN : N ≤ 500) : ∀ (m j nn : Nat) (h : mv_H) (R : Nat → Nat → Int64), j + m = N → m < nn → MSf B h0 h → RWb B r h → BVr B r h R → FTr r R → mv_i h 70 11 = 0 → mv_i h 70 14 = 0 → mv_i h 70 12 = mv_i h0 70 12 + nI j → mv_i h 70 13 = mv_i h0 70 13 → mv_i h 70 2 = 0 → rnF r N R0 = (j + (rnF r m R).1, (rnF r m R).2) → ∃ v h', f_Model_run_58 B nn (nI N) (nI j) h = some (v, h') ∧ MSf B h0 h' ∧ RMr B r N R0 h0 h' v ∧ mv_i h' 70 2 = 0 := by
  intro m
  induction m with
  | zero =>
    intro j nn h R hj hn f W V F h11 h14 h12 h13 h2 e
    obtain ⟨nn, rfl⟩ : ∃ q, nn = q + 1 := ⟨nn - 1, by omega⟩
    obtain rfl : j = N := by omega
    show ∃ v h', fF_Model_run_58 B (f_Model_run_58 B nn) (nI j) (nI j) h = some (v, h') ∧ _
    unfold fF_Model_run_58
    rw [if_pos (Int32.le_refl _)]
    have e : rnF r j R0 = (j, 0, R) := e
    refine ⟨_, h, rfl, f, ?_, h2⟩
    unfold RMr
    rw [e]
    exact ⟨rfl, h14, V, F, h12, by rw [if_pos rfl]; exact h13⟩
  | succ m ih =>
    intro j nn h R hj hn f W V F h11 h14 h12 h13 h2 e
    obtain ⟨nn, rfl⟩ : ∃ q, nn = q + 1 := ⟨nn - 1, by omega⟩
    show ∃ v h', fF_Model_run_58 B (f_Model_run_58 B nn) (nI N) (nI j) h = some (v, h') ∧ _
    unfold fF_Model_run_58
    obtain ⟨g, eg, fg, q, g2⟩ := mone_e hB W V F h11 hp
    have g2 := g2 h2
    rw [if_neg (fun z => by have := (nIle (by omega) (by omega)).mp z; omega), eg, xhv_s]
    rcases q with ⟨q1, q2, q3, q4, q5⟩ | ⟨w, q1, q2, q3, q4, q5, q6⟩
    · rw [if_neg (by rw [q3]; decide)]
      rw [rnF_n q1] at e
      have e : rnF r N R0 = (j, -1, R) := e
      refine ⟨_, g, rfl, f.tr fg, ?_, g2⟩
      unfold RMr
      rw [e]
      exact ⟨rfl, q3, q2, F, by rw [q4, h12], by rw [if_neg (show ¬ (-1 : Int32) = 0 by decide), q5, h13]⟩
    · rw [rnF_s q1] at e
      by_cases c : (stF r w R).1 = 0
      · rw [if_pos c] at e q5 q6
        rw [if_pos (q4.trans c), nI1 (by omega)]
        refine ih (j + 1) nn g (stF r w R).2 (by omega) (by omega) (f.tr fg) (W.ms hB fg) q2 q3 ((fg.2.2.1 70 11 (by omega) (by omega)).trans h11) (q4.trans c) ?_ (q6.trans h13) g2 ?_
        · rw [q5, h12, Int32.add_assoc, show (1 : Int32) = nI 1 from rfl, nIad (by omega)]
        · rw [e, show j + 1 + (rnF r m (stF r w R).2).1 = j + ((rnF r m (stF r w R).2).1 + 1) by omega]
      · rw [if_neg c] at e q5 q6
        rw [if_neg (fun z => c (q4.symm.trans z))]
        have e : rnF r N R0 = (j, (stF r w R).1, (stF r w R).2) := e
        refine ⟨_, g, rfl, f.tr fg, ?_, g2⟩
        unfold RMr
        rw [e]
        exact ⟨rfl, q4, q2, q3, by rw [q5, h12], by rw [if_neg c, q6, h13]⟩
theorem mrun_e {N : Nat} (hB : B = 74 ∨ B = 108) (W : RWb B r h) (V : BVr B r h R) (F : FTr r R) (h11 : mv_i h 70 11 = 0) (hN : 0 < N) (hN5 : N ≤ 500) (h18 : 0 ≤ mv_i h B 18) : ∃ v h', f_Model_run B h (nI N) = some (v, h') ∧ MSf B h h' ∧ RMr B r N R h h' v ∧ mv_i h' 70 2 = 0 := by
  obtain ⟨p, hp⟩ : ∃ p, r.1.fe = some p := by
    have fe := W.2.1.2.1
    unfold FEg at fe
    revert fe
    cases r.1.fe with
    | none =>
      intro fe
      have fe : mv_i h B 18 = -1 ∧ mv_i h B 21 = -1 := fe
      rw [fe.1] at h18
      exact absurd h18 (by decide)
    | some p => exact fun _ => ⟨p, rfl⟩
  have f1 : MSf B h (mv_si (mv_si h 70 2 0) 70 14 0) := ((MSf.rf h).si (by omega) 0).si (by omega) 0
  have i9 : ∀ k, ¬ k = 2 → ¬ k = 14 → mv_i (mv_si (mv_si h 70 2 0) 70 14 0) 70 k = mv_i h 70 k := fun k a b => (mv_si_o _ _ (by omega)).trans (mv_si_o _ _ (by omega))
  obtain ⟨v, h', e, q1, q2, q3⟩ := mrun_lp (h0 := h) (R0 := R) hB hp hN5 N 0 200000 (mv_si (mv_si h 70 2 0) 70 14 0) R (by omega) (by omega) f1 (W.ms hB f1) (fun t i ht hi => V t i ht hi) F ((i9 11 (by omega) (by omega)).trans h11) (mv_si_s _ _ _ _) (by rw [i9 12 (by omega) (by omega), show nI 0 = (0 : Int32) from rfl, Int32.add_zero]) (i9 13 (by omega) (by omega)) ((mv_si_o _ _ (by omega)).trans (mv_si_s _ _ _ _)) (by rw [Nat.zero_add])
  refine ⟨v, h', ?_, q1, q2, q3⟩
  unfold f_Model_run f_Model_run_38 f_Model_run_39
  rw [if_neg (fun z => by have := (nIlt (a := N) (b := 1) (by omega) (by omega)).mp z; omega), if_pos (show nI N ≤ (500 : Int32) from (nIle (a := N) (b := 500) (by omega) (by omega)).mpr hN5), if_pos h11, if_pos h18, xk_s, show mv_i (mv_si h 70 2 0) 70 2 = 0 from mv_si_s _ _ _ _, if_pos (by decide), xk_s]
  exact e
end MST
