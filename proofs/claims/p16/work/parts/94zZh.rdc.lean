/-! the reference decodes -/
def FTx (x : Nat → Nat) (L : Nat) (w : Int64) (i : Nat) : Prop := (x i = 48 → w.toBitVec.getLsbD (L - 1 - i) = false) ∧ (x i = 49 → w.toBitVec.getLsbD (L - 1 - i) = true)
theorem fit_lp {B L c o : Nat} {h : mv_H} {w : Int64} {x : Nat → Nat} (hL : mv_i h B 20 = nI L) (hL6 : L ≤ 64) (ho : o < 4100) (hc : mv_a h (B + 10) o = nI c) (hcL : c + L ≤ 32768) (hx : ∀ k, k < L → mv_a h (B + 13) (c + k) = sb (x k) ∧ x k < 256) : ∀ (m k nn : Nat), k + m = L → m < nn → (∀ i, i < k → FTx x L w i) → ∃ v, f_Book_fits_1_3 B nn (nI o) w (nI k) h = some (v, h) ∧ ((v = 1 ∧ ∀ i, i < L → FTx x L w i) ∨ (v = 0 ∧ ¬ ∀ i, i < L → FTx x L w i)) := by
  intro m
  induction m with
  | zero =>
    intro k nn hk hn hi
    obtain ⟨nn, rfl⟩ : ∃ q, nn = q + 1 := ⟨nn - 1, by omega⟩
    obtain rfl : k = L := by omega
    show ∃ v, fF_Book_fits_1_3 B (f_Book_fits_1_3 B nn) (nI o) w (nI k) h = some (v, h) ∧ _
    unfold fF_Book_fits_1_3
    rw [hL, if_pos (Int32.le_refl _), xzb01.2, cond_true]
    exact ⟨1, rfl, Or.inl ⟨rfl, hi⟩⟩
  | succ m ih =>
    intro k nn hk hn hi
    obtain ⟨nn, rfl⟩ : ∃ q, nn = q + 1 := ⟨nn - 1, by omega⟩
    obtain ⟨x1, x2⟩ := hx k (by omega)
    obtain ⟨s1, s2⟩ := sb_e (x k) x2
    have go : FTx x L w k → ∃ v, f_Book_fits_1_67 B (f_Book_fits_1_3 B nn) (nI o) w (nI k) h = some (v, h) ∧ ((v = 1 ∧ ∀ i, i < L → FTx x L w i) ∨ (v = 0 ∧ ¬ ∀ i, i < L → FTx x L w i)) := fun hf => by
      unfold f_Book_fits_1_67
      rw [nI1 (by omega)]
      exact ih (k + 1) nn (by omega) (by omega) (fun i hi2 => by
        by_cases y : i = k
        · rw [y]; exact hf
        · exact hi i (by omega))
    have e0 : (nI L - 1 - nI k).toInt = ((L - 1 - k : Nat) : Int) := by
      rw [show (1 : Int32) = nI 1 from rfl, nIsub (by omega) (by omega), nIsub (by omega) (by omega), nIi (by omega)]
    have fc := ft_c (w := w) (n := nI L - 1 - nI k) (x := sb (x k)) (q := L - 1 - k) e0 (by omega)
    have g42 : (sb (x k) = 48 ∨ sb (x k) = 49) → ∃ v, f_Book_fits_1_42 B (f_Book_fits_1_3 B nn) (nI o) w (nI k) (sb (x k)) h = some (v, h) ∧ ((v = 1 ∧ ∀ i, i < L → FTx x L w i) ∨ (v = 0 ∧ ¬ ∀ i, i < L → FTx x L w i)) := fun hs => by
      unfold f_Book_fits_1_42
      rw [hL]
      by_cases y : lg_cmp (((sb (x k) - (48 : Int32))).toInt64) (((w.toUInt64 >>> ((nI L - 1 - nI k).toInt64.toUInt64 &&& Int64.toUInt64 63)).toInt64) &&& (1 : Int64)) = (0 : Int32)
      · rw [if_pos y]
        have := fc.1 y
        exact go ⟨fun q => this.1 (s1.mpr q), fun q => this.2 (s2.mpr q)⟩
      · rw [if_neg y, xzb01.1, cond_true]
        have := fc.2 y hs
        exact ⟨0, rfl, Or.inr ⟨rfl, fun q => this ⟨fun z => (q k (by omega)).1 (s1.mp z), fun z => (q k (by omega)).2 (s2.mp z)⟩⟩⟩
    show ∃ v, fF_Book_fits_1_3 B (f_Book_fits_1_3 B nn) (nI o) w (nI k) h = some (v, h) ∧ _
    unfold fF_Book_fits_1_3
    rw [hL, if_neg (fun q => by have := (nIle (by omega) (by omega)).mp q; omega), xvi_n ho (by decide), cond_true, cln (by omega), hc, nIad (by omega), xvi_n (show c + k < 32768 by omega) (by decide), cond_true, cln (by omega), x1]
    by_cases c8 : sb (x k) = 48
    · rw [if_pos c8]; exact g42 (Or.inl c8)
    rw [if_neg c8]
    by_cases c9 : sb (x k) = 49
    · rw [if_pos c9]; exact g42 (Or.inr c9)
    rw [if_neg c9]
    exact go ⟨fun q => absurd (s1.mpr q) c8, fun q => absurd (s2.mpr q) c9⟩
/-- only the book's current op changes -/
def D63 (B : Nat) (h g : mv_H) : Prop := g.2 = h.2 ∧ ∀ o k, ¬ (o = B ∧ k = 63) → mv_i g o k = mv_i h o k
theorem D63.si {B : Nat} {h g : mv_H} (d : D63 B h g) (x : Int32) : D63 B h (mv_si g B 63 x) := ⟨d.1, fun o k q => (mv_si_o g _ q).trans (d.2 o k q)⟩
theorem D63.a {B : Nat} {h g : mv_H} (d : D63 B h g) : mv_a g = mv_a h := by
  show g.2.2.2.1 = h.2.2.2.1
  rw [d.1]
theorem D63.b {B : Nat} {h g : mv_H} (d : D63 B h g) : mv_b g = mv_b h := by
  show g.2.2.2.2 = h.2.2.2.2
  rw [d.1]
theorem fit_e {B : Nat} {s : SI} {h : mv_H} {a : Nat} (w : Int64) (hN : SRt B s h) (hb : s.bits ≤ 64) (ha : a < s.ops.length) : ∃ v, f_Book_fits_1 B h (nI a) w = some (v, h) ∧ ((v = 1 ∧ MtS s w a) ∨ (v = 0 ∧ ¬ MtS s w a)) := by
  obtain ⟨b1, -, -, b4, b5, b6, -⟩ := hN
  obtain ⟨-, c, c1, c2, c3⟩ := b6 a ha
  obtain ⟨v, e, q⟩ := fit_lp (x := fun k => (s.ops.getD a ([], [])).2.getD k 0) (w := w) b1 hb (o := a) (by omega) c1 c2 c3 s.bits 0 200000 (by omega) (by omega) (fun i hi => absurd hi (Nat.not_lt_zero _))
  refine ⟨v, e, ?_⟩
  have m : MtS s w a ↔ ∀ i, i < s.bits → FTx (fun k => (s.ops.getD a ([], [])).2.getD k 0) s.bits w i := mt_bits (x := fun i => (s.ops.getD a ([], [])).2.getD i 0) hb
  rw [m]
  exact q
theorem SRt.d {B : Nat} {s : SI} {h g : mv_H} (hN : SRt B s h) (d : D63 B h g) : SRt B s g := by
  unfold SRt
  rw [d.a, d.2 B 20 (by omega), d.2 B 17 (by omega), d.2 B 19 (by omega), d.2 B 29 (by omega)]
  exact hN
theorem dec_lq {B : Nat} {s : SI} {h : mv_H} {w : Int64} (hN : SRt B s h) (hb : s.bits ≤ 64) (hU : UQs s) : ∀ (m k nn : Nat) (g : mv_H) (cnt : Int32), k + m = s.ops.length → m < nn → D63 B h g → ((mv_i g B 63 = -1 ∧ cnt = 0 ∧ ∀ a, a < k → ¬ MtS s w a) ∨ ∃ a, a < k ∧ mv_i g B 63 = nI a ∧ cnt = 1 ∧ MtS s w a) → ∃ cnt' g', f_Book_decode_10 B nn w cnt (nI k) g = some (cnt', g') ∧ D63 B h g' ∧ ((mv_i g' B 63 = -1 ∧ cnt' = 0 ∧ ∀ a, a < s.ops.length → ¬ MtS s w a) ∨ ∃ a, a < s.ops.length ∧ mv_i g' B 63 = nI a ∧ cnt' = 1 ∧ MtS s w a) := by
  have b5 := hN.2.2.2.2.1
  intro m
  induction m with
  | zero =>
    intro k nn g cnt hk hn d i
    obtain ⟨nn, rfl⟩ : ∃ q, nn = q + 1 := ⟨nn - 1, by omega⟩
    obtain rfl : k = s.ops.length := by omega
    show ∃ cnt' g', fF_Book_decode_10 B (f_Book_decode_10 B nn) w cnt (nI s.ops.length) g = some (cnt', g') ∧ _
    unfold fF_Book_decode_10
    rw [d.2 B 29 (by omega), hN.2.2.2.1, if_pos (Int32.le_refl _)]
    exact ⟨cnt, g, rfl, d, i⟩
  | succ m ih =>
    intro k nn g cnt hk hn d i
    obtain ⟨nn, rfl⟩ : ∃ q, nn = q + 1 := ⟨nn - 1, by omega⟩
    obtain ⟨v, ev, q⟩ := fit_e w (hN.d d) hb (a := k) (by omega)
    show ∃ cnt' g', fF_Book_decode_10 B (f_Book_decode_10 B nn) w cnt (nI k) g = some (cnt', g') ∧ _
    unfold fF_Book_decode_10 f_Book_decode_42 f_Book_decode_45
    rw [d.2 B 29 (by omega), hN.2.2.2.1, if_neg (fun z => by have := (nIle (by omega) (by omega)).mp z; omega), ev, xhb_s, nI1 (by omega)]
    rcases q with ⟨v1, hm⟩ | ⟨v0, hm⟩
    · rw [v1, if_neg (by decide)]
      rcases i with ⟨i1, i2, i3⟩ | ⟨a, a1, a2, a3, a4⟩
      · rw [i2, if_pos rfl, xk_s]
        exact ih (k + 1) nn _ _ (by omega) (by omega) (d.si _) (Or.inr ⟨k, by omega, mv_si_s _ _ _ _, rfl, hm⟩)
      · exact absurd (hU w a k (by omega) (by omega) a4 hm) (by omega)
    · rw [v0, if_pos rfl]
      refine ih (k + 1) nn _ _ (by omega) (by omega) d ?_
      rcases i with ⟨i1, i2, i3⟩ | ⟨a, a1, a2, a3, a4⟩
      · exact Or.inl ⟨i1, i2, fun a ha => by
          by_cases y : a = k
          · rw [y]; exact hm
          · exact i3 a (by omega)⟩
      · exact Or.inr ⟨a, by omega, a2, a3, a4⟩
theorem dec_e {B : Nat} {s : SI} {h : mv_H} (w : Int64) (hN : SRt B s h) (hb : s.bits ≤ 64) (hU : UQs s) : ∃ cnt g, f_Book_decode B h w = some (cnt, g) ∧ D63 B h g ∧ DCs s w (mv_i g B 63) ∧ cnt ≤ 1 := by
  have b5 := hN.2.2.2.2.1
  have d0 : D63 B h (mv_si h B 63 (-1)) := ⟨rfl, fun o k q => mv_si_o h _ q⟩
  obtain ⟨cnt, g, e, d, q⟩ := dec_lq (w := w) hN hb hU s.ops.length 0 200000 (mv_si h B 63 (-1)) 0 (by omega) (by omega) d0 (Or.inl ⟨mv_si_s _ _ _ _, rfl, fun a ha => absurd ha (Nat.not_lt_zero _)⟩)
  refine ⟨cnt, g, ?_, d, ?_, ?_⟩
  · unfold f_Book_decode
    rw [xk_s]
    exact e
  · rcases q with ⟨q1, -, q3⟩ | ⟨a, a1, a2, -, a4⟩
    · exact Or.inl ⟨q1, q3⟩
    · exact Or.inr ⟨a, a1, a2, a4⟩
  · rcases q with ⟨-, q2, -⟩ | ⟨a, -, -, q2, -⟩ <;> rw [q2] <;> decide
/-! the reference's machine -/
/-- where the THINGS' cells lie -/
def PLr (B : Nat) (r : SI × LZ × List DnS) (h : mv_H) : Prop := ∀ t, t < r.1.tl.length → mv_a h (B + 5) t = nI (atL r.1.tl t)
/-- the book that was read -/
def RWb (B : Nat) (r : SI × LZ × List DnS) (h : mv_H) : Prop := SRt B r.1 h ∧ XBk B r h ∧ PLr B r h ∧ ITq r.1 r.2.1 ∧ UQs r.1
def BVr (B : Nat) (r : SI × LZ × List DnS) (h : mv_H) (R : Nat → Nat → Int64) : Prop := ∀ t i, t < r.1.tl.length → i < ncT (r.1.tl.getD t (0, 0, false)) → bsV B h t i = R t i
def FTr (r : SI × LZ × List DnS) (R : Nat → Nat → Int64) : Prop := ∀ t i, t < r.1.tl.length → i < ncT (r.1.tl.getD t (0, 0, false)) → FTq (r.1.tl.getD t (0, 0, false)).1 (R t i)
theorem ITq.c {s : SI} {lz : LZ} (I : ITq s lz) {t : Nat} (ht : t < s.tl.length) : atL s.tl t + (s.tl.getD t (0, 0, false)).2.1 ≤ 65536 := by
  have h1 := atL_n s.tl t ht
  have h2 := atL_le s.tl (t + 1)
  have h3 := I.2.2.1
  omega
theorem RWb.tb {B : Nat} {r : SI × LZ × List DnS} {h : mv_H} (W : RWb B r h) (w : Int64) : TBr B (eW r w) r.1.tl.length h ∧ ATr B (eW r w) r.1.tl.length (atL r.1.tl) h := by
  obtain ⟨S, X, L, I, -⟩ := W
  refine ⟨⟨I.2.2.1.2.2, fun t ht => ?_⟩, fun t ht => ?_⟩
  · obtain ⟨-, s1, s2, s3⟩ := S.2.2.2.2.2.2 t ht
    obtain ⟨z1, z2⟩ := X.2.2.1 t ht
    have hc := I.c ht
    obtain ⟨i1, i2⟩ := I.2.2.2.2.2 t ht
    exact ⟨s2, by show (r.1.tl.getD t (0, 0, false)).2.1 ≤ 65536; omega, s3, fun _ => ⟨atL r.1.tl t, L t ht, hc⟩, ⟨s1, i1⟩, z1, z2⟩
  · refine ⟨L t ht, I.c ht, fun t' h1 h2 => ?_⟩
    show atL r.1.tl t + (r.1.tl.getD t (0, 0, false)).2.1 ≤ atL r.1.tl t'
    rw [atL_n r.1.tl t ht]
    have := atL_mo r.1.tl (t + 1) (t' - (t + 1)) (by omega)
    rw [show t + 1 + (t' - (t + 1)) = t' by omega] at this
    exact this
theorem RWb.li {B : Nat} {r : SI × LZ × List DnS} {h : mv_H} (W : RWb B r h) : LIq r := fun o ho w l l' x => by
  obtain ⟨n, lo, hi, LW', BK, -⟩ := W.2.1.2.2.2.2 o ho
  exact BK.in0 (eW r w) l l' x
theorem RWb.fr {B : Nat} {r : SI × LZ × List DnS} {h : mv_H} (W : RWb B r h) (w : Int64) : FRr B r.1.tl.length (eW r w) (frR r) h := by
  obtain ⟨-, X, -, I, -⟩ := W
  have fe := X.2.1
  have i7 := I.2.2.2.2.1
  have i1 := I.1
  unfold FEg at fe
  unfold FRr frR
  revert fe i7
  cases r.1.fe with
  | none =>
    intro fe _
    have fe : mv_i h B 18 = -1 ∧ mv_i h B 21 = -1 := fe
    exact Or.inl ⟨rfl, by rw [fe.1]; decide⟩
  | some p =>
    intro fe i7
    have fe : (r.1.lk p.1).1 = 1 ∧ (r.1.lk p.2).1 = 2 ∧ mv_i h B 18 = nI (r.2.1 p.1) ∧ mv_i h B 21 = nI (r.2.1 p.2) := fe
    obtain ⟨u1, u2⟩ := i1 p.1 fe.1
    exact Or.inr ⟨_, rfl, u1, fe.2.2.1, u2⟩
theorem RWb.d {B : Nat} {r : SI × LZ × List DnS} {h g : mv_H} (W : RWb B r h) (d : D63 B h g) : RWb B r g := by
  obtain ⟨S, X, L, I, U⟩ := W
  refine ⟨S.d d, X.fr (fun k hk => d.2 B k (by omega)) (fun o k _ _ _ => by rw [d.a]) (fun k _ => by rw [d.b]) (fun o k _ _ => by rw [d.a]), fun t ht => by rw [d.a]; exact L t ht, I, U⟩
theorem bsV_d {B : Nat} {h g : mv_H} (d : D63 B h g) : bsV B g = bsV B h := by
  funext a b
  unfold bsV
  rw [d.a, d.b]
theorem sb_c : ∀ (x : Fin 256) (c : Fin 128), sb x.val = nI c.val ↔ x.val = c.val := by decide +kernel
/-- a STEP of the book, whatever it has decoded -/
theorem bst_e {B : Nat} {r : SI × LZ × List DnS} {h : mv_H} {R : Nat → Nat → Int64} {w : Int64} (W : RWb B r h) (V : BVr B r h R) (F : FTr r R) (D : DCs r.1 w (mv_i h B 63)) : ∃ h', f_Book_step B h w = some ((stF r w R).1, h') ∧ QFr B h h' ∧ BVr B r h' (stF r w R).2 ∧ FTr r (stF r w R).2 := by
  have ed := dcV_e W.2.2.2.2 D
  have b5 := W.1.2.2.2.2.1
  rcases D with ⟨q, -⟩ | ⟨o, o1, o2, -⟩
  · have e := stF_n (R := R) ed (by rw [q]; decide)
    obtain ⟨h', x1, x2, x3⟩ := stp_N (h := h) w (by rw [q]; decide)
    refine ⟨h', by rw [e]; exact x1, x2, ?_, ?_⟩
    · rw [e]
      intro t i ht hi
      rw [x3]
      exact V t i ht hi
    · rw [e]; exact F
  · rw [o2] at ed
    obtain ⟨TB9, AT9⟩ := W.tb w
    obtain ⟨n, lo, hi, LW', BK, hhi⟩ := W.2.1.2.2.2.2 o o1
    obtain ⟨s1, s2⟩ := W.1.2.2.2.2.2.1 o o1
    have hb : r.1.bits ≤ 64 := by have := W.2.2.2.1.2.2.2.1; omega
    have CO : COr B (r.1.ops.getD o ([], [])).2 h := by
      obtain ⟨c, c1, c2, c3⟩ := s2
      refine ⟨by omega, by rw [s1]; exact W.1.1, o, c, by omega, o2, c1, by omega, fun ch k hc hk => ?_⟩
      rw [s1] at hk
      obtain ⟨y1, y2⟩ := c3 k hk
      rw [y1]
      exact sb_c ⟨_, y2⟩ ⟨ch, hc⟩
    have sf := stF_o (R := R) W.li ed o1 (by omega) (mv_b h (B + 26))
    obtain ⟨h', x1, x2, x3, x4⟩ := stp_V (r := R) (fr := frR r) TB9 AT9 CO o2 (by omega) (W.fr w) (fun t i ht hi => V t i ht hi) (fun t i ht hi => F t i ht hi) BK (by omega) (by omega)
    rw [s1] at x3 x4
    refine ⟨h', ?_, x2, ?_, ?_⟩
    · rw [sf]
      exact x1
    · rw [sf]
      intro t i ht hi
      have := x3 t i ht hi
      rw [this]
      show _ = (if (bdO r o (eW r w) (mv_b h (B + 26), R, fun _ => false)).1 = 0 then gfT (eW r w) r.1.bits (frR r) (bdO r o (eW r w) (mv_b h (B + 26), R, fun _ => false)).2 else R) t i
      by_cases y : (bdO r o (eW r w) (mv_b h (B + 26), R, fun _ => false)).1 = 0
      · rw [if_pos y]
        exact if_pos y
      · rw [if_neg y]
        exact if_neg y
    · rw [sf]
      show FTr r (if (bdO r o (eW r w) (mv_b h (B + 26), R, fun _ => false)).1 = 0 then gfT (eW r w) r.1.bits (frR r) (bdO r o (eW r w) (mv_b h (B + 26), R, fun _ => false)).2 else R)
      by_cases y : (bdO r o (eW r w) (mv_b h (B + 26), R, fun _ => false)).1 = 0
      · rw [if_pos y]
        exact fun t i ht hi => x4 y t i ht hi
      · rw [if_neg y]; exact F
